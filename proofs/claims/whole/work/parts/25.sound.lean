set_option maxHeartbeats 4000000 in
set_option maxRecDepth 100000 in
theorem m_12_end {l : Launch} {Z : jE} {n : Nat} {C : jC} {v1 : Int} {post : Int → jC → Prop} (rv1 : jRng v1) (hw0 : jWF n C) (h : wp_12_end v1 C post) : jCi l y_12_end prog_14_method_28_code 2 (.boolean) q_12_end Z n C [jr Z 345, jI v1] post := by
  have hn := hw0.2.2.1
  unfold wp_12_end at h
  refine jCi_of (lv0 := [(0, jr Z 345), (1, jI v1)]) (by decide) (Nat.le_of_ble_eq_true rfl) rfl ?_
  intro p e s m args below meth c A sz X hAe hr hlocks
  refine jg_aload_n (pc := 0) X d_12_end_0 0 rfl ?_
  refine jg_iconst (pc := 1) X d_12_end_1 ?_
  refine jgp_12_0 (pc := 2) X (jl_345_12 hn) kw_1473 d_12_end_2 ?_
  have w1 := jWF.u (k := 0) (v := 0) hw0 (jl_345_12 hn) (by decide) (⟨by decide, by decide⟩ : jRng 0)
  refine jg_iload_n (pc := 5) X d_12_end_5 1 rfl ?_
  refine jg_if_lt (tgt := 17) (pc := 6) X d_12_end_6 (by decide) rv1 h (fun c2 h => ?_) (fun c2 h => ?_)
  · refine jg_iconst (pc := 17) X d_12_end_17 ?_
    exact jg_ireturn (pc := 18) X hAe hlocks hr d_12_end_18 ⟨(Nat.le_of_ble_eq_true rfl), (Nat.le_of_ble_eq_true rfl)⟩ rfl (⟨by decide, by decide⟩ : jRng 0) w1 h
  · refine jg_iload_n (pc := 9) X d_12_end_9 1 rfl ?_
    refine jg_aload_n (pc := 10) X d_12_end_10 0 rfl ?_
    refine jgf_12_6 (pc := 11) X (jl_345_12 hn) kw_1479 d_12_end_11 ?_
    refine jg_icmp_le (tgt := 19) (pc := 14) X d_12_end_14 (by decide) rv1 (w1.1 _ _) h (fun c3 h => ?_) (fun c3 h => ?_)
    · have c3 : v1 ≤ ((jU C 345 0 0) 345 6) := c3
      refine jg_aload_n (pc := 19) X d_12_end_19 0 rfl ?_
      refine jg_iload_n (pc := 20) X d_12_end_20 1 rfl ?_
      refine jgp_12_6 (pc := 21) X (jl_345_12 hn) kw_1479 d_12_end_21 ?_
      have w4 := jWF.u (k := 6) (v := v1) w1 (jl_345_12 hn) (by decide) rv1
      refine jg_iconst (pc := 24) X d_12_end_24 ?_
      exact jg_ireturn (pc := 25) X hAe hlocks hr d_12_end_25 ⟨(Nat.le_of_ble_eq_true rfl), (Nat.le_of_ble_eq_true rfl)⟩ rfl (⟨by decide, by decide⟩ : jRng 1) w4 h
    · have c3 : ¬ (v1 ≤ ((jU C 345 0 0) 345 6)) := c3
      refine jg_iconst (pc := 17) X d_12_end_17 ?_
      exact jg_ireturn (pc := 18) X hAe hlocks hr d_12_end_18 ⟨(Nat.le_of_ble_eq_true rfl), (Nat.le_of_ble_eq_true rfl)⟩ rfl (⟨by decide, by decide⟩ : jRng 0) w1 h
set_option maxHeartbeats 4000000 in
set_option maxRecDepth 100000 in
theorem m_12_fault {l : Launch} {Z : jE} {n : Nat} {C : jC}  {post : Int → jC → Prop}  (hw0 : jWF n C) (h : wp_12_fault C post) : jCi l y_12_fault prog_14_method_39_code 1 (.int) q_12_fault Z n C [jr Z 345] post := by
  have hn := hw0.2.2.1
  unfold wp_12_fault at h
  refine jCi_of (lv0 := [(0, jr Z 345)]) (by decide) (Nat.le_of_ble_eq_true rfl) rfl ?_
  intro p e s m args below meth c A sz X hAe hr hlocks
  refine jg_aload_n (pc := 0) X d_12_fault_0 0 rfl ?_
  refine jg_iconst (pc := 1) X d_12_fault_1 ?_
  refine jgp_12_0 (pc := 2) X (jl_345_12 hn) kw_1473 d_12_fault_2 ?_
  have w1 := jWF.u (k := 0) (v := 0) hw0 (jl_345_12 hn) (by decide) (⟨by decide, by decide⟩ : jRng 0)
  refine jg_aload_n (pc := 5) X d_12_fault_5 0 rfl ?_
  refine jgf_12_11 (pc := 6) X (jl_345_12 hn) kw_1484 d_12_fault_6 ?_
  exact jg_ireturn (pc := 9) X hAe hlocks hr d_12_fault_9 ⟨(Nat.le_of_ble_eq_true rfl), (Nat.le_of_ble_eq_true rfl)⟩ rfl (w1.1 _ _) w1 h
set_option maxHeartbeats 4000000 in
set_option maxRecDepth 100000 in
theorem m_12_uses {l : Launch} {Z : jE} {n : Nat} {C : jC}  {post : jC → Prop}  (hw0 : jWF n C) (h : wp_12_uses C post) : jCv l y_12_uses prog_14_method_29_code 1 q_12_uses Z n C [jr Z 345] post := by
  have hn := hw0.2.2.1
  unfold wp_12_uses at h
  refine jCv_of (lv0 := [(0, jr Z 345)]) (by decide) (Nat.le_of_ble_eq_true rfl) rfl ?_
  intro p e s m args below meth c A sz X hAe hr hlocks
  refine jg_aload_n (pc := 0) X d_12_uses_0 0 rfl ?_
  refine jg_iconst (pc := 1) X d_12_uses_1 ?_
  refine jgp_12_0 (pc := 2) X (jl_345_12 hn) kw_1473 d_12_uses_2 ?_
  have w1 := jWF.u (k := 0) (v := 0) hw0 (jl_345_12 hn) (by decide) (⟨by decide, by decide⟩ : jRng 0)
  refine jg_aload_n (pc := 5) X d_12_uses_5 0 rfl ?_
  refine jg_aload_n (pc := 6) X d_12_uses_6 0 rfl ?_
  refine jgf_12_6 (pc := 7) X (jl_345_12 hn) kw_1479 d_12_uses_7 ?_
  refine jgp_12_8 (pc := 10) X (jl_345_12 hn) kw_1481 d_12_uses_10 ?_
  have w2 := jWF.u (k := 8) (v := ((jU C 345 0 0) 345 6)) w1 (jl_345_12 hn) (by decide) (w1.1 _ _)
  refine jg_aload_n (pc := 13) X d_12_uses_13 0 rfl ?_
  refine jg_iconst (pc := 14) X d_12_uses_14 ?_
  refine jgp_12_6 (pc := 15) X (jl_345_12 hn) kw_1479 d_12_uses_15 ?_
  have w3 := jWF.u (k := 6) (v := 0) w2 (jl_345_12 hn) (by decide) (⟨by decide, by decide⟩ : jRng 0)
  refine jg_aload_n (pc := 18) X d_12_uses_18 0 rfl ?_
  refine jg_iconst (pc := 19) X d_12_uses_19 ?_
  refine jgp_12_7 (pc := 20) X (jl_345_12 hn) kw_1480 d_12_uses_20 ?_
  have w4 := jWF.u (k := 7) (v := 0) w3 (jl_345_12 hn) (by decide) (⟨by decide, by decide⟩ : jRng 0)
  exact jg_return (pc := 23) X hAe hlocks hr d_12_uses_23 ⟨(Nat.le_of_ble_eq_true rfl), (Nat.le_of_ble_eq_true rfl)⟩ w4 h
set_option maxHeartbeats 4000000 in
set_option maxRecDepth 100000 in
theorem m_12_keepsAll {l : Launch} {Z : jE} {n : Nat} {C : jC}  {post : jC → Prop}  (hw0 : jWF n C) (h : wp_12_keepsAll C post) : jCv l y_12_keepsAll prog_14_method_8_code 2 q_12_keepsAll Z n C [jr Z 345] post := by
  have hn := hw0.2.2.1
  unfold wp_12_keepsAll at h
  refine jCv_of (lv0 := [(0, jr Z 345)]) (by decide) (Nat.le_of_ble_eq_true rfl) rfl ?_
  intro p e s m args below meth c A sz X hAe hr hlocks
  refine jg_iconst (pc := 0) X d_12_keepsAll_0 ?_
  refine jg_istore_n (pc := 1) X [(1, jI 0), (0, jr Z 345)] d_12_keepsAll_1 (by decide) rfl ?_
  have jl2 : ∀  (N : Nat) (v1 : Int) (C : jC) (rv1 : jRng v1) (hw : jWF n C), jI2 (wp_12_keepsAll_2  post) N v1 C → jG p l e q_12_keepsAll s m args below meth c 2 Z A (jws Z n C) 0 0 (MQ below (jQv Z n sz post) args s q_12_keepsAll.cells q_12_keepsAll.slots (jA Z n sz)) 2 [(0, jr Z 345), (1, jI v1)] [] := by
    intro   N
    have hn := hw0.2.2.1
    induction N with
    | zero => intro v1 C rv1 hw h; exact h.elim
    | succ N ih2 =>
      intro v1 C rv1 hw h
      have h : wp_12_keepsAll_2  post (jI2 (wp_12_keepsAll_2  post) N) v1 C := h
      generalize jI2 (wp_12_keepsAll_2  post) N = k2 at h ih2
      unfold wp_12_keepsAll_2 at h
      refine jg_iload_n (pc := 2) X d_12_keepsAll_2 1 rfl ?_
      refine jg_sipush (pc := 3) X d_12_keepsAll_3 rfl ?_
      refine jg_icmp_ge (tgt := 27) (pc := 6) X d_12_keepsAll_6 (by decide) rv1 (⟨by decide, by decide⟩ : jRng 8954) h (fun c1 h => ?_) (fun c1 h => ?_)
      · exact jg_return (pc := 27) X hAe hlocks hr d_12_keepsAll_27 ⟨(Nat.le_of_ble_eq_true rfl), (Nat.le_of_ble_eq_true rfl)⟩ hw h
      · refine jg_aload_n (pc := 9) X d_12_keepsAll_9 0 rfl ?_
        refine jgf_12_3 (pc := 10) X (jl_345_12 hn) kw_1476 d_12_keepsAll_10 ?_
        refine jg_iload_n (pc := 13) X d_12_keepsAll_13 1 rfl ?_
        refine jg_aload_n (pc := 14) X d_12_keepsAll_14 0 rfl ?_
        refine jgf_12_1 (pc := 15) X (jl_345_12 hn) kw_1474 d_12_keepsAll_15 ?_
        refine jg_iload_n (pc := 18) X d_12_keepsAll_18 1 rfl ?_
        obtain ⟨b2, h⟩ := h
        have b3 : v1 < 8954 := by (have z0 : jRng v1 := rv1; unfold jRng at z0; omega)
        refine jg_iaload (len := 8954) (pc := 19) X d_12_keepsAll_19 (jl_346_9954 hn) (fun _ => rfl) (by decide) b2 b3 ?_
        have b4 : 0 ≤ v1 := by (have z0 : jRng v1 := rv1; unfold jRng at z0; omega)
        have b5 : v1 < 8954 := by (have z0 : jRng v1 := rv1; unfold jRng at z0; omega)
        refine jg_iastore (len := 8954) (pc := 20) X d_12_keepsAll_20 (jl_348_9954 hn) (fun _ => rfl) (by decide) b4 b5 ?_
        have w6 := jWF.u (k := v1) (v := (C 346 v1)) hw (jl_348_9954 hn) (by decide) (hw.1 _ _)
        refine jg_iinc (pc := 21) X [(1, jI (v1 + 1)), (0, jr Z 345)] d_12_keepsAll_21 1 rfl (by decide) rfl ?_
        refine jg_goto (tgt := 2) (pc := 24) X d_12_keepsAll_24 (by decide) ?_
        have r7 : jRng (v1 + 1) := by (unfold jRng; exact ⟨by (have z0 : jRng v1 := rv1; unfold jRng at z0; omega), by (have z0 : jRng v1 := rv1; unfold jRng at z0; omega)⟩)
        refine jg_sub [1, 0] rfl ?_
        exact ih2 _ _ r7 w6 h
  obtain ⟨N, h⟩ := h
  refine jg_sub [1, 0] rfl ?_
  exact jl2   N _ _ (⟨by decide, by decide⟩ : jRng 0) hw0 h
set_option maxHeartbeats 4000000 in
set_option maxRecDepth 100000 in
theorem m_12_isAt {l : Launch} {Z : jE} {n : Nat} {C : jC} {v1 : Int} {v2 : Int} {post : Int → Prop} (rv1 : jRng v1) (rv2 : jRng v2) (hw0 : jWF n C) (h : wp_12_isAt v1 v2 C post) : jCi l y_12_isAt prog_14_method_30_code 3 (.boolean) q_12_isAt Z n C [jr Z 345, jI v1, jI v2] (fun x C9 => C9 = C ∧ post x) := by
  have hn := hw0.2.2.1
  unfold wp_12_isAt at h
  refine jCi_of (lv0 := [(0, jr Z 345), (1, jI v1), (2, jI v2)]) (by decide) (Nat.le_of_ble_eq_true rfl) rfl ?_
  intro p e s m args below meth c A sz X hAe hr hlocks
  refine jg_aload_n (pc := 0) X d_12_isAt_0 0 rfl ?_
  refine jgf_12_7 (pc := 1) X (jl_345_12 hn) kw_1480 d_12_isAt_1 ?_
  refine jg_aload_n (pc := 4) X d_12_isAt_4 0 rfl ?_
  refine jgf_12_8 (pc := 5) X (jl_345_12 hn) kw_1481 d_12_isAt_5 ?_
  refine jg_icmp_ge (tgt := 41) (pc := 8) X d_12_isAt_8 (by decide) (hw0.1 _ _) (hw0.1 _ _) h (fun c1 h => ?_) (fun c1 h => ?_)
  · have c1 : (C 345 8) ≤ (C 345 7) := c1
    refine jg_iconst (pc := 41) X d_12_isAt_41 ?_
    exact jg_ireturn (pc := 42) X hAe hlocks hr d_12_isAt_42 ⟨(Nat.le_of_ble_eq_true rfl), (Nat.le_of_ble_eq_true rfl)⟩ rfl (⟨by decide, by decide⟩ : jRng 0) hw0 ⟨rfl, h⟩
  · have c1 : ¬ ((C 345 8) ≤ (C 345 7)) := c1
    refine jg_aload_n (pc := 11) X d_12_isAt_11 0 rfl ?_
    refine jgf_12_5 (pc := 12) X (jl_345_12 hn) kw_1478 d_12_isAt_12 ?_
    refine jg_aload_n (pc := 15) X d_12_isAt_15 0 rfl ?_
    refine jgf_12_7 (pc := 16) X (jl_345_12 hn) kw_1480 d_12_isAt_16 ?_
    obtain ⟨b2, b3, h⟩ := h
    refine jg_baload (pc := 19) X d_12_isAt_19 (jl_349_20 hn) b2 b3 ?_
    refine jg_iload_n (pc := 20) X d_12_isAt_20 1 rfl ?_
    refine jg_icmp_lt (tgt := 41) (pc := 21) X d_12_isAt_21 (by decide) (hw0.1 _ _) rv1 h (fun c4 h => ?_) (fun c4 h => ?_)
    · have c4 : (C 349 (C 345 7)) < v1 := c4
      refine jg_iconst (pc := 41) X d_12_isAt_41 ?_
      exact jg_ireturn (pc := 42) X hAe hlocks hr d_12_isAt_42 ⟨(Nat.le_of_ble_eq_true rfl), (Nat.le_of_ble_eq_true rfl)⟩ rfl (⟨by decide, by decide⟩ : jRng 0) hw0 ⟨rfl, h⟩
    · have c4 : ¬ ((C 349 (C 345 7)) < v1) := c4
      refine jg_aload_n (pc := 24) X d_12_isAt_24 0 rfl ?_
      refine jgf_12_5 (pc := 25) X (jl_345_12 hn) kw_1478 d_12_isAt_25 ?_
      refine jg_aload_n (pc := 28) X d_12_isAt_28 0 rfl ?_
      refine jgf_12_7 (pc := 29) X (jl_345_12 hn) kw_1480 d_12_isAt_29 ?_
      have b5 : 0 ≤ (C 345 7) := by (have z0 : jRng (C 345 7) := (hw0.1 _ _); have z1 : jRng (C 345 8) := (hw0.1 _ _); unfold jRng at z0 z1; omega)
      have b6 : (C 345 7) < 400 := by (have z0 : jRng (C 345 7) := (hw0.1 _ _); have z1 : jRng (C 345 8) := (hw0.1 _ _); unfold jRng at z0 z1; omega)
      refine jg_baload (pc := 32) X d_12_isAt_32 (jl_349_20 hn) b5 b6 ?_
      refine jg_iload_n (pc := 33) X d_12_isAt_33 2 rfl ?_
      refine jg_icmp_gt (tgt := 41) (pc := 34) X d_12_isAt_34 (by decide) (hw0.1 _ _) rv2 h (fun c7 h => ?_) (fun c7 h => ?_)
      · have c7 : v2 < (C 349 (C 345 7)) := c7
        refine jg_iconst (pc := 41) X d_12_isAt_41 ?_
        exact jg_ireturn (pc := 42) X hAe hlocks hr d_12_isAt_42 ⟨(Nat.le_of_ble_eq_true rfl), (Nat.le_of_ble_eq_true rfl)⟩ rfl (⟨by decide, by decide⟩ : jRng 0) hw0 ⟨rfl, h⟩
      · have c7 : ¬ (v2 < (C 349 (C 345 7))) := c7
        refine jg_iconst (pc := 37) X d_12_isAt_37 ?_
        refine jg_goto (tgt := 42) (pc := 38) X d_12_isAt_38 (by decide) ?_
        exact jg_ireturn (pc := 42) X hAe hlocks hr d_12_isAt_42 ⟨(Nat.le_of_ble_eq_true rfl), (Nat.le_of_ble_eq_true rfl)⟩ rfl (⟨by decide, by decide⟩ : jRng 1) hw0 ⟨rfl, h⟩
set_option maxHeartbeats 4000000 in
set_option maxRecDepth 100000 in
theorem m_12_blanks {l : Launch} {Z : jE} {n : Nat} {C : jC}  {post : jC → Prop}  (hw0 : jWF n C) (h : wp_12_blanks C post) : jCv l y_12_blanks prog_14_method_31_code 1 q_12_blanks Z n C [jr Z 345] post := by
  have hn := hw0.2.2.1
  unfold wp_12_blanks at h
  refine jCv_of (lv0 := [(0, jr Z 345)]) (by decide) (Nat.le_of_ble_eq_true rfl) rfl ?_
  intro p e s m args below meth c A sz X hAe hr hlocks
  have jl0 : ∀  (N : Nat) (C : jC) (hw : jWF n C), jI1 (wp_12_blanks_0  post) N C → jG p l e q_12_blanks s m args below meth c 1 Z A (jws Z n C) 0 0 (MQ below (jQv Z n sz post) args s q_12_blanks.cells q_12_blanks.slots (jA Z n sz)) 0 [(0, jr Z 345)] [] := by
    intro   N
    have hn := hw0.2.2.1
    induction N with
    | zero => intro C hw h; exact h.elim
    | succ N ih0 =>
      intro C hw h
      have h : wp_12_blanks_0  post (jI1 (wp_12_blanks_0  post) N) C := h
      generalize jI1 (wp_12_blanks_0  post) N = k0 at h ih0
      unfold wp_12_blanks_0 at h
      refine jg_aload_n (pc := 0) X d_12_blanks_0 0 rfl ?_
      refine jg_bipush (pc := 1) X d_12_blanks_1 rfl ?_
      refine jg_bipush (pc := 3) X d_12_blanks_3 rfl ?_
      refine jg_pcallVi (pc := 5) X (m_12_isAt (⟨by decide, by decide⟩ : jRng 32) (⟨by decide, by decide⟩ : jRng 32) hw h) jM_12_isAt kw_1571 (jl_345_12 hn) rfl rfl rfl rfl rfl (Nat.le_of_ble_eq_true rfl) d_12_blanks_5 ⟨(Nat.le_of_ble_eq_true rfl), (Nat.le_of_ble_eq_true rfl)⟩ ⟨(Nat.le_of_ble_eq_true rfl), (Nat.le_of_ble_eq_true rfl)⟩ (fun x1 r3 h => ?_)
      refine jg_if_eq (tgt := 24) (pc := 8) X d_12_blanks_8 (by decide) r3 h (fun c5 h => ?_) (fun c5 h => ?_)
      · refine jg_aload_n (pc := 24) X d_12_blanks_24 0 rfl ?_
        refine jg_aload_n (pc := 25) X d_12_blanks_25 0 rfl ?_
        refine jgf_12_7 (pc := 26) X (jl_345_12 hn) kw_1480 d_12_blanks_26 ?_
        refine jgp_12_9 (pc := 29) X (jl_345_12 hn) kw_1482 d_12_blanks_29 ?_
        have w6 := jWF.u (k := 9) (v := (C 345 7)) hw (jl_345_12 hn) (by decide) (hw.1 _ _)
        exact jg_return (pc := 32) X hAe hlocks hr d_12_blanks_32 ⟨(Nat.le_of_ble_eq_true rfl), (Nat.le_of_ble_eq_true rfl)⟩ w6 h
      · refine jg_aload_n (pc := 11) X d_12_blanks_11 0 rfl ?_
        refine jg_dup (pc := 12) X d_12_blanks_12 rfl ?_
        refine jgf_12_7 (pc := 13) X (jl_345_12 hn) kw_1480 d_12_blanks_13 ?_
        refine jg_iconst (pc := 16) X d_12_blanks_16 ?_
        refine jg_iadd (pc := 17) X d_12_blanks_17 ?_
        obtain ⟨r7, h⟩ := h
        refine jgp_12_7 (pc := 18) X (jl_345_12 hn) kw_1480 d_12_blanks_18 ?_
        have w8 := jWF.u (k := 7) (v := ((C 345 7) + 1)) hw (jl_345_12 hn) (by decide) r7
        refine jg_goto (tgt := 0) (pc := 21) X d_12_blanks_21 (by decide) ?_
        refine jg_sub [0] rfl ?_
        exact ih0 _ w8 h
  obtain ⟨N, h⟩ := h
  refine jg_sub [0] rfl ?_
  exact jl0   N _ hw0 h
set_option maxHeartbeats 4000000 in
set_option maxRecDepth 100000 in
theorem m_12_letters {l : Launch} {Z : jE} {n : Nat} {C : jC}  {post : jC → Prop}  (hw0 : jWF n C) (h : wp_12_letters C post) : jCv l y_12_letters prog_14_method_32_code 1 q_12_letters Z n C [jr Z 345] post := by
  have hn := hw0.2.2.1
  unfold wp_12_letters at h
  refine jCv_of (lv0 := [(0, jr Z 345)]) (by decide) (Nat.le_of_ble_eq_true rfl) rfl ?_
  intro p e s m args below meth c A sz X hAe hr hlocks
  refine jg_aload_n (pc := 0) X d_12_letters_0 0 rfl ?_
  refine jg_callVv (pc := 1) X (m_12_blanks hw0 h) jM_12_blanks kw_1567 (jl_345_12 hn) rfl rfl rfl rfl rfl (Nat.le_of_ble_eq_true rfl) d_12_letters_1 ⟨(Nat.le_of_ble_eq_true rfl), (Nat.le_of_ble_eq_true rfl)⟩ ⟨(Nat.le_of_ble_eq_true rfl), (Nat.le_of_ble_eq_true rfl)⟩ (fun C2 w4 h => ?_)
  have jl4 : ∀  (N : Nat) (C : jC) (hw : jWF n C), jI1 (wp_12_letters_4  post) N C → jG p l e q_12_letters s m args below meth c 1 Z A (jws Z n C) 0 0 (MQ below (jQv Z n sz post) args s q_12_letters.cells q_12_letters.slots (jA Z n sz)) 4 [(0, jr Z 345)] [] := by
    intro   N
    have hn := hw0.2.2.1
    induction N with
    | zero => intro C hw h; exact h.elim
    | succ N ih4 =>
      intro C hw h
      have h : wp_12_letters_4  post (jI1 (wp_12_letters_4  post) N) C := h
      generalize jI1 (wp_12_letters_4  post) N = k4 at h ih4
      unfold wp_12_letters_4 at h
      refine jg_aload_n (pc := 4) X d_12_letters_4 0 rfl ?_
      refine jg_bipush (pc := 5) X d_12_letters_5 rfl ?_
      refine jg_bipush (pc := 7) X d_12_letters_7 rfl ?_
      refine jg_pcallVi (pc := 9) X (m_12_isAt (⟨by decide, by decide⟩ : jRng 97) (⟨by decide, by decide⟩ : jRng 122) hw h) jM_12_isAt kw_1571 (jl_345_12 hn) rfl rfl rfl rfl rfl (Nat.le_of_ble_eq_true rfl) d_12_letters_9 ⟨(Nat.le_of_ble_eq_true rfl), (Nat.le_of_ble_eq_true rfl)⟩ ⟨(Nat.le_of_ble_eq_true rfl), (Nat.le_of_ble_eq_true rfl)⟩ (fun x5 r7 h => ?_)
      refine jg_if_eq (tgt := 28) (pc := 12) X d_12_letters_12 (by decide) r7 h (fun c9 h => ?_) (fun c9 h => ?_)
      · exact jg_return (pc := 28) X hAe hlocks hr d_12_letters_28 ⟨(Nat.le_of_ble_eq_true rfl), (Nat.le_of_ble_eq_true rfl)⟩ hw h
      · refine jg_aload_n (pc := 15) X d_12_letters_15 0 rfl ?_
        refine jg_dup (pc := 16) X d_12_letters_16 rfl ?_
        refine jgf_12_7 (pc := 17) X (jl_345_12 hn) kw_1480 d_12_letters_17 ?_
        refine jg_iconst (pc := 20) X d_12_letters_20 ?_
        refine jg_iadd (pc := 21) X d_12_letters_21 ?_
        obtain ⟨r10, h⟩ := h
        refine jgp_12_7 (pc := 22) X (jl_345_12 hn) kw_1480 d_12_letters_22 ?_
        have w11 := jWF.u (k := 7) (v := ((C 345 7) + 1)) hw (jl_345_12 hn) (by decide) r10
        refine jg_goto (tgt := 4) (pc := 25) X d_12_letters_25 (by decide) ?_
        refine jg_sub [0] rfl ?_
        exact ih4 _ w11 h
  obtain ⟨N, h⟩ := h
  refine jg_sub [0] rfl ?_
  exact jl4   N _ w4 h
set_option maxHeartbeats 4000000 in
set_option maxRecDepth 100000 in
theorem m_12_isWord {l : Launch} {Z : jE} {n : Nat} {C : jC} {v1 : Nat} {post : Int → Prop} (qv1 : v1 < 11) (hw0 : jWF n C) (h : wp_12_isWord v1 C post) : jCi l y_12_isWord prog_14_method_33_code 4 (.boolean) q_12_isWord Z n C [jr Z 345, Value.ref (jsK Z v1)] (fun x C9 => C9 = C ∧ post x) := by
  have hn := hw0.2.2.1
  unfold wp_12_isWord at h
  refine jCi_of (lv0 := [(0, jr Z 345), (1, Value.ref (jsK Z v1))]) (by decide) (Nat.le_of_ble_eq_true rfl) rfl ?_
  intro p e s m args below meth c A sz X hAe hr hlocks
  refine jg_aload_n (pc := 0) X d_12_isWord_0 0 rfl ?_
  refine jgf_12_7 (pc := 1) X (jl_345_12 hn) kw_1480 d_12_isWord_1 ?_
  refine jg_aload_n (pc := 4) X d_12_isWord_4 0 rfl ?_
  refine jgf_12_9 (pc := 5) X (jl_345_12 hn) kw_1482 d_12_isWord_5 ?_
  refine jg_isub (pc := 8) X d_12_isWord_8 ?_
  refine jg_sload_n (pc := 9) X d_12_isWord_9 1 rfl ?_
  refine jg_strlen (pc := 10) X qv1 kw_1584 d_12_isWord_10 hw0 (Nat.le_of_ble_eq_true rfl) ⟨(Nat.le_of_ble_eq_true rfl), (Nat.le_of_ble_eq_true rfl)⟩ ⟨(Nat.le_of_ble_eq_true rfl), (Nat.le_of_ble_eq_true rfl)⟩ ?_
  obtain ⟨r1, h⟩ := h
  refine jg_icmp_ne (tgt := 20) (pc := 13) X d_12_isWord_13 (by decide) r1 (jSlen_rng _) h (fun c2 h => ?_) (fun c2 h => ?_)
  · have c2 : ((C 345 7) - (C 345 9)) = (jSlen v1) := c2
    refine jg_iconst (pc := 16) X d_12_isWord_16 ?_
    refine jg_goto (tgt := 21) (pc := 17) X d_12_isWord_17 (by decide) ?_
    refine jg_istore_n (pc := 21) X [(2, jI 1), (0, jr Z 345), (1, Value.ref (jsK Z v1))] d_12_isWord_21 (by decide) rfl ?_
    refine jg_iconst (pc := 22) X d_12_isWord_22 ?_
    refine jg_istore_n (pc := 23) X [(3, jI 0), (2, jI 1), (0, jr Z 345), (1, Value.ref (jsK Z v1))] d_12_isWord_23 (by decide) rfl ?_
    have hw : jWF n C := hw0
    have jl24 : ∀  (N : Nat) (v2 : Int) (v3 : Int) (rv2 : jRng v2) (rv3 : jRng v3), jI2 (wp_12_isWord_24 v1 C post) N v2 v3 → jG p l e q_12_isWord s m args below meth c 4 Z A (jws Z n C) 0 0 (MQ below (jQi Z n sz (fun x C9 => C9 = C ∧ post x)) args s q_12_isWord.cells q_12_isWord.slots (jA Z n sz)) 24 [(0, jr Z 345), (1, Value.ref (jsK Z v1)), (2, jI v2), (3, jI v3)] [] := by
      intro   N
      have hn := hw0.2.2.1
      induction N with
      | zero => intro v2 v3 rv2 rv3 h; exact h.elim
      | succ N ih24 =>
        intro v2 v3 rv2 rv3 h
        have h : wp_12_isWord_24 v1 C post (jI2 (wp_12_isWord_24 v1 C post) N) v2 v3 := h
        generalize jI2 (wp_12_isWord_24 v1 C post) N = k24 at h ih24
        unfold wp_12_isWord_24 at h
        refine jg_iload_n (pc := 24) X d_12_isWord_24 2 rfl ?_
        refine jg_if_eq (tgt := 67) (pc := 25) X d_12_isWord_25 (by decide) rv2 h (fun c3 h => ?_) (fun c3 h => ?_)
        · refine jg_iload_n (pc := 67) X d_12_isWord_67 2 rfl ?_
          obtain ⟨b4, h⟩ := h
          exact jg_ireturn (pc := 68) X hAe hlocks hr d_12_isWord_68 ⟨(Nat.le_of_ble_eq_true rfl), (Nat.le_of_ble_eq_true rfl)⟩ (jnar_b b4) rv2 hw ⟨rfl, h⟩
        · refine jg_iload_n (pc := 28) X d_12_isWord_28 3 rfl ?_
          refine jg_sload_n (pc := 29) X d_12_isWord_29 1 rfl ?_
          refine jg_strlen (pc := 30) X qv1 kw_1584 d_12_isWord_30 hw (Nat.le_of_ble_eq_true rfl) ⟨(Nat.le_of_ble_eq_true rfl), (Nat.le_of_ble_eq_true rfl)⟩ ⟨(Nat.le_of_ble_eq_true rfl), (Nat.le_of_ble_eq_true rfl)⟩ ?_
          refine jg_icmp_ge (tgt := 67) (pc := 33) X d_12_isWord_33 (by decide) rv3 (jSlen_rng _) h (fun c5 h => ?_) (fun c5 h => ?_)
          · have c5 : (jSlen v1) ≤ v3 := c5
            refine jg_iload_n (pc := 67) X d_12_isWord_67 2 rfl ?_
            obtain ⟨b6, h⟩ := h
            exact jg_ireturn (pc := 68) X hAe hlocks hr d_12_isWord_68 ⟨(Nat.le_of_ble_eq_true rfl), (Nat.le_of_ble_eq_true rfl)⟩ (jnar_b b6) rv2 hw ⟨rfl, h⟩
          · have c5 : ¬ ((jSlen v1) ≤ v3) := c5
            refine jg_aload_n (pc := 36) X d_12_isWord_36 0 rfl ?_
            refine jgf_12_5 (pc := 37) X (jl_345_12 hn) kw_1478 d_12_isWord_37 ?_
            refine jg_aload_n (pc := 40) X d_12_isWord_40 0 rfl ?_
            refine jgf_12_9 (pc := 41) X (jl_345_12 hn) kw_1482 d_12_isWord_41 ?_
            refine jg_iload_n (pc := 44) X d_12_isWord_44 3 rfl ?_
            refine jg_iadd (pc := 45) X d_12_isWord_45 ?_
            obtain ⟨b7, b8, h⟩ := h
            refine jg_baload (pc := 46) X d_12_isWord_46 (jl_349_20 hn) b7 b8 ?_
            refine jg_sload_n (pc := 47) X d_12_isWord_47 1 rfl ?_
            refine jg_iload_n (pc := 48) X d_12_isWord_48 3 rfl ?_
            obtain ⟨b9, b10, h⟩ := h
            refine jg_strchar (pc := 49) X qv1 rv3 b9 b10 kw_1585 d_12_isWord_49 hw (Nat.le_of_ble_eq_true rfl) ⟨(Nat.le_of_ble_eq_true rfl), (Nat.le_of_ble_eq_true rfl)⟩ ⟨(Nat.le_of_ble_eq_true rfl), (Nat.le_of_ble_eq_true rfl)⟩ ?_
            refine jg_icmp_ne (tgt := 59) (pc := 52) X d_12_isWord_52 (by decide) (hw.1 _ _) (jSch_rng _ _) h (fun c11 h => ?_) (fun c11 h => ?_)
            · have c11 : (C 349 ((C 345 9) + v3)) = (jSch v1 v3) := c11
              refine jg_iconst (pc := 55) X d_12_isWord_55 ?_
              refine jg_goto (tgt := 60) (pc := 56) X d_12_isWord_56 (by decide) ?_
              refine jg_istore_n (pc := 60) X [(2, jI 1), (0, jr Z 345), (1, Value.ref (jsK Z v1)), (3, jI v3)] d_12_isWord_60 (by decide) rfl ?_
              refine jg_iinc (pc := 61) X [(3, jI (v3 + 1)), (2, jI 1), (0, jr Z 345), (1, Value.ref (jsK Z v1))] d_12_isWord_61 3 rfl (by decide) rfl ?_
              refine jg_goto (tgt := 24) (pc := 64) X d_12_isWord_64 (by decide) ?_
              have r12 : jRng (v3 + 1) := by (unfold jRng; exact ⟨by (have z0 : jRng v3 := rv3; have z1 : jRng (jSlen v1) := (jSlen_rng _); unfold jRng at z0 z1; omega), by (have z0 : jRng v3 := rv3; have z1 : jRng (jSlen v1) := (jSlen_rng _); unfold jRng at z0 z1; omega)⟩)
              refine jg_sub [2, 3, 1, 0] rfl ?_
              exact ih24 _ _ (⟨by decide, by decide⟩ : jRng 1) r12 h
            · have c11 : ¬ ((C 349 ((C 345 9) + v3)) = (jSch v1 v3)) := c11
              refine jg_iconst (pc := 59) X d_12_isWord_59 ?_
              refine jg_istore_n (pc := 60) X [(2, jI 0), (0, jr Z 345), (1, Value.ref (jsK Z v1)), (3, jI v3)] d_12_isWord_60 (by decide) rfl ?_
              refine jg_iinc (pc := 61) X [(3, jI (v3 + 1)), (2, jI 0), (0, jr Z 345), (1, Value.ref (jsK Z v1))] d_12_isWord_61 3 rfl (by decide) rfl ?_
              refine jg_goto (tgt := 24) (pc := 64) X d_12_isWord_64 (by decide) ?_
              have r13 : jRng (v3 + 1) := by (unfold jRng; exact ⟨by (have z0 : jRng v3 := rv3; have z1 : jRng (jSlen v1) := (jSlen_rng _); unfold jRng at z0 z1; omega), by (have z0 : jRng v3 := rv3; have z1 : jRng (jSlen v1) := (jSlen_rng _); unfold jRng at z0 z1; omega)⟩)
              refine jg_sub [2, 3, 1, 0] rfl ?_
              exact ih24 _ _ (⟨by decide, by decide⟩ : jRng 0) r13 h
    obtain ⟨N, h⟩ := h
    refine jg_sub [2, 3, 1, 0] rfl ?_
    exact jl24   N _ _ (⟨by decide, by decide⟩ : jRng 1) (⟨by decide, by decide⟩ : jRng 0) h
  · have c2 : ¬ (((C 345 7) - (C 345 9)) = (jSlen v1)) := c2
    refine jg_iconst (pc := 20) X d_12_isWord_20 ?_
    refine jg_istore_n (pc := 21) X [(2, jI 0), (0, jr Z 345), (1, Value.ref (jsK Z v1))] d_12_isWord_21 (by decide) rfl ?_
    refine jg_iconst (pc := 22) X d_12_isWord_22 ?_
    refine jg_istore_n (pc := 23) X [(3, jI 0), (2, jI 0), (0, jr Z 345), (1, Value.ref (jsK Z v1))] d_12_isWord_23 (by decide) rfl ?_
    have hw : jWF n C := hw0
    have jl24 : ∀  (N : Nat) (v2 : Int) (v3 : Int) (rv2 : jRng v2) (rv3 : jRng v3), jI2 (wp_12_isWord_24 v1 C post) N v2 v3 → jG p l e q_12_isWord s m args below meth c 4 Z A (jws Z n C) 0 0 (MQ below (jQi Z n sz (fun x C9 => C9 = C ∧ post x)) args s q_12_isWord.cells q_12_isWord.slots (jA Z n sz)) 24 [(0, jr Z 345), (1, Value.ref (jsK Z v1)), (2, jI v2), (3, jI v3)] [] := by
      intro   N
      have hn := hw0.2.2.1
      induction N with
      | zero => intro v2 v3 rv2 rv3 h; exact h.elim
      | succ N ih24 =>
        intro v2 v3 rv2 rv3 h
        have h : wp_12_isWord_24 v1 C post (jI2 (wp_12_isWord_24 v1 C post) N) v2 v3 := h
        generalize jI2 (wp_12_isWord_24 v1 C post) N = k24 at h ih24
        unfold wp_12_isWord_24 at h
        refine jg_iload_n (pc := 24) X d_12_isWord_24 2 rfl ?_
        refine jg_if_eq (tgt := 67) (pc := 25) X d_12_isWord_25 (by decide) rv2 h (fun c14 h => ?_) (fun c14 h => ?_)
        · refine jg_iload_n (pc := 67) X d_12_isWord_67 2 rfl ?_
          obtain ⟨b15, h⟩ := h
          exact jg_ireturn (pc := 68) X hAe hlocks hr d_12_isWord_68 ⟨(Nat.le_of_ble_eq_true rfl), (Nat.le_of_ble_eq_true rfl)⟩ (jnar_b b15) rv2 hw ⟨rfl, h⟩
        · refine jg_iload_n (pc := 28) X d_12_isWord_28 3 rfl ?_
          refine jg_sload_n (pc := 29) X d_12_isWord_29 1 rfl ?_
          refine jg_strlen (pc := 30) X qv1 kw_1584 d_12_isWord_30 hw (Nat.le_of_ble_eq_true rfl) ⟨(Nat.le_of_ble_eq_true rfl), (Nat.le_of_ble_eq_true rfl)⟩ ⟨(Nat.le_of_ble_eq_true rfl), (Nat.le_of_ble_eq_true rfl)⟩ ?_
          refine jg_icmp_ge (tgt := 67) (pc := 33) X d_12_isWord_33 (by decide) rv3 (jSlen_rng _) h (fun c16 h => ?_) (fun c16 h => ?_)
          · have c16 : (jSlen v1) ≤ v3 := c16
            refine jg_iload_n (pc := 67) X d_12_isWord_67 2 rfl ?_
            obtain ⟨b17, h⟩ := h
            exact jg_ireturn (pc := 68) X hAe hlocks hr d_12_isWord_68 ⟨(Nat.le_of_ble_eq_true rfl), (Nat.le_of_ble_eq_true rfl)⟩ (jnar_b b17) rv2 hw ⟨rfl, h⟩
          · have c16 : ¬ ((jSlen v1) ≤ v3) := c16
            refine jg_aload_n (pc := 36) X d_12_isWord_36 0 rfl ?_
            refine jgf_12_5 (pc := 37) X (jl_345_12 hn) kw_1478 d_12_isWord_37 ?_
            refine jg_aload_n (pc := 40) X d_12_isWord_40 0 rfl ?_
            refine jgf_12_9 (pc := 41) X (jl_345_12 hn) kw_1482 d_12_isWord_41 ?_
            refine jg_iload_n (pc := 44) X d_12_isWord_44 3 rfl ?_
            refine jg_iadd (pc := 45) X d_12_isWord_45 ?_
            obtain ⟨b18, b19, h⟩ := h
            refine jg_baload (pc := 46) X d_12_isWord_46 (jl_349_20 hn) b18 b19 ?_
            refine jg_sload_n (pc := 47) X d_12_isWord_47 1 rfl ?_
            refine jg_iload_n (pc := 48) X d_12_isWord_48 3 rfl ?_
            obtain ⟨b20, b21, h⟩ := h
            refine jg_strchar (pc := 49) X qv1 rv3 b20 b21 kw_1585 d_12_isWord_49 hw (Nat.le_of_ble_eq_true rfl) ⟨(Nat.le_of_ble_eq_true rfl), (Nat.le_of_ble_eq_true rfl)⟩ ⟨(Nat.le_of_ble_eq_true rfl), (Nat.le_of_ble_eq_true rfl)⟩ ?_
            refine jg_icmp_ne (tgt := 59) (pc := 52) X d_12_isWord_52 (by decide) (hw.1 _ _) (jSch_rng _ _) h (fun c22 h => ?_) (fun c22 h => ?_)
            · have c22 : (C 349 ((C 345 9) + v3)) = (jSch v1 v3) := c22
              refine jg_iconst (pc := 55) X d_12_isWord_55 ?_
              refine jg_goto (tgt := 60) (pc := 56) X d_12_isWord_56 (by decide) ?_
              refine jg_istore_n (pc := 60) X [(2, jI 1), (0, jr Z 345), (1, Value.ref (jsK Z v1)), (3, jI v3)] d_12_isWord_60 (by decide) rfl ?_
              refine jg_iinc (pc := 61) X [(3, jI (v3 + 1)), (2, jI 1), (0, jr Z 345), (1, Value.ref (jsK Z v1))] d_12_isWord_61 3 rfl (by decide) rfl ?_
              refine jg_goto (tgt := 24) (pc := 64) X d_12_isWord_64 (by decide) ?_
              have r23 : jRng (v3 + 1) := by (unfold jRng; exact ⟨by (have z0 : jRng v3 := rv3; have z1 : jRng (jSlen v1) := (jSlen_rng _); unfold jRng at z0 z1; omega), by (have z0 : jRng v3 := rv3; have z1 : jRng (jSlen v1) := (jSlen_rng _); unfold jRng at z0 z1; omega)⟩)
              refine jg_sub [2, 3, 1, 0] rfl ?_
              exact ih24 _ _ (⟨by decide, by decide⟩ : jRng 1) r23 h
            · have c22 : ¬ ((C 349 ((C 345 9) + v3)) = (jSch v1 v3)) := c22
              refine jg_iconst (pc := 59) X d_12_isWord_59 ?_
              refine jg_istore_n (pc := 60) X [(2, jI 0), (0, jr Z 345), (1, Value.ref (jsK Z v1)), (3, jI v3)] d_12_isWord_60 (by decide) rfl ?_
              refine jg_iinc (pc := 61) X [(3, jI (v3 + 1)), (2, jI 0), (0, jr Z 345), (1, Value.ref (jsK Z v1))] d_12_isWord_61 3 rfl (by decide) rfl ?_
              refine jg_goto (tgt := 24) (pc := 64) X d_12_isWord_64 (by decide) ?_
              have r24 : jRng (v3 + 1) := by (unfold jRng; exact ⟨by (have z0 : jRng v3 := rv3; have z1 : jRng (jSlen v1) := (jSlen_rng _); unfold jRng at z0 z1; omega), by (have z0 : jRng v3 := rv3; have z1 : jRng (jSlen v1) := (jSlen_rng _); unfold jRng at z0 z1; omega)⟩)
              refine jg_sub [2, 3, 1, 0] rfl ?_
              exact ih24 _ _ (⟨by decide, by decide⟩ : jRng 0) r24 h
    obtain ⟨N, h⟩ := h
    refine jg_sub [2, 3, 1, 0] rfl ?_
    exact jl24   N _ _ (⟨by decide, by decide⟩ : jRng 0) (⟨by decide, by decide⟩ : jRng 0) h
set_option maxHeartbeats 4000000 in
set_option maxRecDepth 100000 in
theorem m_12_columns {l : Launch} {Z : jE} {n : Nat} {C : jC}  {post : Int → Prop}  (hw0 : jWF n C) (h : wp_12_columns C post) : jCi l y_12_columns prog_14_method_10_code 1 (.int) q_12_columns Z n C [jr Z 345] (fun x C9 => C9 = C ∧ post x) := by
  have hn := hw0.2.2.1
  unfold wp_12_columns at h
  refine jCi_of (lv0 := [(0, jr Z 345)]) (by decide) (Nat.le_of_ble_eq_true rfl) rfl ?_
  intro p e s m args below meth c A sz X hAe hr hlocks
  refine jg_aload_n (pc := 0) X d_12_columns_0 0 rfl ?_
  refine jgf_12_1 (pc := 1) X (jl_345_12 hn) kw_1474 d_12_columns_1 ?_
  refine jg_iconst (pc := 4) X d_12_columns_4 ?_
  refine jg_iaload (len := 8954) (pc := 5) X d_12_columns_5 (jl_346_9954 hn) (fun _ => rfl) (by decide) (by decide) (by decide) ?_
  exact jg_ireturn (pc := 6) X hAe hlocks hr d_12_columns_6 ⟨(Nat.le_of_ble_eq_true rfl), (Nat.le_of_ble_eq_true rfl)⟩ rfl (hw0.1 _ _) hw0 ⟨rfl, h⟩
set_option maxHeartbeats 4000000 in
set_option maxRecDepth 100000 in
theorem m_12_isLetter {l : Launch} {Z : jE} {n : Nat} {C : jC}  {post : Int → jC → Prop}  (hw0 : jWF n C) (h : wp_12_isLetter C post) : jCi l y_12_isLetter prog_14_method_41_code 1 (.boolean) q_12_isLetter Z n C [jr Z 345] post := by
  have hn := hw0.2.2.1
  unfold wp_12_isLetter at h
  refine jCi_of (lv0 := [(0, jr Z 345)]) (by decide) (Nat.le_of_ble_eq_true rfl) rfl ?_
  intro p e s m args below meth c A sz X hAe hr hlocks
  refine jg_aload_n (pc := 0) X d_12_isLetter_0 0 rfl ?_
  refine jg_callVv (pc := 1) X (m_12_blanks hw0 h) jM_12_blanks kw_1567 (jl_345_12 hn) rfl rfl rfl rfl rfl (Nat.le_of_ble_eq_true rfl) d_12_isLetter_1 ⟨(Nat.le_of_ble_eq_true rfl), (Nat.le_of_ble_eq_true rfl)⟩ ⟨(Nat.le_of_ble_eq_true rfl), (Nat.le_of_ble_eq_true rfl)⟩ (fun C2 w4 h => ?_)
  refine jg_aload_n (pc := 4) X d_12_isLetter_4 0 rfl ?_
  refine jg_bipush (pc := 5) X d_12_isLetter_5 rfl ?_
  refine jg_bipush (pc := 7) X d_12_isLetter_7 rfl ?_
  refine jg_pcallVi (pc := 9) X (m_12_isAt (⟨by decide, by decide⟩ : jRng 97) (⟨by decide, by decide⟩ : jRng 122) w4 h) jM_12_isAt kw_1571 (jl_345_12 hn) rfl rfl rfl rfl rfl (Nat.le_of_ble_eq_true rfl) d_12_isLetter_9 ⟨(Nat.le_of_ble_eq_true rfl), (Nat.le_of_ble_eq_true rfl)⟩ ⟨(Nat.le_of_ble_eq_true rfl), (Nat.le_of_ble_eq_true rfl)⟩ (fun x5 r7 h => ?_)
  obtain ⟨b9, h⟩ := h
  exact jg_ireturn (pc := 12) X hAe hlocks hr d_12_isLetter_12 ⟨(Nat.le_of_ble_eq_true rfl), (Nat.le_of_ble_eq_true rfl)⟩ (jnar_b b9) r7 w4 h
set_option maxHeartbeats 4000000 in
set_option maxRecDepth 100000 in
theorem m_12_readColumns {l : Launch} {Z : jE} {n : Nat} {C : jC}  {post : Int → jC → Prop}  (hw0 : jWF n C) (h : wp_12_readColumns C post) : jCi l y_12_readColumns prog_14_method_42_code 3 (.boolean) q_12_readColumns Z n C [jr Z 345] post := by
  have hn := hw0.2.2.1
  unfold wp_12_readColumns at h
  refine jCi_of (lv0 := [(0, jr Z 345)]) (by decide) (Nat.le_of_ble_eq_true rfl) rfl ?_
  intro p e s m args below meth c A sz X hAe hr hlocks
  refine jg_aload_n (pc := 0) X d_12_readColumns_0 0 rfl ?_
  refine jg_pcallVi (pc := 1) X (m_12_columns hw0 h) jM_12_columns kw_1590 (jl_345_12 hn) rfl rfl rfl rfl rfl (Nat.le_of_ble_eq_true rfl) d_12_readColumns_1 ⟨(Nat.le_of_ble_eq_true rfl), (Nat.le_of_ble_eq_true rfl)⟩ ⟨(Nat.le_of_ble_eq_true rfl), (Nat.le_of_ble_eq_true rfl)⟩ (fun x1 r3 h => ?_)
  refine jg_if_le (tgt := 9) (pc := 4) X d_12_readColumns_4 (by decide) r3 h (fun c5 h => ?_) (fun c5 h => ?_)
  · refine jg_iconst (pc := 9) X d_12_readColumns_9 ?_
    refine jg_istore_n (pc := 10) X [(1, jI 0), (0, jr Z 345)] d_12_readColumns_10 (by decide) rfl ?_
    have jl11 : ∀  (N : Nat) (v1 : Int) (C : jC) (rv1 : jRng v1) (hw : jWF n C), jI2 (wp_12_readColumns_11  post) N v1 C → jG p l e q_12_readColumns s m args below meth c 3 Z A (jws Z n C) 0 0 (MQ below (jQi Z n sz post) args s q_12_readColumns.cells q_12_readColumns.slots (jA Z n sz)) 11 [(0, jr Z 345), (1, jI v1)] [] := by
      intro   N
      have hn := hw0.2.2.1
      induction N with
      | zero => intro v1 C rv1 hw h; exact h.elim
      | succ N ih11 =>
        intro v1 C rv1 hw h
        have h : wp_12_readColumns_11  post (jI2 (wp_12_readColumns_11  post) N) v1 C := h
        generalize jI2 (wp_12_readColumns_11  post) N = k11 at h ih11
        unfold wp_12_readColumns_11 at h
        have jb42 : ∀ (v1 : Int) (v2 : Int) (C : jC) (rv1 : jRng v1) (rv2 : jRng v2) (hw : jWF n C), wp_12_readColumns_42 v1 v2 C post k11 → jG p l e q_12_readColumns s m args below meth c 3 Z A (jws Z n C) 0 0 (MQ below (jQi Z n sz post) args s q_12_readColumns.cells q_12_readColumns.slots (jA Z n sz)) 42 [(0, jr Z 345), (1, jI v1), (2, jI v2)] [] := by
          intro v1 v2 C rv1 rv2 hw h
          unfold wp_12_readColumns_42 at h
          refine jg_aload_n (pc := 42) X d_12_readColumns_42 0 rfl ?_
          refine jgf_12_1 (pc := 43) X (jl_345_12 hn) kw_1474 d_12_readColumns_43 ?_
          refine jg_iconst (pc := 46) X d_12_readColumns_46 ?_
          refine jg_iload_n (pc := 47) X d_12_readColumns_47 1 rfl ?_
          refine jg_iadd (pc := 48) X d_12_readColumns_48 ?_
          refine jg_iload_n (pc := 49) X d_12_readColumns_49 2 rfl ?_
          refine jg_if_eq (tgt := 57) (pc := 50) X d_12_readColumns_50 (by decide) rv2 h (fun c6 h => ?_) (fun c6 h => ?_)
          · refine jg_iconst (pc := 57) X d_12_readColumns_57 ?_
            obtain ⟨b7, b8, h⟩ := h
            refine jg_iastore (len := 8954) (pc := 58) X d_12_readColumns_58 (jl_346_9954 hn) (fun _ => rfl) (by decide) b7 b8 ?_
            have w9 := jWF.u (k := (4 + v1)) (v := 0) hw (jl_346_9954 hn) (by decide) (⟨by decide, by decide⟩ : jRng 0)
            refine jg_iinc (pc := 59) X [(1, jI (v1 + 1)), (0, jr Z 345), (2, jI v2)] d_12_readColumns_59 1 rfl (by decide) rfl ?_
            refine jg_aload_n (pc := 62) X d_12_readColumns_62 1 rfl ?_
            refine jg_callVi (pc := 63) X (m_12_isLetter w9 h) jM_12_isLetter kw_1596 (jl_345_12 hn) rfl rfl rfl rfl rfl (Nat.le_of_ble_eq_true rfl) d_12_readColumns_63 ⟨(Nat.le_of_ble_eq_true rfl), (Nat.le_of_ble_eq_true rfl)⟩ ⟨(Nat.le_of_ble_eq_true rfl), (Nat.le_of_ble_eq_true rfl)⟩ (fun x10 C11 r12 w13 h => ?_)
            refine jg_if_ne (tgt := 11) (pc := 66) X d_12_readColumns_66 (by decide) r12 h (fun c14 h => ?_) (fun c14 h => ?_)
            · refine jg_aload_n (pc := 69) X d_12_readColumns_69 1 rfl ?_
              refine jgf_12_1 (pc := 70) X (jl_345_12 hn) kw_1474 d_12_readColumns_70 ?_
              refine jg_iconst (pc := 73) X d_12_readColumns_73 ?_
              refine jg_iload_n (pc := 74) X d_12_readColumns_74 0 rfl ?_
              obtain ⟨r17, h⟩ := h
              refine jg_iastore (len := 8954) (pc := 75) X d_12_readColumns_75 (jl_346_9954 hn) (fun _ => rfl) (by decide) (by decide) (by decide) ?_
              have w18 := jWF.u (k := 0) (v := (v1 + 1)) w13 (jl_346_9954 hn) (by decide) r17
              refine jg_iconst (pc := 76) X d_12_readColumns_76 ?_
              exact jg_ireturn (pc := 77) X hAe hlocks hr d_12_readColumns_77 ⟨(Nat.le_of_ble_eq_true rfl), (Nat.le_of_ble_eq_true rfl)⟩ rfl (⟨by decide, by decide⟩ : jRng 1) w18 h
            · obtain ⟨r19, h⟩ := h
              refine jg_sub [1, 0] rfl ?_
              exact ih11 _ _ r19 w13 h
          · refine jg_iconst (pc := 53) X d_12_readColumns_53 ?_
            refine jg_goto (tgt := 58) (pc := 54) X d_12_readColumns_54 (by decide) ?_
            obtain ⟨b20, b21, h⟩ := h
            refine jg_iastore (len := 8954) (pc := 58) X d_12_readColumns_58 (jl_346_9954 hn) (fun _ => rfl) (by decide) b20 b21 ?_
            have w22 := jWF.u (k := (4 + v1)) (v := 1) hw (jl_346_9954 hn) (by decide) (⟨by decide, by decide⟩ : jRng 1)
            refine jg_iinc (pc := 59) X [(1, jI (v1 + 1)), (0, jr Z 345), (2, jI v2)] d_12_readColumns_59 1 rfl (by decide) rfl ?_
            refine jg_aload_n (pc := 62) X d_12_readColumns_62 1 rfl ?_
            refine jg_callVi (pc := 63) X (m_12_isLetter w22 h) jM_12_isLetter kw_1596 (jl_345_12 hn) rfl rfl rfl rfl rfl (Nat.le_of_ble_eq_true rfl) d_12_readColumns_63 ⟨(Nat.le_of_ble_eq_true rfl), (Nat.le_of_ble_eq_true rfl)⟩ ⟨(Nat.le_of_ble_eq_true rfl), (Nat.le_of_ble_eq_true rfl)⟩ (fun x23 C24 r25 w26 h => ?_)
            refine jg_if_ne (tgt := 11) (pc := 66) X d_12_readColumns_66 (by decide) r25 h (fun c27 h => ?_) (fun c27 h => ?_)
            · refine jg_aload_n (pc := 69) X d_12_readColumns_69 1 rfl ?_
              refine jgf_12_1 (pc := 70) X (jl_345_12 hn) kw_1474 d_12_readColumns_70 ?_
              refine jg_iconst (pc := 73) X d_12_readColumns_73 ?_
              refine jg_iload_n (pc := 74) X d_12_readColumns_74 0 rfl ?_
              obtain ⟨r30, h⟩ := h
              refine jg_iastore (len := 8954) (pc := 75) X d_12_readColumns_75 (jl_346_9954 hn) (fun _ => rfl) (by decide) (by decide) (by decide) ?_
              have w31 := jWF.u (k := 0) (v := (v1 + 1)) w26 (jl_346_9954 hn) (by decide) r30
              refine jg_iconst (pc := 76) X d_12_readColumns_76 ?_
              exact jg_ireturn (pc := 77) X hAe hlocks hr d_12_readColumns_77 ⟨(Nat.le_of_ble_eq_true rfl), (Nat.le_of_ble_eq_true rfl)⟩ rfl (⟨by decide, by decide⟩ : jRng 1) w31 h
            · obtain ⟨r32, h⟩ := h
              refine jg_sub [1, 0] rfl ?_
              exact ih11 _ _ r32 w26 h
        refine jg_aload_n (pc := 11) X d_12_readColumns_11 0 rfl ?_
        refine jg_callVv (pc := 12) X (m_12_letters hw h) jM_12_letters kw_1575 (jl_345_12 hn) rfl rfl rfl rfl rfl (Nat.le_of_ble_eq_true rfl) d_12_readColumns_12 ⟨(Nat.le_of_ble_eq_true rfl), (Nat.le_of_ble_eq_true rfl)⟩ ⟨(Nat.le_of_ble_eq_true rfl), (Nat.le_of_ble_eq_true rfl)⟩ (fun C34 w36 h => ?_)
        refine jg_aload_n (pc := 15) X d_12_readColumns_15 0 rfl ?_
        refine jg_ldcS (pc := 16) "word" 3 X (by decide +kernel) d_12_readColumns_16 ?_
        refine jg_pcallVi (pc := 18) X (m_12_isWord (by decide) w36 h) jM_12_isWord kw_1580 (jl_345_12 hn) rfl rfl rfl rfl rfl (Nat.le_of_ble_eq_true rfl) d_12_readColumns_18 ⟨(Nat.le_of_ble_eq_true rfl), (Nat.le_of_ble_eq_true rfl)⟩ ⟨(Nat.le_of_ble_eq_true rfl), (Nat.le_of_ble_eq_true rfl)⟩ (fun x37 r39 h => ?_)
        refine jg_istore_n (pc := 21) X [(2, jI x37), (0, jr Z 345), (1, jI v1)] d_12_readColumns_21 (by decide) rfl ?_
        refine jg_iload_n (pc := 22) X d_12_readColumns_22 2 rfl ?_
        refine jg_iconst (pc := 23) X d_12_readColumns_23 ?_
        refine jg_icmp_eq (tgt := 40) (pc := 24) X d_12_readColumns_24 (by decide) rv1 (⟨by decide, by decide⟩ : jRng 5) h (fun c41 h => ?_) (fun c41 h => ?_)
        · refine jg_iconst (pc := 40) X d_12_readColumns_40 ?_
          exact jg_ireturn (pc := 41) X hAe hlocks hr d_12_readColumns_41 ⟨(Nat.le_of_ble_eq_true rfl), (Nat.le_of_ble_eq_true rfl)⟩ rfl (⟨by decide, by decide⟩ : jRng 0) w36 h
        · refine jg_iload_n (pc := 27) X d_12_readColumns_27 0 rfl ?_
          refine jg_if_ne (tgt := 42) (pc := 28) X d_12_readColumns_28 (by decide) r39 h (fun c42 h => ?_) (fun c42 h => ?_)
          · refine jg_aload_n (pc := 31) X d_12_readColumns_31 1 rfl ?_
            refine jg_ldcS (pc := 32) "number" 2 X (by decide +kernel) d_12_readColumns_32 ?_
            refine jg_pcallVi (pc := 34) X (m_12_isWord (by decide) w36 h) jM_12_isWord kw_1580 (jl_345_12 hn) rfl rfl rfl rfl rfl (Nat.le_of_ble_eq_true rfl) d_12_readColumns_34 ⟨(Nat.le_of_ble_eq_true rfl), (Nat.le_of_ble_eq_true rfl)⟩ ⟨(Nat.le_of_ble_eq_true rfl), (Nat.le_of_ble_eq_true rfl)⟩ (fun x43 r45 h => ?_)
            refine jg_if_ne (tgt := 42) (pc := 37) X d_12_readColumns_37 (by decide) r45 h (fun c47 h => ?_) (fun c47 h => ?_)
            · refine jg_iconst (pc := 40) X d_12_readColumns_40 ?_
              exact jg_ireturn (pc := 41) X hAe hlocks hr d_12_readColumns_41 ⟨(Nat.le_of_ble_eq_true rfl), (Nat.le_of_ble_eq_true rfl)⟩ rfl (⟨by decide, by decide⟩ : jRng 0) w36 h
            · refine jg_sub [1, 2, 0] rfl ?_
              exact jb42 _ _ _ rv1 r39 w36 h
          · refine jg_sub [1, 2, 0] rfl ?_
            exact jb42 _ _ _ rv1 r39 w36 h
    obtain ⟨N, h⟩ := h
    refine jg_sub [1, 0] rfl ?_
    exact jl11   N _ _ (⟨by decide, by decide⟩ : jRng 0) hw0 h
  · refine jg_iconst (pc := 7) X d_12_readColumns_7 ?_
    exact jg_ireturn (pc := 8) X hAe hlocks hr d_12_readColumns_8 ⟨(Nat.le_of_ble_eq_true rfl), (Nat.le_of_ble_eq_true rfl)⟩ rfl (⟨by decide, by decide⟩ : jRng 0) hw0 h
set_option maxHeartbeats 4000000 in
set_option maxRecDepth 100000 in
theorem m_12_size {l : Launch} {Z : jE} {n : Nat} {C : jC} {v1 : Int} {post : Int → Prop} (rv1 : jRng v1) (hw0 : jWF n C) (h : wp_12_size v1 C post) : jCi l y_12_size prog_14_method_15_code 2 (.int) q_12_size Z n C [jr Z 345, jI v1] (fun x C9 => C9 = C ∧ post x) := by
  have hn := hw0.2.2.1
  unfold wp_12_size at h
  refine jCi_of (lv0 := [(0, jr Z 345), (1, jI v1)]) (by decide) (Nat.le_of_ble_eq_true rfl) rfl ?_
  intro p e s m args below meth c A sz X hAe hr hlocks
  refine jg_aload_n (pc := 0) X d_12_size_0 0 rfl ?_
  refine jgf_12_1 (pc := 1) X (jl_345_12 hn) kw_1474 d_12_size_1 ?_
  refine jg_iload_n (pc := 4) X d_12_size_4 1 rfl ?_
  obtain ⟨b1, b2, h⟩ := h
  refine jg_iaload (len := 8954) (pc := 5) X d_12_size_5 (jl_346_9954 hn) (fun _ => rfl) (by decide) b1 b2 ?_
  exact jg_ireturn (pc := 6) X hAe hlocks hr d_12_size_6 ⟨(Nat.le_of_ble_eq_true rfl), (Nat.le_of_ble_eq_true rfl)⟩ rfl (hw0.1 _ _) hw0 ⟨rfl, h⟩
set_option maxHeartbeats 4000000 in
set_option maxRecDepth 100000 in
theorem m_12_rows {l : Launch} {Z : jE} {n : Nat} {C : jC}  {post : Int → Prop}  (hw0 : jWF n C) (h : wp_12_rows C post) : jCi l y_12_rows prog_14_method_16_code 1 (.int) q_12_rows Z n C [jr Z 345] (fun x C9 => C9 = C ∧ post x) := by
  have hn := hw0.2.2.1
  unfold wp_12_rows at h
  refine jCi_of (lv0 := [(0, jr Z 345)]) (by decide) (Nat.le_of_ble_eq_true rfl) rfl ?_
  intro p e s m args below meth c A sz X hAe hr hlocks
  refine jg_aload_n (pc := 0) X d_12_rows_0 0 rfl ?_
  refine jg_sipush (pc := 1) X d_12_rows_1 rfl ?_
  refine jg_pcallVi (pc := 4) X (m_12_size (⟨by decide, by decide⟩ : jRng 273) hw0 h) jM_12_size kw_1609 (jl_345_12 hn) rfl rfl rfl rfl rfl (Nat.le_of_ble_eq_true rfl) d_12_rows_4 ⟨(Nat.le_of_ble_eq_true rfl), (Nat.le_of_ble_eq_true rfl)⟩ ⟨(Nat.le_of_ble_eq_true rfl), (Nat.le_of_ble_eq_true rfl)⟩ (fun x1 r3 h => ?_)
  exact jg_ireturn (pc := 7) X hAe hlocks hr d_12_rows_7 ⟨(Nat.le_of_ble_eq_true rfl), (Nat.le_of_ble_eq_true rfl)⟩ rfl r3 hw0 ⟨rfl, h⟩
set_option maxHeartbeats 4000000 in
set_option maxRecDepth 100000 in
theorem m_12_comes {l : Launch} {Z : jE} {n : Nat} {C : jC}  {post : Int → jC → Prop}  (hw0 : jWF n C) (h : wp_12_comes C post) : jCi l y_12_comes prog_14_method_25_code 4 (.int) q_12_comes Z n C [jr Z 345] post := by
  have hn := hw0.2.2.1
  unfold wp_12_comes at h
  refine jCi_of (lv0 := [(0, jr Z 345)]) (by decide) (Nat.le_of_ble_eq_true rfl) rfl ?_
  intro p e s m args below meth c A sz X hAe hr hlocks
  refine jg_iconst (pc := 0) X d_12_comes_0 ?_
  refine jg_istore_n (pc := 1) X [(1, jI 0), (0, jr Z 345)] d_12_comes_1 (by decide) rfl ?_
  have hw : jWF n C := hw0
  have jl2 : ∀  (N : Nat) (v1 : Int) (rv1 : jRng v1), jI1 (wp_12_comes_2  C post) N v1 → jG p l e q_12_comes s m args below meth c 4 Z A (jws Z n C) 0 0 (MQ below (jQi Z n sz post) args s q_12_comes.cells q_12_comes.slots (jA Z n sz)) 2 [(0, jr Z 345), (1, jI v1)] [] := by
    intro   N
    have hn := hw0.2.2.1
    induction N with
    | zero => intro v1 rv1 h; exact h.elim
    | succ N ih2 =>
      intro v1 rv1 h
      have h : wp_12_comes_2  C post (jI1 (wp_12_comes_2  C post) N) v1 := h
      generalize jI1 (wp_12_comes_2  C post) N = k2 at h ih2
      unfold wp_12_comes_2 at h
      refine jg_aload_n (pc := 2) X d_12_comes_2 0 rfl ?_
      refine jgf_12_1 (pc := 3) X (jl_345_12 hn) kw_1474 d_12_comes_3 ?_
      refine jg_bipush (pc := 6) X d_12_comes_6 rfl ?_
      refine jg_bipush (pc := 8) X d_12_comes_8 rfl ?_
      refine jg_iload_n (pc := 10) X d_12_comes_10 1 rfl ?_
      refine jg_imul (pc := 11) X d_12_comes_11 ?_
      refine jg_iadd (pc := 12) X d_12_comes_12 ?_
      obtain ⟨b1, b2, h⟩ := h
      refine jg_iaload (len := 8954) (pc := 13) X d_12_comes_13 (jl_346_9954 hn) (fun _ => rfl) (by decide) b1 b2 ?_
      refine jg_iconst (pc := 14) X d_12_comes_14 ?_
      refine jg_icmp_eq (tgt := 24) (pc := 15) X d_12_comes_15 (by decide) (hw.1 _ _) (⟨by decide, by decide⟩ : jRng (-1)) h (fun c3 h => ?_) (fun c3 h => ?_)
      · have c3 : (C 346 (9 + (11 * v1))) = (-1) := c3
        refine jg_aload_n (pc := 24) X d_12_comes_24 0 rfl ?_
        refine jgf_12_1 (pc := 25) X (jl_345_12 hn) kw_1474 d_12_comes_25 ?_
        refine jg_iconst (pc := 28) X d_12_comes_28 ?_
        refine jg_iaload (len := 8954) (pc := 29) X d_12_comes_29 (jl_346_9954 hn) (fun _ => rfl) (by decide) (by decide) (by decide) ?_
        refine jg_istore_n (pc := 30) X [(2, jI (C 346 2)), (0, jr Z 345), (1, jI v1)] d_12_comes_30 (by decide) rfl ?_
        refine jg_aload_n (pc := 31) X d_12_comes_31 1 rfl ?_
        refine jgf_12_1 (pc := 32) X (jl_345_12 hn) kw_1474 d_12_comes_32 ?_
        refine jg_bipush (pc := 35) X d_12_comes_35 rfl ?_
        refine jg_bipush (pc := 37) X d_12_comes_37 rfl ?_
        refine jg_iload_n (pc := 39) X d_12_comes_39 2 rfl ?_
        refine jg_imul (pc := 40) X d_12_comes_40 ?_
        refine jg_iadd (pc := 41) X d_12_comes_41 ?_
        refine jg_iload_n (pc := 42) X d_12_comes_42 0 rfl ?_
        have b6 : 0 ≤ (9 + (11 * v1)) := by (have z0 : jRng v1 := rv1; unfold jRng at z0; omega)
        have b7 : (9 + (11 * v1)) < 8954 := by (have z0 : jRng v1 := rv1; unfold jRng at z0; omega)
        refine jg_iastore (len := 8954) (pc := 43) X d_12_comes_43 (jl_346_9954 hn) (fun _ => rfl) (by decide) b6 b7 ?_
        have w8 := jWF.u (k := (9 + (11 * v1))) (v := (C 346 2)) hw (jl_346_9954 hn) (by decide) (hw.1 _ _)
        refine jg_iconst (pc := 44) X d_12_comes_44 ?_
        refine jg_istore_n (pc := 45) X [(3, jI 0), (2, jI (C 346 2)), (0, jr Z 345), (1, jI v1)] d_12_comes_45 (by decide) rfl ?_
        have jl46 : ∀ (v2 : Int) (rv2 : jRng v2) (N : Nat) (v3 : Int) (C : jC) (rv3 : jRng v3) (hw : jWF n C), jI2 (wp_12_comes_46 v1 v2 post) N v3 C → jG p l e q_12_comes s m args below meth c 4 Z A (jws Z n C) 0 0 (MQ below (jQi Z n sz post) args s q_12_comes.cells q_12_comes.slots (jA Z n sz)) 46 [(0, jr Z 345), (1, jI v1), (2, jI v2), (3, jI v3)] [] := by
          intro v2 rv2 N
          have hn := hw0.2.2.1
          induction N with
          | zero => intro v3 C rv3 hw h; exact h.elim
          | succ N ih46 =>
            intro v3 C rv3 hw h
            have h : wp_12_comes_46 v1 v2 post (jI2 (wp_12_comes_46 v1 v2 post) N) v3 C := h
            generalize jI2 (wp_12_comes_46 v1 v2 post) N = k46 at h ih46
            unfold wp_12_comes_46 at h
            refine jg_iload_n (pc := 46) X d_12_comes_46 3 rfl ?_
            refine jg_iconst (pc := 47) X d_12_comes_47 ?_
            refine jg_icmp_ge (tgt := 93) (pc := 48) X d_12_comes_48 (by decide) rv3 (⟨by decide, by decide⟩ : jRng 5) h (fun c9 h => ?_) (fun c9 h => ?_)
            · refine jg_aload_n (pc := 93) X d_12_comes_93 0 rfl ?_
              refine jgf_12_1 (pc := 94) X (jl_345_12 hn) kw_1474 d_12_comes_94 ?_
              refine jg_iconst (pc := 97) X d_12_comes_97 ?_
              refine jg_dup2 (pc := 98) X d_12_comes_98 rfl rfl ?_
              refine jg_iaload (len := 8954) (pc := 99) X d_12_comes_99 (jl_346_9954 hn) (fun _ => rfl) (by decide) (by decide) (by decide) ?_
              refine jg_iconst (pc := 100) X d_12_comes_100 ?_
              refine jg_iadd (pc := 101) X d_12_comes_101 ?_
              obtain ⟨r14, h⟩ := h
              refine jg_iastore (len := 8954) (pc := 102) X d_12_comes_102 (jl_346_9954 hn) (fun _ => rfl) (by decide) (by decide) (by decide) ?_
              have w15 := jWF.u (k := 2) (v := ((C 346 2) + 1)) hw (jl_346_9954 hn) (by decide) r14
              refine jg_iload_n (pc := 103) X d_12_comes_103 2 rfl ?_
              exact jg_ireturn (pc := 104) X hAe hlocks hr d_12_comes_104 ⟨(Nat.le_of_ble_eq_true rfl), (Nat.le_of_ble_eq_true rfl)⟩ rfl rv2 w15 h
            · refine jg_aload_n (pc := 51) X d_12_comes_51 0 rfl ?_
              refine jgf_12_1 (pc := 52) X (jl_345_12 hn) kw_1474 d_12_comes_52 ?_
              refine jg_bipush (pc := 55) X d_12_comes_55 rfl ?_
              refine jg_bipush (pc := 57) X d_12_comes_57 rfl ?_
              refine jg_iload_n (pc := 59) X d_12_comes_59 1 rfl ?_
              refine jg_imul (pc := 60) X d_12_comes_60 ?_
              refine jg_iadd (pc := 61) X d_12_comes_61 ?_
              refine jg_iconst (pc := 62) X d_12_comes_62 ?_
              refine jg_iadd (pc := 63) X d_12_comes_63 ?_
              refine jg_iload_n (pc := 64) X d_12_comes_64 3 rfl ?_
              refine jg_iadd (pc := 65) X d_12_comes_65 ?_
              refine jg_ldk (pc := 66) (-1000000) X kw_1617 (by decide) d_12_comes_66 ?_
              obtain ⟨b16, b17, h⟩ := h
              refine jg_iastore (len := 8954) (pc := 68) X d_12_comes_68 (jl_346_9954 hn) (fun _ => rfl) (by decide) b16 b17 ?_
              have w18 := jWF.u (k := (((9 + (11 * v1)) + 1) + v3)) (v := (-1000000)) hw (jl_346_9954 hn) (by decide) (⟨by decide, by decide⟩ : jRng (-1000000))
              refine jg_aload_n (pc := 69) X d_12_comes_69 0 rfl ?_
              refine jgf_12_1 (pc := 70) X (jl_345_12 hn) kw_1474 d_12_comes_70 ?_
              refine jg_bipush (pc := 73) X d_12_comes_73 rfl ?_
              refine jg_bipush (pc := 75) X d_12_comes_75 rfl ?_
              refine jg_iload_n (pc := 77) X d_12_comes_77 1 rfl ?_
              refine jg_imul (pc := 78) X d_12_comes_78 ?_
              refine jg_iadd (pc := 79) X d_12_comes_79 ?_
              refine jg_bipush (pc := 80) X d_12_comes_80 rfl ?_
              refine jg_iadd (pc := 82) X d_12_comes_82 ?_
              refine jg_iload_n (pc := 83) X d_12_comes_83 3 rfl ?_
              refine jg_iadd (pc := 84) X d_12_comes_84 ?_
              refine jg_iconst (pc := 85) X d_12_comes_85 ?_
              obtain ⟨b19, b20, h⟩ := h
              refine jg_iastore (len := 8954) (pc := 86) X d_12_comes_86 (jl_346_9954 hn) (fun _ => rfl) (by decide) b19 b20 ?_
              have w21 := jWF.u (k := (((9 + (11 * v1)) + 6) + v3)) (v := (-1)) w18 (jl_346_9954 hn) (by decide) (⟨by decide, by decide⟩ : jRng (-1))
              refine jg_iinc (pc := 87) X [(3, jI (v3 + 1)), (0, jr Z 345), (1, jI v1), (2, jI v2)] d_12_comes_87 3 rfl (by decide) rfl ?_
              refine jg_goto (tgt := 46) (pc := 90) X d_12_comes_90 (by decide) ?_
              have r22 : jRng (v3 + 1) := by (unfold jRng; exact ⟨by (have z0 : jRng v3 := rv3; unfold jRng at z0; omega), by (have z0 : jRng v3 := rv3; unfold jRng at z0; omega)⟩)
              refine jg_sub [1, 2, 3, 0] rfl ?_
              exact ih46 _ _ r22 w21 h
        obtain ⟨N, h⟩ := h
        refine jg_sub [2, 3, 1, 0] rfl ?_
        exact jl46 _ (hw.1 _ _) N _ _ (⟨by decide, by decide⟩ : jRng 0) w8 h
      · have c3 : ¬ ((C 346 (9 + (11 * v1))) = (-1)) := c3
        refine jg_iinc (pc := 18) X [(1, jI (v1 + 1)), (0, jr Z 345)] d_12_comes_18 1 rfl (by decide) rfl ?_
        refine jg_goto (tgt := 2) (pc := 21) X d_12_comes_21 (by decide) ?_
        obtain ⟨r23, h⟩ := h
        refine jg_sub [1, 0] rfl ?_
        exact ih2 _ r23 h
  obtain ⟨N, h⟩ := h
  refine jg_sub [1, 0] rfl ?_
  exact jl2   N _ (⟨by decide, by decide⟩ : jRng 0) h
set_option maxHeartbeats 4000000 in
set_option maxRecDepth 100000 in
theorem m_12_sign {l : Launch} {Z : jE} {n : Nat} {C : jC} {v1 : Int} {post : Int → jC → Prop} (rv1 : jRng v1) (hw0 : jWF n C) (h : wp_12_sign v1 C post) : jCi l y_12_sign prog_14_method_35_code 2 (.boolean) q_12_sign Z n C [jr Z 345, jI v1] post := by
  have hn := hw0.2.2.1
  unfold wp_12_sign at h
  refine jCi_of (lv0 := [(0, jr Z 345), (1, jI v1)]) (by decide) (Nat.le_of_ble_eq_true rfl) rfl ?_
  intro p e s m args below meth c A sz X hAe hr hlocks
  refine jg_aload_n (pc := 0) X d_12_sign_0 0 rfl ?_
  refine jg_callVv (pc := 1) X (m_12_blanks hw0 h) jM_12_blanks kw_1567 (jl_345_12 hn) rfl rfl rfl rfl rfl (Nat.le_of_ble_eq_true rfl) d_12_sign_1 ⟨(Nat.le_of_ble_eq_true rfl), (Nat.le_of_ble_eq_true rfl)⟩ ⟨(Nat.le_of_ble_eq_true rfl), (Nat.le_of_ble_eq_true rfl)⟩ (fun C2 w4 h => ?_)
  refine jg_aload_n (pc := 4) X d_12_sign_4 0 rfl ?_
  refine jg_iload_n (pc := 5) X d_12_sign_5 1 rfl ?_
  refine jg_iload_n (pc := 6) X d_12_sign_6 1 rfl ?_
  refine jg_pcallVi (pc := 7) X (m_12_isAt rv1 rv1 w4 h) jM_12_isAt kw_1571 (jl_345_12 hn) rfl rfl rfl rfl rfl (Nat.le_of_ble_eq_true rfl) d_12_sign_7 ⟨(Nat.le_of_ble_eq_true rfl), (Nat.le_of_ble_eq_true rfl)⟩ ⟨(Nat.le_of_ble_eq_true rfl), (Nat.le_of_ble_eq_true rfl)⟩ (fun x5 r7 h => ?_)
  refine jg_if_ne (tgt := 15) (pc := 10) X d_12_sign_10 (by decide) r7 h (fun c9 h => ?_) (fun c9 h => ?_)
  · refine jg_iconst (pc := 13) X d_12_sign_13 ?_
    exact jg_ireturn (pc := 14) X hAe hlocks hr d_12_sign_14 ⟨(Nat.le_of_ble_eq_true rfl), (Nat.le_of_ble_eq_true rfl)⟩ rfl (⟨by decide, by decide⟩ : jRng 0) w4 h
  · refine jg_aload_n (pc := 15) X d_12_sign_15 0 rfl ?_
    refine jg_dup (pc := 16) X d_12_sign_16 rfl ?_
    refine jgf_12_7 (pc := 17) X (jl_345_12 hn) kw_1480 d_12_sign_17 ?_
    refine jg_iconst (pc := 20) X d_12_sign_20 ?_
    refine jg_iadd (pc := 21) X d_12_sign_21 ?_
    obtain ⟨r10, h⟩ := h
    refine jgp_12_7 (pc := 22) X (jl_345_12 hn) kw_1480 d_12_sign_22 ?_
    have w11 := jWF.u (k := 7) (v := ((C2 345 7) + 1)) w4 (jl_345_12 hn) (by decide) r10
    refine jg_iconst (pc := 25) X d_12_sign_25 ?_
    exact jg_ireturn (pc := 26) X hAe hlocks hr d_12_sign_26 ⟨(Nat.le_of_ble_eq_true rfl), (Nat.le_of_ble_eq_true rfl)⟩ rfl (⟨by decide, by decide⟩ : jRng 1) w11 h
set_option maxHeartbeats 4000000 in
set_option maxRecDepth 100000 in
theorem m_12_isWords {l : Launch} {Z : jE} {n : Nat} {C : jC} {v1 : Int} {post : Int → Prop} (rv1 : jRng v1) (hw0 : jWF n C) (h : wp_12_isWords v1 C post) : jCi l y_12_isWords prog_14_method_26_code 2 (.boolean) q_12_isWords Z n C [jr Z 345, jI v1] (fun x C9 => C9 = C ∧ post x) := by
  have hn := hw0.2.2.1
  unfold wp_12_isWords at h
  refine jCi_of (lv0 := [(0, jr Z 345), (1, jI v1)]) (by decide) (Nat.le_of_ble_eq_true rfl) rfl ?_
  intro p e s m args below meth c A sz X hAe hr hlocks
  refine jg_aload_n (pc := 0) X d_12_isWords_0 0 rfl ?_
  refine jgf_12_1 (pc := 1) X (jl_345_12 hn) kw_1474 d_12_isWords_1 ?_
  refine jg_iconst (pc := 4) X d_12_isWords_4 ?_
  refine jg_iload_n (pc := 5) X d_12_isWords_5 1 rfl ?_
  refine jg_iadd (pc := 6) X d_12_isWords_6 ?_
  obtain ⟨b1, b2, h⟩ := h
  refine jg_iaload (len := 8954) (pc := 7) X d_12_isWords_7 (jl_346_9954 hn) (fun _ => rfl) (by decide) b1 b2 ?_
  refine jg_iconst (pc := 8) X d_12_isWords_8 ?_
  refine jg_icmp_ne (tgt := 16) (pc := 9) X d_12_isWords_9 (by decide) (hw0.1 _ _) (⟨by decide, by decide⟩ : jRng 1) h (fun c3 h => ?_) (fun c3 h => ?_)
  · have c3 : (C 346 (4 + v1)) = 1 := c3
    refine jg_iconst (pc := 12) X d_12_isWords_12 ?_
    refine jg_goto (tgt := 17) (pc := 13) X d_12_isWords_13 (by decide) ?_
    exact jg_ireturn (pc := 17) X hAe hlocks hr d_12_isWords_17 ⟨(Nat.le_of_ble_eq_true rfl), (Nat.le_of_ble_eq_true rfl)⟩ rfl (⟨by decide, by decide⟩ : jRng 1) hw0 ⟨rfl, h⟩
  · have c3 : ¬ ((C 346 (4 + v1)) = 1) := c3
    refine jg_iconst (pc := 16) X d_12_isWords_16 ?_
    exact jg_ireturn (pc := 17) X hAe hlocks hr d_12_isWords_17 ⟨(Nat.le_of_ble_eq_true rfl), (Nat.le_of_ble_eq_true rfl)⟩ rfl (⟨by decide, by decide⟩ : jRng 0) hw0 ⟨rfl, h⟩
set_option maxHeartbeats 4000000 in
set_option maxRecDepth 100000 in
theorem m_12_in {l : Launch} {Z : jE} {n : Nat} {C : jC} {v0 : Int} {v1 : Int} {v2 : Int} {post : Int → Prop} (rv0 : jRng v0) (rv1 : jRng v1) (rv2 : jRng v2) (hw0 : jWF n C) (h : wp_12_in v0 v1 v2 C post) : jCi l y_12_in prog_14_method_3_code 3 (.boolean) q_12_in Z n C [jI v0, jI v1, jI v2] (fun x C9 => C9 = C ∧ post x) := by
  have hn := hw0.2.2.1
  unfold wp_12_in at h
  refine jCi_of (lv0 := [(0, jI v0), (1, jI v1), (2, jI v2)]) (by decide) (Nat.le_of_ble_eq_true rfl) rfl ?_
  intro p e s m args below meth c A sz X hAe hr hlocks
  refine jg_iload_n (pc := 0) X d_12_in_0 0 rfl ?_
  refine jg_iload_n (pc := 1) X d_12_in_1 1 rfl ?_
  refine jg_icmp_lt (tgt := 14) (pc := 2) X d_12_in_2 (by decide) rv0 rv1 h (fun c1 h => ?_) (fun c1 h => ?_)
  · refine jg_iconst (pc := 14) X d_12_in_14 ?_
    exact jg_ireturn (pc := 15) X hAe hlocks hr d_12_in_15 ⟨(Nat.le_of_ble_eq_true rfl), (Nat.le_of_ble_eq_true rfl)⟩ rfl (⟨by decide, by decide⟩ : jRng 0) hw0 ⟨rfl, h⟩
  · refine jg_iload_n (pc := 5) X d_12_in_5 0 rfl ?_
    refine jg_iload_n (pc := 6) X d_12_in_6 2 rfl ?_
    refine jg_icmp_gt (tgt := 14) (pc := 7) X d_12_in_7 (by decide) rv0 rv2 h (fun c2 h => ?_) (fun c2 h => ?_)
    · refine jg_iconst (pc := 14) X d_12_in_14 ?_
      exact jg_ireturn (pc := 15) X hAe hlocks hr d_12_in_15 ⟨(Nat.le_of_ble_eq_true rfl), (Nat.le_of_ble_eq_true rfl)⟩ rfl (⟨by decide, by decide⟩ : jRng 0) hw0 ⟨rfl, h⟩
    · refine jg_iconst (pc := 10) X d_12_in_10 ?_
      refine jg_goto (tgt := 15) (pc := 11) X d_12_in_11 (by decide) ?_
      exact jg_ireturn (pc := 15) X hAe hlocks hr d_12_in_15 ⟨(Nat.le_of_ble_eq_true rfl), (Nat.le_of_ble_eq_true rfl)⟩ rfl (⟨by decide, by decide⟩ : jRng 1) hw0 ⟨rfl, h⟩
set_option maxHeartbeats 4000000 in
set_option maxRecDepth 100000 in
theorem m_12_figures {l : Launch} {Z : jE} {n : Nat} {C : jC} {v1 : Int} {v2 : Int} {v3 : Int} {post : Int → jC → Prop} (rv1 : jRng v1) (rv2 : jRng v2) (rv3 : jRng v3) (hw0 : jWF n C) (h : wp_12_figures v1 v2 v3 C post) : jCi l y_12_figures prog_14_method_36_code 6 (.boolean) q_12_figures Z n C [jr Z 345, jI v1, jI v2, jI v3] post := by
  have hn := hw0.2.2.1
  unfold wp_12_figures at h
  refine jCi_of (lv0 := [(0, jr Z 345), (1, jI v1), (2, jI v2), (3, jI v3)]) (by decide) (Nat.le_of_ble_eq_true rfl) rfl ?_
  intro p e s m args below meth c A sz X hAe hr hlocks
  refine jg_aload_n (pc := 0) X d_12_figures_0 0 rfl ?_
  refine jgf_12_7 (pc := 1) X (jl_345_12 hn) kw_1480 d_12_figures_1 ?_
  refine jg_istore (pc := 4) X [(4, jI (C 345 7)), (0, jr Z 345), (1, jI v1), (2, jI v2), (3, jI v3)] d_12_figures_4 (by decide) rfl ?_
  refine jg_iconst (pc := 6) X d_12_figures_6 ?_
  refine jg_istore (pc := 7) X [(5, jI 0), (4, jI (C 345 7)), (0, jr Z 345), (1, jI v1), (2, jI v2), (3, jI v3)] d_12_figures_7 (by decide) rfl ?_
  have jl9 : ∀ (v4 : Int) (rv4 : jRng v4) (N : Nat) (v5 : Int) (C : jC) (rv5 : jRng v5) (hw : jWF n C), jI2 (wp_12_figures_9 v1 v2 v3 v4 post) N v5 C → jG p l e q_12_figures s m args below meth c 6 Z A (jws Z n C) 0 0 (MQ below (jQi Z n sz post) args s q_12_figures.cells q_12_figures.slots (jA Z n sz)) 9 [(0, jr Z 345), (1, jI v1), (2, jI v2), (3, jI v3), (4, jI v4), (5, jI v5)] [] := by
    intro v4 rv4 N
    have hn := hw0.2.2.1
    induction N with
    | zero => intro v5 C rv5 hw h; exact h.elim
    | succ N ih9 =>
      intro v5 C rv5 hw h
      have h : wp_12_figures_9 v1 v2 v3 v4 post (jI2 (wp_12_figures_9 v1 v2 v3 v4 post) N) v5 C := h
      generalize jI2 (wp_12_figures_9 v1 v2 v3 v4 post) N = k9 at h ih9
      unfold wp_12_figures_9 at h
      refine jg_aload_n (pc := 9) X d_12_figures_9 0 rfl ?_
      refine jg_bipush (pc := 10) X d_12_figures_10 rfl ?_
      refine jg_bipush (pc := 12) X d_12_figures_12 rfl ?_
      refine jg_pcallVi (pc := 14) X (m_12_isAt (⟨by decide, by decide⟩ : jRng 48) (⟨by decide, by decide⟩ : jRng 57) hw h) jM_12_isAt kw_1571 (jl_345_12 hn) rfl rfl rfl rfl rfl (Nat.le_of_ble_eq_true rfl) d_12_figures_14 ⟨(Nat.le_of_ble_eq_true rfl), (Nat.le_of_ble_eq_true rfl)⟩ ⟨(Nat.le_of_ble_eq_true rfl), (Nat.le_of_ble_eq_true rfl)⟩ (fun x1 r3 h => ?_)
      refine jg_if_eq (tgt := 69) (pc := 17) X d_12_figures_17 (by decide) r3 h (fun c5 h => ?_) (fun c5 h => ?_)
      · refine jg_aload_n (pc := 69) X d_12_figures_69 0 rfl ?_
        refine jg_iload_n (pc := 70) X d_12_figures_70 1 rfl ?_
        refine jg_iload (pc := 71) X d_12_figures_71 5 rfl ?_
        refine jg_imul (pc := 73) X d_12_figures_73 ?_
        obtain ⟨r6, h⟩ := h
        refine jgp_12_10 (pc := 74) X (jl_345_12 hn) kw_1483 d_12_figures_74 ?_
        have w7 := jWF.u (k := 10) (v := (v1 * v5)) hw (jl_345_12 hn) (by decide) r6
        refine jg_aload_n (pc := 77) X d_12_figures_77 0 rfl ?_
        refine jgf_12_7 (pc := 78) X (jl_345_12 hn) kw_1480 d_12_figures_78 ?_
        refine jg_iload (pc := 81) X d_12_figures_81 4 rfl ?_
        refine jg_isub (pc := 83) X d_12_figures_83 ?_
        refine jg_iconst (pc := 84) X d_12_figures_84 ?_
        refine jg_iconst (pc := 85) X d_12_figures_85 ?_
        obtain ⟨r8, h⟩ := h
        refine jg_pcallSi (pc := 86) X (m_12_in r8 (⟨by decide, by decide⟩ : jRng 1) (⟨by decide, by decide⟩ : jRng 3) w7 h) jM_12_in kw_1638 rfl rfl (Nat.le_of_ble_eq_true rfl) d_12_figures_86 ⟨(Nat.le_of_ble_eq_true rfl), (Nat.le_of_ble_eq_true rfl)⟩ ⟨(Nat.le_of_ble_eq_true rfl), (Nat.le_of_ble_eq_true rfl)⟩ (fun x9 r11 h => ?_)
        refine jg_if_eq (tgt := 108) (pc := 89) X d_12_figures_89 (by decide) r11 h (fun c13 h => ?_) (fun c13 h => ?_)
        · refine jg_iconst (pc := 108) X d_12_figures_108 ?_
          exact jg_ireturn (pc := 109) X hAe hlocks hr d_12_figures_109 ⟨(Nat.le_of_ble_eq_true rfl), (Nat.le_of_ble_eq_true rfl)⟩ rfl (⟨by decide, by decide⟩ : jRng 0) w7 h
        · refine jg_aload_n (pc := 92) X d_12_figures_92 0 rfl ?_
          refine jgf_12_10 (pc := 93) X (jl_345_12 hn) kw_1483 d_12_figures_93 ?_
          refine jg_iload_n (pc := 96) X d_12_figures_96 2 rfl ?_
          refine jg_iload_n (pc := 97) X d_12_figures_97 3 rfl ?_
          refine jg_pcallSi (pc := 98) X (m_12_in (w7.1 _ _) rv2 rv3 w7 h) jM_12_in kw_1638 rfl rfl (Nat.le_of_ble_eq_true rfl) d_12_figures_98 ⟨(Nat.le_of_ble_eq_true rfl), (Nat.le_of_ble_eq_true rfl)⟩ ⟨(Nat.le_of_ble_eq_true rfl), (Nat.le_of_ble_eq_true rfl)⟩ (fun x14 r16 h => ?_)
          refine jg_if_eq (tgt := 108) (pc := 101) X d_12_figures_101 (by decide) r16 h (fun c18 h => ?_) (fun c18 h => ?_)
          · refine jg_iconst (pc := 108) X d_12_figures_108 ?_
            exact jg_ireturn (pc := 109) X hAe hlocks hr d_12_figures_109 ⟨(Nat.le_of_ble_eq_true rfl), (Nat.le_of_ble_eq_true rfl)⟩ rfl (⟨by decide, by decide⟩ : jRng 0) w7 h
          · refine jg_iconst (pc := 104) X d_12_figures_104 ?_
            refine jg_goto (tgt := 109) (pc := 105) X d_12_figures_105 (by decide) ?_
            exact jg_ireturn (pc := 109) X hAe hlocks hr d_12_figures_109 ⟨(Nat.le_of_ble_eq_true rfl), (Nat.le_of_ble_eq_true rfl)⟩ rfl (⟨by decide, by decide⟩ : jRng 1) w7 h
      · refine jg_aload_n (pc := 20) X d_12_figures_20 0 rfl ?_
        refine jgf_12_7 (pc := 21) X (jl_345_12 hn) kw_1480 d_12_figures_21 ?_
        refine jg_iload (pc := 24) X d_12_figures_24 4 rfl ?_
        refine jg_isub (pc := 26) X d_12_figures_26 ?_
        refine jg_iconst (pc := 27) X d_12_figures_27 ?_
        obtain ⟨r19, h⟩ := h
        refine jg_icmp_ge (tgt := 52) (pc := 28) X d_12_figures_28 (by decide) r19 (⟨by decide, by decide⟩ : jRng 3) h (fun c20 h => ?_) (fun c20 h => ?_)
        · have c20 : 3 ≤ ((C 345 7) - v4) := c20
          refine jg_iload (pc := 52) X d_12_figures_52 5 rfl ?_
          refine jg_istore (pc := 54) X [(5, jI v5), (0, jr Z 345), (1, jI v1), (2, jI v2), (3, jI v3), (4, jI v4)] d_12_figures_54 (by decide) rfl ?_
          refine jg_aload_n (pc := 56) X d_12_figures_56 1 rfl ?_
          refine jg_dup (pc := 57) X d_12_figures_57 rfl ?_
          refine jgf_12_7 (pc := 58) X (jl_345_12 hn) kw_1480 d_12_figures_58 ?_
          refine jg_iconst (pc := 61) X d_12_figures_61 ?_
          refine jg_iadd (pc := 62) X d_12_figures_62 ?_
          obtain ⟨r21, h⟩ := h
          refine jgp_12_7 (pc := 63) X (jl_345_12 hn) kw_1480 d_12_figures_63 ?_
          have w22 := jWF.u (k := 7) (v := ((C 345 7) + 1)) hw (jl_345_12 hn) (by decide) r21
          refine jg_goto (tgt := 9) (pc := 66) X d_12_figures_66 (by decide) ?_
          refine jg_sub [1, 2, 3, 4, 5, 0] rfl ?_
          exact ih9 _ _ rv5 w22 h
        · have c20 : ¬ (3 ≤ ((C 345 7) - v4)) := c20
          refine jg_bipush (pc := 31) X d_12_figures_31 rfl ?_
          refine jg_iload (pc := 33) X d_12_figures_33 5 rfl ?_
          refine jg_imul (pc := 35) X d_12_figures_35 ?_
          refine jg_aload_n (pc := 36) X d_12_figures_36 0 rfl ?_
          refine jgf_12_5 (pc := 37) X (jl_345_12 hn) kw_1478 d_12_figures_37 ?_
          refine jg_aload_n (pc := 40) X d_12_figures_40 0 rfl ?_
          refine jgf_12_7 (pc := 41) X (jl_345_12 hn) kw_1480 d_12_figures_41 ?_
          obtain ⟨b23, b24, h⟩ := h
          refine jg_baload (pc := 44) X d_12_figures_44 (jl_349_20 hn) b23 b24 ?_
          refine jg_iadd (pc := 45) X d_12_figures_45 ?_
          refine jg_bipush (pc := 46) X d_12_figures_46 rfl ?_
          refine jg_isub (pc := 48) X d_12_figures_48 ?_
          refine jg_goto (tgt := 54) (pc := 49) X d_12_figures_49 (by decide) ?_
          refine jg_istore (pc := 54) X [(5, jI (((10 * v5) + (C 349 (C 345 7))) - 48)), (0, jr Z 345), (1, jI v1), (2, jI v2), (3, jI v3), (4, jI v4)] d_12_figures_54 (by decide) rfl ?_
          refine jg_aload_n (pc := 56) X d_12_figures_56 1 rfl ?_
          refine jg_dup (pc := 57) X d_12_figures_57 rfl ?_
          refine jgf_12_7 (pc := 58) X (jl_345_12 hn) kw_1480 d_12_figures_58 ?_
          refine jg_iconst (pc := 61) X d_12_figures_61 ?_
          refine jg_iadd (pc := 62) X d_12_figures_62 ?_
          have r25 : jRng ((C 345 7) + 1) := by (unfold jRng; exact ⟨by (have z0 : jRng (C 345 7) := (hw.1 _ _); unfold jRng at z0; omega), by (have z0 : jRng (C 345 7) := (hw.1 _ _); unfold jRng at z0; omega)⟩)
          refine jgp_12_7 (pc := 63) X (jl_345_12 hn) kw_1480 d_12_figures_63 ?_
          have w26 := jWF.u (k := 7) (v := ((C 345 7) + 1)) hw (jl_345_12 hn) (by decide) r25
          refine jg_goto (tgt := 9) (pc := 66) X d_12_figures_66 (by decide) ?_
          obtain ⟨r27, h⟩ := h
          refine jg_sub [1, 2, 3, 4, 5, 0] rfl ?_
          exact ih9 _ _ r27 w26 h
  obtain ⟨N, h⟩ := h
  refine jg_sub [2, 3, 4, 5, 1, 0] rfl ?_
  exact jl9 _ (hw0.1 _ _) N _ _ (⟨by decide, by decide⟩ : jRng 0) hw0 h
set_option maxHeartbeats 4000000 in
set_option maxRecDepth 100000 in
theorem m_12_signed {l : Launch} {Z : jE} {n : Nat} {C : jC} {v1 : Int} {post : Int → jC → Prop} (rv1 : jRng v1) (hw0 : jWF n C) (h : wp_12_signed v1 C post) : jCi l y_12_signed prog_14_method_38_code 3 (.boolean) q_12_signed Z n C [jr Z 345, jI v1] post := by
  have hn := hw0.2.2.1
  unfold wp_12_signed at h
  refine jCi_of (lv0 := [(0, jr Z 345), (1, jI v1)]) (by decide) (Nat.le_of_ble_eq_true rfl) rfl ?_
  intro p e s m args below meth c A sz X hAe hr hlocks
  have jb54 : ∀ (v1 : Int) (v2 : Int) (C : jC) (rv1 : jRng v1) (rv2 : jRng v2) (hw : jWF n C), wp_12_signed_54 v1 v2 C post → jG p l e q_12_signed s m args below meth c 3 Z A (jws Z n C) 0 0 (MQ below (jQi Z n sz post) args s q_12_signed.cells q_12_signed.slots (jA Z n sz)) 54 [(0, jr Z 345), (1, jI v1), (2, jI v2)] [] := by
    intro v1 v2 C rv1 rv2 hw h
    unfold wp_12_signed_54 at h
    refine jg_aload_n (pc := 54) X d_12_signed_54 0 rfl ?_
    refine jg_iload_n (pc := 55) X d_12_signed_55 2 rfl ?_
    refine jg_if_eq (tgt := 63) (pc := 56) X d_12_signed_56 (by decide) rv2 h (fun c1 h => ?_) (fun c1 h => ?_)
    · refine jg_iconst (pc := 63) X d_12_signed_63 ?_
      refine jg_iload_n (pc := 64) X d_12_signed_64 1 rfl ?_
      refine jg_sipush (pc := 65) X d_12_signed_65 rfl ?_
      refine jg_callVi (pc := 68) X (m_12_figures (⟨by decide, by decide⟩ : jRng 1) rv1 (⟨by decide, by decide⟩ : jRng 999) hw h) jM_12_figures kw_1634 (jl_345_12 hn) rfl rfl rfl rfl rfl (Nat.le_of_ble_eq_true rfl) d_12_signed_68 ⟨(Nat.le_of_ble_eq_true rfl), (Nat.le_of_ble_eq_true rfl)⟩ ⟨(Nat.le_of_ble_eq_true rfl), (Nat.le_of_ble_eq_true rfl)⟩ (fun x2 C3 r4 w5 h => ?_)
      obtain ⟨b6, h⟩ := h
      exact jg_ireturn (pc := 71) X hAe hlocks hr d_12_signed_71 ⟨(Nat.le_of_ble_eq_true rfl), (Nat.le_of_ble_eq_true rfl)⟩ (jnar_b b6) r4 w5 h
    · refine jg_iconst (pc := 59) X d_12_signed_59 ?_
      refine jg_goto (tgt := 64) (pc := 60) X d_12_signed_60 (by decide) ?_
      refine jg_iload_n (pc := 64) X d_12_signed_64 1 rfl ?_
      refine jg_sipush (pc := 65) X d_12_signed_65 rfl ?_
      refine jg_callVi (pc := 68) X (m_12_figures (⟨by decide, by decide⟩ : jRng (-1)) rv1 (⟨by decide, by decide⟩ : jRng 999) hw h) jM_12_figures kw_1634 (jl_345_12 hn) rfl rfl rfl rfl rfl (Nat.le_of_ble_eq_true rfl) d_12_signed_68 ⟨(Nat.le_of_ble_eq_true rfl), (Nat.le_of_ble_eq_true rfl)⟩ ⟨(Nat.le_of_ble_eq_true rfl), (Nat.le_of_ble_eq_true rfl)⟩ (fun x7 C8 r9 w10 h => ?_)
      obtain ⟨b11, h⟩ := h
      exact jg_ireturn (pc := 71) X hAe hlocks hr d_12_signed_71 ⟨(Nat.le_of_ble_eq_true rfl), (Nat.le_of_ble_eq_true rfl)⟩ (jnar_b b11) r9 w10 h
  have jb27 : ∀ (s0 : Int) (s1 : Int) (v1 : Int) (v2 : Int) (C : jC) (rs0 : jRng s0) (rs1 : jRng s1) (rv1 : jRng v1) (rv2 : jRng v2) (hw : jWF n C), wp_12_signed_27 s0 s1 v1 v2 C post → jG p l e q_12_signed s m args below meth c 3 Z A (jws Z n C) 0 0 (MQ below (jQi Z n sz post) args s q_12_signed.cells q_12_signed.slots (jA Z n sz)) 27 [(0, jr Z 345), (1, jI v1), (2, jI v2)] [jI s0, jI s1, jr Z 345] := by
    intro s0 s1 v1 v2 C rs0 rs1 rv1 rv2 hw h
    unfold wp_12_signed_27 at h
    refine jg_iadd (pc := 27) X d_12_signed_27 ?_
    obtain ⟨r12, h⟩ := h
    refine jgp_12_7 (pc := 28) X (jl_345_12 hn) kw_1480 d_12_signed_28 ?_
    have w13 := jWF.u (k := 7) (v := (s1 + s0)) hw (jl_345_12 hn) (by decide) r12
    refine jg_iload_n (pc := 31) X d_12_signed_31 2 rfl ?_
    refine jg_if_eq (tgt := 54) (pc := 32) X d_12_signed_32 (by decide) rv2 h (fun c14 h => ?_) (fun c14 h => ?_)
    · refine jg_sub [0, 1, 2] rfl ?_
      exact jb54 _ _ _ rv1 rv2 w13 h
    · refine jg_aload_n (pc := 35) X d_12_signed_35 0 rfl ?_
      refine jg_bipush (pc := 36) X d_12_signed_36 rfl ?_
      refine jg_bipush (pc := 38) X d_12_signed_38 rfl ?_
      refine jg_pcallVi (pc := 40) X (m_12_isAt (⟨by decide, by decide⟩ : jRng 48) (⟨by decide, by decide⟩ : jRng 57) w13 h) jM_12_isAt kw_1571 (jl_345_12 hn) rfl rfl rfl rfl rfl (Nat.le_of_ble_eq_true rfl) d_12_signed_40 ⟨(Nat.le_of_ble_eq_true rfl), (Nat.le_of_ble_eq_true rfl)⟩ ⟨(Nat.le_of_ble_eq_true rfl), (Nat.le_of_ble_eq_true rfl)⟩ (fun x15 r17 h => ?_)
      refine jg_if_ne (tgt := 54) (pc := 43) X d_12_signed_43 (by decide) r17 h (fun c19 h => ?_) (fun c19 h => ?_)
      · refine jg_aload_n (pc := 46) X d_12_signed_46 0 rfl ?_
        refine jg_aload_n (pc := 47) X d_12_signed_47 0 rfl ?_
        refine jgf_12_7 (pc := 48) X (jl_345_12 hn) kw_1480 d_12_signed_48 ?_
        refine jgp_12_9 (pc := 51) X (jl_345_12 hn) kw_1482 d_12_signed_51 ?_
        have w20 := jWF.u (k := 9) (v := ((jU C 345 7 (s1 + s0)) 345 7)) w13 (jl_345_12 hn) (by decide) (w13.1 _ _)
        refine jg_sub [0, 1, 2] rfl ?_
        exact jb54 _ _ _ rv1 rv2 w20 h
      · refine jg_sub [0, 1, 2] rfl ?_
        exact jb54 _ _ _ rv1 rv2 w13 h
  refine jg_aload_n (pc := 0) X d_12_signed_0 0 rfl ?_
  refine jg_callVv (pc := 1) X (m_12_blanks hw0 h) jM_12_blanks kw_1567 (jl_345_12 hn) rfl rfl rfl rfl rfl (Nat.le_of_ble_eq_true rfl) d_12_signed_1 ⟨(Nat.le_of_ble_eq_true rfl), (Nat.le_of_ble_eq_true rfl)⟩ ⟨(Nat.le_of_ble_eq_true rfl), (Nat.le_of_ble_eq_true rfl)⟩ (fun C22 w24 h => ?_)
  refine jg_aload_n (pc := 4) X d_12_signed_4 0 rfl ?_
  refine jg_bipush (pc := 5) X d_12_signed_5 rfl ?_
  refine jg_bipush (pc := 7) X d_12_signed_7 rfl ?_
  refine jg_pcallVi (pc := 9) X (m_12_isAt (⟨by decide, by decide⟩ : jRng 45) (⟨by decide, by decide⟩ : jRng 45) w24 h) jM_12_isAt kw_1571 (jl_345_12 hn) rfl rfl rfl rfl rfl (Nat.le_of_ble_eq_true rfl) d_12_signed_9 ⟨(Nat.le_of_ble_eq_true rfl), (Nat.le_of_ble_eq_true rfl)⟩ ⟨(Nat.le_of_ble_eq_true rfl), (Nat.le_of_ble_eq_true rfl)⟩ (fun x25 r27 h => ?_)
  refine jg_istore_n (pc := 12) X [(2, jI x25), (0, jr Z 345), (1, jI v1)] d_12_signed_12 (by decide) rfl ?_
  refine jg_aload_n (pc := 13) X d_12_signed_13 1 rfl ?_
  refine jg_dup (pc := 14) X d_12_signed_14 rfl ?_
  refine jgf_12_7 (pc := 15) X (jl_345_12 hn) kw_1480 d_12_signed_15 ?_
  refine jg_iload_n (pc := 18) X d_12_signed_18 0 rfl ?_
  refine jg_if_eq (tgt := 26) (pc := 19) X d_12_signed_19 (by decide) r27 h (fun c29 h => ?_) (fun c29 h => ?_)
  · refine jg_iconst (pc := 26) X d_12_signed_26 ?_
    refine jg_sub [1, 2, 0] rfl ?_
    exact jb27 _ _ _ _ _ (⟨by decide, by decide⟩ : jRng 0) (w24.1 _ _) rv1 r27 w24 h
  · refine jg_iconst (pc := 22) X d_12_signed_22 ?_
    refine jg_goto (tgt := 27) (pc := 23) X d_12_signed_23 (by decide) ?_
    refine jg_sub [1, 2, 0] rfl ?_
    exact jb27 _ _ _ _ _ (⟨by decide, by decide⟩ : jRng 1) (w24.1 _ _) rv1 r27 w24 h
set_option maxHeartbeats 4000000 in
set_option maxRecDepth 100000 in
theorem m_12_aValue {l : Launch} {Z : jE} {n : Nat} {C : jC} {v1 : Int} {post : Int → jC → Prop} (rv1 : jRng v1) (hw0 : jWF n C) (h : wp_12_aValue v1 C post) : jCi l y_12_aValue prog_14_method_40_code 4 (.boolean) q_12_aValue Z n C [jr Z 345, jI v1] post := by
  have hn := hw0.2.2.1
  unfold wp_12_aValue at h
  refine jCi_of (lv0 := [(0, jr Z 345), (1, jI v1)]) (by decide) (Nat.le_of_ble_eq_true rfl) rfl ?_
  intro p e s m args below meth c A sz X hAe hr hlocks
  refine jg_aload_n (pc := 0) X d_12_aValue_0 0 rfl ?_
  refine jg_bipush (pc := 1) X d_12_aValue_1 rfl ?_
  refine jg_callVi (pc := 3) X (m_12_sign (⟨by decide, by decide⟩ : jRng 46) hw0 h) jM_12_sign kw_1622 (jl_345_12 hn) rfl rfl rfl rfl rfl (Nat.le_of_ble_eq_true rfl) d_12_aValue_3 ⟨(Nat.le_of_ble_eq_true rfl), (Nat.le_of_ble_eq_true rfl)⟩ ⟨(Nat.le_of_ble_eq_true rfl), (Nat.le_of_ble_eq_true rfl)⟩ (fun x1 C2 r3 w4 h => ?_)
  refine jg_if_eq (tgt := 17) (pc := 6) X d_12_aValue_6 (by decide) r3 h (fun c5 h => ?_) (fun c5 h => ?_)
  · refine jg_aload_n (pc := 17) X d_12_aValue_17 0 rfl ?_
    refine jg_iload_n (pc := 18) X d_12_aValue_18 1 rfl ?_
    refine jg_pcallVi (pc := 19) X (m_12_isWords rv1 w4 h) jM_12_isWords kw_1626 (jl_345_12 hn) rfl rfl rfl rfl rfl (Nat.le_of_ble_eq_true rfl) d_12_aValue_19 ⟨(Nat.le_of_ble_eq_true rfl), (Nat.le_of_ble_eq_true rfl)⟩ ⟨(Nat.le_of_ble_eq_true rfl), (Nat.le_of_ble_eq_true rfl)⟩ (fun x6 r8 h => ?_)
    refine jg_if_ne (tgt := 33) (pc := 22) X d_12_aValue_22 (by decide) r8 h (fun c10 h => ?_) (fun c10 h => ?_)
    · refine jg_aload_n (pc := 25) X d_12_aValue_25 0 rfl ?_
      refine jg_sipush (pc := 26) X d_12_aValue_26 rfl ?_
      refine jg_callVi (pc := 29) X (m_12_signed (⟨by decide, by decide⟩ : jRng (-999)) w4 h) jM_12_signed kw_1630 (jl_345_12 hn) rfl rfl rfl rfl rfl (Nat.le_of_ble_eq_true rfl) d_12_aValue_29 ⟨(Nat.le_of_ble_eq_true rfl), (Nat.le_of_ble_eq_true rfl)⟩ ⟨(Nat.le_of_ble_eq_true rfl), (Nat.le_of_ble_eq_true rfl)⟩ (fun x11 C12 r13 w14 h => ?_)
      obtain ⟨b15, h⟩ := h
      exact jg_ireturn (pc := 32) X hAe hlocks hr d_12_aValue_32 ⟨(Nat.le_of_ble_eq_true rfl), (Nat.le_of_ble_eq_true rfl)⟩ (jnar_b b15) r13 w14 h
    · refine jg_aload_n (pc := 33) X d_12_aValue_33 0 rfl ?_
      refine jg_callVv (pc := 34) X (m_12_letters w4 h) jM_12_letters kw_1575 (jl_345_12 hn) rfl rfl rfl rfl rfl (Nat.le_of_ble_eq_true rfl) d_12_aValue_34 ⟨(Nat.le_of_ble_eq_true rfl), (Nat.le_of_ble_eq_true rfl)⟩ ⟨(Nat.le_of_ble_eq_true rfl), (Nat.le_of_ble_eq_true rfl)⟩ (fun C17 w19 h => ?_)
      refine jg_aload_n (pc := 37) X d_12_aValue_37 0 rfl ?_
      refine jgf_12_7 (pc := 38) X (jl_345_12 hn) kw_1480 d_12_aValue_38 ?_
      refine jg_aload_n (pc := 41) X d_12_aValue_41 0 rfl ?_
      refine jgf_12_9 (pc := 42) X (jl_345_12 hn) kw_1482 d_12_aValue_42 ?_
      refine jg_isub (pc := 45) X d_12_aValue_45 ?_
      refine jg_istore_n (pc := 46) X [(2, jI ((C17 345 7) - (C17 345 9))), (0, jr Z 345), (1, jI v1)] d_12_aValue_46 (by decide) rfl ?_
      refine jg_aload_n (pc := 47) X d_12_aValue_47 1 rfl ?_
      refine jg_iconst (pc := 48) X d_12_aValue_48 ?_
      refine jgp_12_10 (pc := 49) X (jl_345_12 hn) kw_1483 d_12_aValue_49 ?_
      have w20 := jWF.u (k := 10) (v := 0) w19 (jl_345_12 hn) (by decide) (⟨by decide, by decide⟩ : jRng 0)
      refine jg_iconst (pc := 52) X d_12_aValue_52 ?_
      refine jg_istore_n (pc := 53) X [(3, jI 0), (2, jI ((C17 345 7) - (C17 345 9))), (0, jr Z 345), (1, jI v1)] d_12_aValue_53 (by decide) rfl ?_
      obtain ⟨r21, h⟩ := h
      have jl54 : ∀ (v2 : Int) (rv2 : jRng v2) (N : Nat) (v3 : Int) (C : jC) (rv3 : jRng v3) (hw : jWF n C), jI2 (wp_12_aValue_54 v2 post) N v3 C → jG p l e q_12_aValue s m args below meth c 4 Z A (jws Z n C) 0 0 (MQ below (jQi Z n sz post) args s q_12_aValue.cells q_12_aValue.slots (jA Z n sz)) 54 [(0, jr Z 345), (2, jI v2), (3, jI v3)] [] := by
        intro v2 rv2 N
        have hn := hw0.2.2.1
        induction N with
        | zero => intro v3 C rv3 hw h; exact h.elim
        | succ N ih54 =>
          intro v3 C rv3 hw h
          have h : wp_12_aValue_54 v2 post (jI2 (wp_12_aValue_54 v2 post) N) v3 C := h
          generalize jI2 (wp_12_aValue_54 v2 post) N = k54 at h ih54
          unfold wp_12_aValue_54 at h
          refine jg_iload_n (pc := 54) X d_12_aValue_54 2 rfl ?_
          refine jg_iconst (pc := 55) X d_12_aValue_55 ?_
          refine jg_icmp_ge (tgt := 102) (pc := 56) X d_12_aValue_56 (by decide) rv3 (⟨by decide, by decide⟩ : jRng 4) h (fun c22 h => ?_) (fun c22 h => ?_)
          · refine jg_iload_n (pc := 102) X d_12_aValue_102 1 rfl ?_
            refine jg_iconst (pc := 103) X d_12_aValue_103 ?_
            refine jg_iconst (pc := 104) X d_12_aValue_104 ?_
            refine jg_pcallSi (pc := 105) X (m_12_in rv2 (⟨by decide, by decide⟩ : jRng 1) (⟨by decide, by decide⟩ : jRng 4) hw h) jM_12_in kw_1638 rfl rfl (Nat.le_of_ble_eq_true rfl) d_12_aValue_105 ⟨(Nat.le_of_ble_eq_true rfl), (Nat.le_of_ble_eq_true rfl)⟩ ⟨(Nat.le_of_ble_eq_true rfl), (Nat.le_of_ble_eq_true rfl)⟩ (fun x23 r25 h => ?_)
            obtain ⟨b27, h⟩ := h
            exact jg_ireturn (pc := 108) X hAe hlocks hr d_12_aValue_108 ⟨(Nat.le_of_ble_eq_true rfl), (Nat.le_of_ble_eq_true rfl)⟩ (jnar_b b27) r25 hw h
          · refine jg_aload_n (pc := 59) X d_12_aValue_59 0 rfl ?_
            refine jg_bipush (pc := 60) X d_12_aValue_60 rfl ?_
            refine jg_aload_n (pc := 62) X d_12_aValue_62 0 rfl ?_
            refine jgf_12_10 (pc := 63) X (jl_345_12 hn) kw_1483 d_12_aValue_63 ?_
            refine jg_imul (pc := 66) X d_12_aValue_66 ?_
            refine jg_iload_n (pc := 67) X d_12_aValue_67 2 rfl ?_
            refine jg_iload_n (pc := 68) X d_12_aValue_68 1 rfl ?_
            refine jg_icmp_ge (tgt := 91) (pc := 69) X d_12_aValue_69 (by decide) rv3 rv2 h (fun c28 h => ?_) (fun c28 h => ?_)
            · refine jg_iconst (pc := 91) X d_12_aValue_91 ?_
              refine jg_iadd (pc := 92) X d_12_aValue_92 ?_
              obtain ⟨r29, h⟩ := h
              refine jgp_12_10 (pc := 93) X (jl_345_12 hn) kw_1483 d_12_aValue_93 ?_
              have w30 := jWF.u (k := 10) (v := ((27 * (C 345 10)) + 0)) hw (jl_345_12 hn) (by decide) r29
              refine jg_iinc (pc := 96) X [(3, jI (v3 + 1)), (0, jr Z 345), (2, jI v2)] d_12_aValue_96 2 rfl (by decide) rfl ?_
              refine jg_goto (tgt := 54) (pc := 99) X d_12_aValue_99 (by decide) ?_
              have r31 : jRng (v3 + 1) := by (unfold jRng; exact ⟨by (have z0 : jRng v3 := rv3; have z1 : jRng v2 := rv2; unfold jRng at z0 z1; omega), by (have z0 : jRng v3 := rv3; have z1 : jRng v2 := rv2; unfold jRng at z0 z1; omega)⟩)
              refine jg_sub [1, 2, 0] rfl ?_
              exact ih54 _ _ r31 w30 h
            · refine jg_aload_n (pc := 72) X d_12_aValue_72 0 rfl ?_
              refine jgf_12_5 (pc := 73) X (jl_345_12 hn) kw_1478 d_12_aValue_73 ?_
              refine jg_aload_n (pc := 76) X d_12_aValue_76 0 rfl ?_
              refine jgf_12_9 (pc := 77) X (jl_345_12 hn) kw_1482 d_12_aValue_77 ?_
              refine jg_iload_n (pc := 80) X d_12_aValue_80 2 rfl ?_
              refine jg_iadd (pc := 81) X d_12_aValue_81 ?_
              obtain ⟨b32, b33, h⟩ := h
              refine jg_baload (pc := 82) X d_12_aValue_82 (jl_349_20 hn) b32 b33 ?_
              refine jg_bipush (pc := 83) X d_12_aValue_83 rfl ?_
              refine jg_isub (pc := 85) X d_12_aValue_85 ?_
              refine jg_iconst (pc := 86) X d_12_aValue_86 ?_
              refine jg_iadd (pc := 87) X d_12_aValue_87 ?_
              refine jg_goto (tgt := 92) (pc := 88) X d_12_aValue_88 (by decide) ?_
              refine jg_iadd (pc := 92) X d_12_aValue_92 ?_
              obtain ⟨r34, h⟩ := h
              refine jgp_12_10 (pc := 93) X (jl_345_12 hn) kw_1483 d_12_aValue_93 ?_
              have w35 := jWF.u (k := 10) (v := ((27 * (C 345 10)) + (((C 349 ((C 345 9) + v3)) - 97) + 1))) hw (jl_345_12 hn) (by decide) r34
              refine jg_iinc (pc := 96) X [(3, jI (v3 + 1)), (0, jr Z 345), (2, jI v2)] d_12_aValue_96 2 rfl (by decide) rfl ?_
              refine jg_goto (tgt := 54) (pc := 99) X d_12_aValue_99 (by decide) ?_
              have r36 : jRng (v3 + 1) := by (unfold jRng; exact ⟨by (have z0 : jRng v3 := rv3; have z1 : jRng v2 := rv2; unfold jRng at z0 z1; omega), by (have z0 : jRng v3 := rv3; have z1 : jRng v2 := rv2; unfold jRng at z0 z1; omega)⟩)
              refine jg_sub [1, 2, 0] rfl ?_
              exact ih54 _ _ r36 w35 h
      obtain ⟨N, h⟩ := h
      refine jg_sub [2, 1, 0] rfl ?_
      exact jl54 _ r21 N _ _ (⟨by decide, by decide⟩ : jRng 0) w20 h
  · refine jg_aload_n (pc := 9) X d_12_aValue_9 0 rfl ?_
    refine jg_ldk (pc := 10) (-1000000) X kw_1617 (by decide) d_12_aValue_10 ?_
    refine jgp_12_10 (pc := 12) X (jl_345_12 hn) kw_1483 d_12_aValue_12 ?_
    have w37 := jWF.u (k := 10) (v := (-1000000)) w4 (jl_345_12 hn) (by decide) (⟨by decide, by decide⟩ : jRng (-1000000))
    refine jg_iconst (pc := 15) X d_12_aValue_15 ?_
    exact jg_ireturn (pc := 16) X hAe hlocks hr d_12_aValue_16 ⟨(Nat.le_of_ble_eq_true rfl), (Nat.le_of_ble_eq_true rfl)⟩ rfl (⟨by decide, by decide⟩ : jRng 1) w37 h
set_option maxHeartbeats 4000000 in
set_option maxRecDepth 100000 in
theorem m_12_rowOf {l : Launch} {Z : jE} {n : Nat} {C : jC} {v1 : Int} {post : Int → Prop} (rv1 : jRng v1) (hw0 : jWF n C) (h : wp_12_rowOf v1 C post) : jCi l y_12_rowOf prog_14_method_23_code 3 (.int) q_12_rowOf Z n C [jr Z 345, jI v1] (fun x C9 => C9 = C ∧ post x) := by
  have hn := hw0.2.2.1
  unfold wp_12_rowOf at h
  refine jCi_of (lv0 := [(0, jr Z 345), (1, jI v1)]) (by decide) (Nat.le_of_ble_eq_true rfl) rfl ?_
  intro p e s m args below meth c A sz X hAe hr hlocks
  refine jg_iload_n (pc := 0) X d_12_rowOf_0 1 rfl ?_
  refine jg_if_ge (tgt := 9) (pc := 1) X d_12_rowOf_1 (by decide) rv1 h (fun c1 h => ?_) (fun c1 h => ?_)
  · refine jg_iconst (pc := 9) X d_12_rowOf_9 ?_
    refine jg_istore_n (pc := 10) X [(2, jI 0), (0, jr Z 345), (1, jI v1)] d_12_rowOf_10 (by decide) rfl ?_
    have hw : jWF n C := hw0
    have jl11 : ∀  (N : Nat) (v2 : Int) (rv2 : jRng v2), jI1 (wp_12_rowOf_11 v1 C post) N v2 → jG p l e q_12_rowOf s m args below meth c 3 Z A (jws Z n C) 0 0 (MQ below (jQi Z n sz (fun x C9 => C9 = C ∧ post x)) args s q_12_rowOf.cells q_12_rowOf.slots (jA Z n sz)) 11 [(0, jr Z 345), (1, jI v1), (2, jI v2)] [] := by
      intro   N
      have hn := hw0.2.2.1
      induction N with
      | zero => intro v2 rv2 h; exact h.elim
      | succ N ih11 =>
        intro v2 rv2 h
        have h : wp_12_rowOf_11 v1 C post (jI1 (wp_12_rowOf_11 v1 C post) N) v2 := h
        generalize jI1 (wp_12_rowOf_11 v1 C post) N = k11 at h ih11
        unfold wp_12_rowOf_11 at h
        refine jg_iload_n (pc := 11) X d_12_rowOf_11 2 rfl ?_
        refine jg_bipush (pc := 12) X d_12_rowOf_12 rfl ?_
        refine jg_icmp_ge (tgt := 39) (pc := 14) X d_12_rowOf_14 (by decide) rv2 (⟨by decide, by decide⟩ : jRng 24) h (fun c2 h => ?_) (fun c2 h => ?_)
        · refine jg_iload_n (pc := 39) X d_12_rowOf_39 2 rfl ?_
          refine jg_bipush (pc := 40) X d_12_rowOf_40 rfl ?_
          refine jg_icmp_ne (tgt := 49) (pc := 42) X d_12_rowOf_42 (by decide) rv2 (⟨by decide, by decide⟩ : jRng 24) h (fun c3 h => ?_) (fun c3 h => ?_)
          · refine jg_iconst (pc := 45) X d_12_rowOf_45 ?_
            refine jg_goto (tgt := 56) (pc := 46) X d_12_rowOf_46 (by decide) ?_
            exact jg_ireturn (pc := 56) X hAe hlocks hr d_12_rowOf_56 ⟨(Nat.le_of_ble_eq_true rfl), (Nat.le_of_ble_eq_true rfl)⟩ rfl (⟨by decide, by decide⟩ : jRng (-1)) hw ⟨rfl, h⟩
          · refine jg_bipush (pc := 49) X d_12_rowOf_49 rfl ?_
            refine jg_bipush (pc := 51) X d_12_rowOf_51 rfl ?_
            refine jg_iload_n (pc := 53) X d_12_rowOf_53 2 rfl ?_
            refine jg_imul (pc := 54) X d_12_rowOf_54 ?_
            refine jg_iadd (pc := 55) X d_12_rowOf_55 ?_
            obtain ⟨r4, h⟩ := h
            exact jg_ireturn (pc := 56) X hAe hlocks hr d_12_rowOf_56 ⟨(Nat.le_of_ble_eq_true rfl), (Nat.le_of_ble_eq_true rfl)⟩ rfl r4 hw ⟨rfl, h⟩
        · refine jg_aload_n (pc := 17) X d_12_rowOf_17 0 rfl ?_
          refine jgf_12_1 (pc := 18) X (jl_345_12 hn) kw_1474 d_12_rowOf_18 ?_
          refine jg_bipush (pc := 21) X d_12_rowOf_21 rfl ?_
          refine jg_bipush (pc := 23) X d_12_rowOf_23 rfl ?_
          refine jg_iload_n (pc := 25) X d_12_rowOf_25 2 rfl ?_
          refine jg_imul (pc := 26) X d_12_rowOf_26 ?_
          refine jg_iadd (pc := 27) X d_12_rowOf_27 ?_
          obtain ⟨b5, h⟩ := h
          have b6 : (9 + (11 * v2)) < 8954 := by (have z0 : jRng v2 := rv2; unfold jRng at z0; omega)
          refine jg_iaload (len := 8954) (pc := 28) X d_12_rowOf_28 (jl_346_9954 hn) (fun _ => rfl) (by decide) b5 b6 ?_
          refine jg_iload_n (pc := 29) X d_12_rowOf_29 1 rfl ?_
          refine jg_icmp_eq (tgt := 39) (pc := 30) X d_12_rowOf_30 (by decide) (hw.1 _ _) rv1 h (fun c7 h => ?_) (fun c7 h => ?_)
          · have c7 : (C 346 (9 + (11 * v2))) = v1 := c7
            refine jg_iload_n (pc := 39) X d_12_rowOf_39 2 rfl ?_
            refine jg_bipush (pc := 40) X d_12_rowOf_40 rfl ?_
            refine jg_icmp_ne (tgt := 49) (pc := 42) X d_12_rowOf_42 (by decide) rv2 (⟨by decide, by decide⟩ : jRng 24) h (fun c8 h => ?_) (fun c8 h => ?_)
            · refine jg_iconst (pc := 45) X d_12_rowOf_45 ?_
              refine jg_goto (tgt := 56) (pc := 46) X d_12_rowOf_46 (by decide) ?_
              exact jg_ireturn (pc := 56) X hAe hlocks hr d_12_rowOf_56 ⟨(Nat.le_of_ble_eq_true rfl), (Nat.le_of_ble_eq_true rfl)⟩ rfl (⟨by decide, by decide⟩ : jRng (-1)) hw ⟨rfl, h⟩
            · refine jg_bipush (pc := 49) X d_12_rowOf_49 rfl ?_
              refine jg_bipush (pc := 51) X d_12_rowOf_51 rfl ?_
              refine jg_iload_n (pc := 53) X d_12_rowOf_53 2 rfl ?_
              refine jg_imul (pc := 54) X d_12_rowOf_54 ?_
              refine jg_iadd (pc := 55) X d_12_rowOf_55 ?_
              have r9 : jRng (9 + (11 * v2)) := by (unfold jRng; exact ⟨by (have z0 : jRng v2 := rv2; unfold jRng at z0; omega), by (have z0 : jRng v2 := rv2; unfold jRng at z0; omega)⟩)
              exact jg_ireturn (pc := 56) X hAe hlocks hr d_12_rowOf_56 ⟨(Nat.le_of_ble_eq_true rfl), (Nat.le_of_ble_eq_true rfl)⟩ rfl r9 hw ⟨rfl, h⟩
          · have c7 : ¬ ((C 346 (9 + (11 * v2))) = v1) := c7
            refine jg_iinc (pc := 33) X [(2, jI (v2 + 1)), (0, jr Z 345), (1, jI v1)] d_12_rowOf_33 2 rfl (by decide) rfl ?_
            refine jg_goto (tgt := 11) (pc := 36) X d_12_rowOf_36 (by decide) ?_
            have r10 : jRng (v2 + 1) := by (unfold jRng; exact ⟨by (have z0 : jRng v2 := rv2; unfold jRng at z0; omega), by (have z0 : jRng v2 := rv2; unfold jRng at z0; omega)⟩)
            refine jg_sub [1, 2, 0] rfl ?_
            exact ih11 _ r10 h
    obtain ⟨N, h⟩ := h
    refine jg_sub [1, 2, 0] rfl ?_
    exact jl11   N _ (⟨by decide, by decide⟩ : jRng 0) h
  · refine jg_bipush (pc := 4) X d_12_rowOf_4 rfl ?_
    refine jg_goto (tgt := 10) (pc := 6) X d_12_rowOf_6 (by decide) ?_
    refine jg_istore_n (pc := 10) X [(2, jI 24), (0, jr Z 345), (1, jI v1)] d_12_rowOf_10 (by decide) rfl ?_
    have hw : jWF n C := hw0
    have jl11 : ∀  (N : Nat) (v2 : Int) (rv2 : jRng v2), jI1 (wp_12_rowOf_11 v1 C post) N v2 → jG p l e q_12_rowOf s m args below meth c 3 Z A (jws Z n C) 0 0 (MQ below (jQi Z n sz (fun x C9 => C9 = C ∧ post x)) args s q_12_rowOf.cells q_12_rowOf.slots (jA Z n sz)) 11 [(0, jr Z 345), (1, jI v1), (2, jI v2)] [] := by
      intro   N
      have hn := hw0.2.2.1
      induction N with
      | zero => intro v2 rv2 h; exact h.elim
      | succ N ih11 =>
        intro v2 rv2 h
        have h : wp_12_rowOf_11 v1 C post (jI1 (wp_12_rowOf_11 v1 C post) N) v2 := h
        generalize jI1 (wp_12_rowOf_11 v1 C post) N = k11 at h ih11
        unfold wp_12_rowOf_11 at h
        refine jg_iload_n (pc := 11) X d_12_rowOf_11 2 rfl ?_
        refine jg_bipush (pc := 12) X d_12_rowOf_12 rfl ?_
        refine jg_icmp_ge (tgt := 39) (pc := 14) X d_12_rowOf_14 (by decide) rv2 (⟨by decide, by decide⟩ : jRng 24) h (fun c11 h => ?_) (fun c11 h => ?_)
        · refine jg_iload_n (pc := 39) X d_12_rowOf_39 2 rfl ?_
          refine jg_bipush (pc := 40) X d_12_rowOf_40 rfl ?_
          refine jg_icmp_ne (tgt := 49) (pc := 42) X d_12_rowOf_42 (by decide) rv2 (⟨by decide, by decide⟩ : jRng 24) h (fun c12 h => ?_) (fun c12 h => ?_)
          · refine jg_iconst (pc := 45) X d_12_rowOf_45 ?_
            refine jg_goto (tgt := 56) (pc := 46) X d_12_rowOf_46 (by decide) ?_
            exact jg_ireturn (pc := 56) X hAe hlocks hr d_12_rowOf_56 ⟨(Nat.le_of_ble_eq_true rfl), (Nat.le_of_ble_eq_true rfl)⟩ rfl (⟨by decide, by decide⟩ : jRng (-1)) hw ⟨rfl, h⟩
          · refine jg_bipush (pc := 49) X d_12_rowOf_49 rfl ?_
            refine jg_bipush (pc := 51) X d_12_rowOf_51 rfl ?_
            refine jg_iload_n (pc := 53) X d_12_rowOf_53 2 rfl ?_
            refine jg_imul (pc := 54) X d_12_rowOf_54 ?_
            refine jg_iadd (pc := 55) X d_12_rowOf_55 ?_
            obtain ⟨r13, h⟩ := h
            exact jg_ireturn (pc := 56) X hAe hlocks hr d_12_rowOf_56 ⟨(Nat.le_of_ble_eq_true rfl), (Nat.le_of_ble_eq_true rfl)⟩ rfl r13 hw ⟨rfl, h⟩
        · refine jg_aload_n (pc := 17) X d_12_rowOf_17 0 rfl ?_
          refine jgf_12_1 (pc := 18) X (jl_345_12 hn) kw_1474 d_12_rowOf_18 ?_
          refine jg_bipush (pc := 21) X d_12_rowOf_21 rfl ?_
          refine jg_bipush (pc := 23) X d_12_rowOf_23 rfl ?_
          refine jg_iload_n (pc := 25) X d_12_rowOf_25 2 rfl ?_
          refine jg_imul (pc := 26) X d_12_rowOf_26 ?_
          refine jg_iadd (pc := 27) X d_12_rowOf_27 ?_
          obtain ⟨b14, h⟩ := h
          have b15 : (9 + (11 * v2)) < 8954 := by (have z0 : jRng v2 := rv2; unfold jRng at z0; omega)
          refine jg_iaload (len := 8954) (pc := 28) X d_12_rowOf_28 (jl_346_9954 hn) (fun _ => rfl) (by decide) b14 b15 ?_
          refine jg_iload_n (pc := 29) X d_12_rowOf_29 1 rfl ?_
          refine jg_icmp_eq (tgt := 39) (pc := 30) X d_12_rowOf_30 (by decide) (hw.1 _ _) rv1 h (fun c16 h => ?_) (fun c16 h => ?_)
          · have c16 : (C 346 (9 + (11 * v2))) = v1 := c16
            refine jg_iload_n (pc := 39) X d_12_rowOf_39 2 rfl ?_
            refine jg_bipush (pc := 40) X d_12_rowOf_40 rfl ?_
            refine jg_icmp_ne (tgt := 49) (pc := 42) X d_12_rowOf_42 (by decide) rv2 (⟨by decide, by decide⟩ : jRng 24) h (fun c17 h => ?_) (fun c17 h => ?_)
            · refine jg_iconst (pc := 45) X d_12_rowOf_45 ?_
              refine jg_goto (tgt := 56) (pc := 46) X d_12_rowOf_46 (by decide) ?_
              exact jg_ireturn (pc := 56) X hAe hlocks hr d_12_rowOf_56 ⟨(Nat.le_of_ble_eq_true rfl), (Nat.le_of_ble_eq_true rfl)⟩ rfl (⟨by decide, by decide⟩ : jRng (-1)) hw ⟨rfl, h⟩
            · refine jg_bipush (pc := 49) X d_12_rowOf_49 rfl ?_
              refine jg_bipush (pc := 51) X d_12_rowOf_51 rfl ?_
              refine jg_iload_n (pc := 53) X d_12_rowOf_53 2 rfl ?_
              refine jg_imul (pc := 54) X d_12_rowOf_54 ?_
              refine jg_iadd (pc := 55) X d_12_rowOf_55 ?_
              have r18 : jRng (9 + (11 * v2)) := by (unfold jRng; exact ⟨by (have z0 : jRng v2 := rv2; unfold jRng at z0; omega), by (have z0 : jRng v2 := rv2; unfold jRng at z0; omega)⟩)
              exact jg_ireturn (pc := 56) X hAe hlocks hr d_12_rowOf_56 ⟨(Nat.le_of_ble_eq_true rfl), (Nat.le_of_ble_eq_true rfl)⟩ rfl r18 hw ⟨rfl, h⟩
          · have c16 : ¬ ((C 346 (9 + (11 * v2))) = v1) := c16
            refine jg_iinc (pc := 33) X [(2, jI (v2 + 1)), (0, jr Z 345), (1, jI v1)] d_12_rowOf_33 2 rfl (by decide) rfl ?_
            refine jg_goto (tgt := 11) (pc := 36) X d_12_rowOf_36 (by decide) ?_
            have r19 : jRng (v2 + 1) := by (unfold jRng; exact ⟨by (have z0 : jRng v2 := rv2; unfold jRng at z0; omega), by (have z0 : jRng v2 := rv2; unfold jRng at z0; omega)⟩)
            refine jg_sub [1, 2, 0] rfl ?_
            exact ih11 _ r19 h
    obtain ⟨N, h⟩ := h
    refine jg_sub [1, 2, 0] rfl ?_
    exact jl11   N _ (⟨by decide, by decide⟩ : jRng 24) h
set_option maxHeartbeats 4000000 in
set_option maxRecDepth 100000 in
theorem m_12_puts {l : Launch} {Z : jE} {n : Nat} {C : jC} {v1 : Int} {v2 : Int} {v3 : Int} {post : jC → Prop} (rv1 : jRng v1) (rv2 : jRng v2) (rv3 : jRng v3) (hw0 : jWF n C) (h : wp_12_puts v1 v2 v3 C post) : jCv l y_12_puts prog_14_method_20_code 5 q_12_puts Z n C [jr Z 345, jI v1, jI v2, jI v3] post := by
  have hn := hw0.2.2.1
  unfold wp_12_puts at h
  refine jCv_of (lv0 := [(0, jr Z 345), (1, jI v1), (2, jI v2), (3, jI v3)]) (by decide) (Nat.le_of_ble_eq_true rfl) rfl ?_
  intro p e s m args below meth c A sz X hAe hr hlocks
  refine jg_aload_n (pc := 0) X d_12_puts_0 0 rfl ?_
  refine jg_iload_n (pc := 1) X d_12_puts_1 1 rfl ?_
  refine jg_pcallVi (pc := 2) X (m_12_size rv1 hw0 h) jM_12_size kw_1609 (jl_345_12 hn) rfl rfl rfl rfl rfl (Nat.le_of_ble_eq_true rfl) d_12_puts_2 ⟨(Nat.le_of_ble_eq_true rfl), (Nat.le_of_ble_eq_true rfl)⟩ ⟨(Nat.le_of_ble_eq_true rfl), (Nat.le_of_ble_eq_true rfl)⟩ (fun x1 r3 h => ?_)
  refine jg_istore (pc := 5) X [(4, jI x1), (0, jr Z 345), (1, jI v1), (2, jI v2), (3, jI v3)] d_12_puts_5 (by decide) rfl ?_
  have jl7 : ∀  (N : Nat) (v4 : Int) (C : jC) (rv4 : jRng v4) (hw : jWF n C), jI2 (wp_12_puts_7 v1 v2 v3 post) N v4 C → jG p l e q_12_puts s m args below meth c 5 Z A (jws Z n C) 0 0 (MQ below (jQv Z n sz post) args s q_12_puts.cells q_12_puts.slots (jA Z n sz)) 7 [(0, jr Z 345), (1, jI v1), (2, jI v2), (3, jI v3), (4, jI v4)] [] := by
    intro   N
    have hn := hw0.2.2.1
    induction N with
    | zero => intro v4 C rv4 hw h; exact h.elim
    | succ N ih7 =>
      intro v4 C rv4 hw h
      have h : wp_12_puts_7 v1 v2 v3 post (jI2 (wp_12_puts_7 v1 v2 v3 post) N) v4 C := h
      generalize jI2 (wp_12_puts_7 v1 v2 v3 post) N = k7 at h ih7
      unfold wp_12_puts_7 at h
      refine jg_iload (pc := 7) X d_12_puts_7 4 rfl ?_
      refine jg_iload_n (pc := 9) X d_12_puts_9 2 rfl ?_
      refine jg_icmp_le (tgt := 39) (pc := 10) X d_12_puts_10 (by decide) rv4 rv2 h (fun c5 h => ?_) (fun c5 h => ?_)
      · refine jg_aload_n (pc := 39) X d_12_puts_39 0 rfl ?_
        refine jgf_12_1 (pc := 40) X (jl_345_12 hn) kw_1474 d_12_puts_40 ?_
        refine jg_iload_n (pc := 43) X d_12_puts_43 1 rfl ?_
        refine jg_iconst (pc := 44) X d_12_puts_44 ?_
        refine jg_iadd (pc := 45) X d_12_puts_45 ?_
        refine jg_iload_n (pc := 46) X d_12_puts_46 2 rfl ?_
        refine jg_iadd (pc := 47) X d_12_puts_47 ?_
        refine jg_iload_n (pc := 48) X d_12_puts_48 3 rfl ?_
        obtain ⟨b6, b7, h⟩ := h
        refine jg_iastore (len := 8954) (pc := 49) X d_12_puts_49 (jl_346_9954 hn) (fun _ => rfl) (by decide) b6 b7 ?_
        have w8 := jWF.u (k := ((v1 + 1) + v2)) (v := v3) hw (jl_346_9954 hn) (by decide) rv3
        refine jg_aload_n (pc := 50) X d_12_puts_50 0 rfl ?_
        refine jgf_12_1 (pc := 51) X (jl_345_12 hn) kw_1474 d_12_puts_51 ?_
        refine jg_iload_n (pc := 54) X d_12_puts_54 1 rfl ?_
        refine jg_dup2 (pc := 55) X d_12_puts_55 rfl rfl ?_
        obtain ⟨b9, b10, h⟩ := h
        refine jg_iaload (len := 8954) (pc := 56) X d_12_puts_56 (jl_346_9954 hn) (fun _ => rfl) (by decide) b9 b10 ?_
        refine jg_iconst (pc := 57) X d_12_puts_57 ?_
        refine jg_iadd (pc := 58) X d_12_puts_58 ?_
        obtain ⟨r13, h⟩ := h
        have b11 : 0 ≤ v1 := by (have z0 : jRng v1 := rv1; unfold jRng at z0; omega)
        have b12 : v1 < 8954 := by (have z0 : jRng v1 := rv1; unfold jRng at z0; omega)
        refine jg_iastore (len := 8954) (pc := 59) X d_12_puts_59 (jl_346_9954 hn) (fun _ => rfl) (by decide) b11 b12 ?_
        have w14 := jWF.u (k := v1) (v := (((jU C 346 ((v1 + 1) + v2) v3) 346 v1) + 1)) w8 (jl_346_9954 hn) (by decide) r13
        exact jg_return (pc := 60) X hAe hlocks hr d_12_puts_60 ⟨(Nat.le_of_ble_eq_true rfl), (Nat.le_of_ble_eq_true rfl)⟩ w14 h
      · refine jg_aload_n (pc := 13) X d_12_puts_13 0 rfl ?_
        refine jgf_12_1 (pc := 14) X (jl_345_12 hn) kw_1474 d_12_puts_14 ?_
        refine jg_iload_n (pc := 17) X d_12_puts_17 1 rfl ?_
        refine jg_iconst (pc := 18) X d_12_puts_18 ?_
        refine jg_iadd (pc := 19) X d_12_puts_19 ?_
        refine jg_iload (pc := 20) X d_12_puts_20 4 rfl ?_
        refine jg_iadd (pc := 22) X d_12_puts_22 ?_
        refine jg_aload_n (pc := 23) X d_12_puts_23 0 rfl ?_
        refine jgf_12_1 (pc := 24) X (jl_345_12 hn) kw_1474 d_12_puts_24 ?_
        refine jg_iload_n (pc := 27) X d_12_puts_27 1 rfl ?_
        refine jg_iload (pc := 28) X d_12_puts_28 4 rfl ?_
        refine jg_iadd (pc := 30) X d_12_puts_30 ?_
        obtain ⟨b15, b16, h⟩ := h
        refine jg_iaload (len := 8954) (pc := 31) X d_12_puts_31 (jl_346_9954 hn) (fun _ => rfl) (by decide) b15 b16 ?_
        obtain ⟨b17, b18, h⟩ := h
        refine jg_iastore (len := 8954) (pc := 32) X d_12_puts_32 (jl_346_9954 hn) (fun _ => rfl) (by decide) b17 b18 ?_
        have w19 := jWF.u (k := ((v1 + 1) + v4)) (v := (C 346 (v1 + v4))) hw (jl_346_9954 hn) (by decide) (hw.1 _ _)
        refine jg_iinc (pc := 33) X [(4, jI (v4 + (-1))), (0, jr Z 345), (1, jI v1), (2, jI v2), (3, jI v3)] d_12_puts_33 4 rfl (by decide) rfl ?_
        refine jg_goto (tgt := 7) (pc := 36) X d_12_puts_36 (by decide) ?_
        have r20 : jRng (v4 + (-1)) := by (unfold jRng; exact ⟨by (have z0 : jRng v4 := rv4; have z1 : jRng v2 := rv2; unfold jRng at z0 z1; omega), by (have z0 : jRng v4 := rv4; have z1 : jRng v2 := rv2; unfold jRng at z0 z1; omega)⟩)
        refine jg_sub [1, 2, 3, 4, 0] rfl ?_
        exact ih7 _ _ r20 w19 h
  obtain ⟨N, h⟩ := h
  refine jg_sub [1, 2, 3, 4, 0] rfl ?_
  exact jl7   N _ _ r3 hw0 h
set_option maxHeartbeats 4000000 in
set_option maxRecDepth 100000 in
theorem m_12_putsLast {l : Launch} {Z : jE} {n : Nat} {C : jC} {v1 : Int} {v2 : Int} {post : jC → Prop} (rv1 : jRng v1) (rv2 : jRng v2) (hw0 : jWF n C) (h : wp_12_putsLast v1 v2 C post) : jCv l y_12_putsLast prog_14_method_21_code 3 q_12_putsLast Z n C [jr Z 345, jI v1, jI v2] post := by
  have hn := hw0.2.2.1
  unfold wp_12_putsLast at h
  refine jCv_of (lv0 := [(0, jr Z 345), (1, jI v1), (2, jI v2)]) (by decide) (Nat.le_of_ble_eq_true rfl) rfl ?_
  intro p e s m args below meth c A sz X hAe hr hlocks
  refine jg_aload_n (pc := 0) X d_12_putsLast_0 0 rfl ?_
  refine jg_iload_n (pc := 1) X d_12_putsLast_1 1 rfl ?_
  refine jg_aload_n (pc := 2) X d_12_putsLast_2 0 rfl ?_
  refine jg_iload_n (pc := 3) X d_12_putsLast_3 1 rfl ?_
  refine jg_pcallVi (pc := 4) X (m_12_size rv1 hw0 h) jM_12_size kw_1609 (jl_345_12 hn) rfl rfl rfl rfl rfl (Nat.le_of_ble_eq_true rfl) d_12_putsLast_4 ⟨(Nat.le_of_ble_eq_true rfl), (Nat.le_of_ble_eq_true rfl)⟩ ⟨(Nat.le_of_ble_eq_true rfl), (Nat.le_of_ble_eq_true rfl)⟩ (fun x1 r3 h => ?_)
  refine jg_iload_n (pc := 7) X d_12_putsLast_7 2 rfl ?_
  refine jg_callVv (pc := 8) X (m_12_puts rv1 r3 rv2 hw0 h) jM_12_puts kw_1649 (jl_345_12 hn) rfl rfl rfl rfl rfl (Nat.le_of_ble_eq_true rfl) d_12_putsLast_8 ⟨(Nat.le_of_ble_eq_true rfl), (Nat.le_of_ble_eq_true rfl)⟩ ⟨(Nat.le_of_ble_eq_true rfl), (Nat.le_of_ble_eq_true rfl)⟩ (fun C6 w8 h => ?_)
  exact jg_return (pc := 11) X hAe hlocks hr d_12_putsLast_11 ⟨(Nat.le_of_ble_eq_true rfl), (Nat.le_of_ble_eq_true rfl)⟩ w8 h
set_option maxHeartbeats 4000000 in
set_option maxRecDepth 100000 in
theorem m_12_viewAt {l : Launch} {Z : jE} {n : Nat} {C : jC} {v0 : Int} {v1 : Int} {post : Int → Prop} (rv0 : jRng v0) (rv1 : jRng v1) (hw0 : jWF n C) (h : wp_12_viewAt v0 v1 C post) : jCi l y_12_viewAt prog_14_method_11_code 2 (.int) q_12_viewAt Z n C [jI v0, jI v1] (fun x C9 => C9 = C ∧ post x) := by
  have hn := hw0.2.2.1
  unfold wp_12_viewAt at h
  refine jCi_of (lv0 := [(0, jI v0), (1, jI v1)]) (by decide) (Nat.le_of_ble_eq_true rfl) rfl ?_
  intro p e s m args below meth c A sz X hAe hr hlocks
  refine jg_sipush (pc := 0) X d_12_viewAt_0 rfl ?_
  refine jg_sipush (pc := 3) X d_12_viewAt_3 rfl ?_
  refine jg_iload_n (pc := 6) X d_12_viewAt_6 0 rfl ?_
  refine jg_imul (pc := 7) X d_12_viewAt_7 ?_
  refine jg_iadd (pc := 8) X d_12_viewAt_8 ?_
  refine jg_iload_n (pc := 9) X d_12_viewAt_9 1 rfl ?_
  refine jg_iadd (pc := 10) X d_12_viewAt_10 ?_
  obtain ⟨r1, h⟩ := h
  exact jg_ireturn (pc := 11) X hAe hlocks hr d_12_viewAt_11 ⟨(Nat.le_of_ble_eq_true rfl), (Nat.le_of_ble_eq_true rfl)⟩ rfl r1 hw0 ⟨rfl, h⟩
set_option maxHeartbeats 4000000 in
set_option maxRecDepth 100000 in
theorem m_12_filterAt {l : Launch} {Z : jE} {n : Nat} {C : jC} {v0 : Int} {v1 : Int} {post : Int → Prop} (rv0 : jRng v0) (rv1 : jRng v1) (hw0 : jWF n C) (h : wp_12_filterAt v0 v1 C post) : jCi l y_12_filterAt prog_14_method_47_code 2 (.int) q_12_filterAt Z n C [jI v0, jI v1] (fun x C9 => C9 = C ∧ post x) := by
  have hn := hw0.2.2.1
  unfold wp_12_filterAt at h
  refine jCi_of (lv0 := [(0, jI v0), (1, jI v1)]) (by decide) (Nat.le_of_ble_eq_true rfl) rfl ?_
  intro p e s m args below meth c A sz X hAe hr hlocks
  refine jg_iload_n (pc := 0) X d_12_filterAt_0 0 rfl ?_
  refine jg_bipush (pc := 1) X d_12_filterAt_1 rfl ?_
  refine jg_bipush (pc := 3) X d_12_filterAt_3 rfl ?_
  refine jg_iload_n (pc := 5) X d_12_filterAt_5 1 rfl ?_
  refine jg_imul (pc := 6) X d_12_filterAt_6 ?_
  refine jg_iadd (pc := 7) X d_12_filterAt_7 ?_
  obtain ⟨r1, h⟩ := h
  refine jg_pcallSi (pc := 8) X (m_12_viewAt rv0 r1 hw0 h) jM_12_viewAt kw_1668 rfl rfl (Nat.le_of_ble_eq_true rfl) d_12_filterAt_8 ⟨(Nat.le_of_ble_eq_true rfl), (Nat.le_of_ble_eq_true rfl)⟩ ⟨(Nat.le_of_ble_eq_true rfl), (Nat.le_of_ble_eq_true rfl)⟩ (fun x2 r4 h => ?_)
  exact jg_ireturn (pc := 11) X hAe hlocks hr d_12_filterAt_11 ⟨(Nat.le_of_ble_eq_true rfl), (Nat.le_of_ble_eq_true rfl)⟩ rfl r4 hw0 ⟨rfl, h⟩
set_option maxHeartbeats 4000000 in
set_option maxRecDepth 100000 in
theorem m_12_cellOf {l : Launch} {Z : jE} {n : Nat} {C : jC} {v1 : Int} {v2 : Int} {post : Int → Prop} (rv1 : jRng v1) (rv2 : jRng v2) (hw0 : jWF n C) (h : wp_12_cellOf v1 v2 C post) : jCi l y_12_cellOf prog_14_method_24_code 3 (.int) q_12_cellOf Z n C [jr Z 345, jI v1, jI v2] (fun x C9 => C9 = C ∧ post x) := by
  have hn := hw0.2.2.1
  unfold wp_12_cellOf at h
  refine jCi_of (lv0 := [(0, jr Z 345), (1, jI v1), (2, jI v2)]) (by decide) (Nat.le_of_ble_eq_true rfl) rfl ?_
  intro p e s m args below meth c A sz X hAe hr hlocks
  refine jg_aload_n (pc := 0) X d_12_cellOf_0 0 rfl ?_
  refine jgf_12_1 (pc := 1) X (jl_345_12 hn) kw_1474 d_12_cellOf_1 ?_
  refine jg_aload_n (pc := 4) X d_12_cellOf_4 0 rfl ?_
  refine jg_iload_n (pc := 5) X d_12_cellOf_5 1 rfl ?_
  refine jg_pcallVi (pc := 6) X (m_12_rowOf rv1 hw0 h) jM_12_rowOf kw_1641 (jl_345_12 hn) rfl rfl rfl rfl rfl (Nat.le_of_ble_eq_true rfl) d_12_cellOf_6 ⟨(Nat.le_of_ble_eq_true rfl), (Nat.le_of_ble_eq_true rfl)⟩ ⟨(Nat.le_of_ble_eq_true rfl), (Nat.le_of_ble_eq_true rfl)⟩ (fun x1 r3 h => ?_)
  refine jg_iconst (pc := 9) X d_12_cellOf_9 ?_
  refine jg_iadd (pc := 10) X d_12_cellOf_10 ?_
  refine jg_iload_n (pc := 11) X d_12_cellOf_11 2 rfl ?_
  refine jg_iadd (pc := 12) X d_12_cellOf_12 ?_
  obtain ⟨b5, b6, h⟩ := h
  refine jg_iaload (len := 8954) (pc := 13) X d_12_cellOf_13 (jl_346_9954 hn) (fun _ => rfl) (by decide) b5 b6 ?_
  exact jg_ireturn (pc := 14) X hAe hlocks hr d_12_cellOf_14 ⟨(Nat.le_of_ble_eq_true rfl), (Nat.le_of_ble_eq_true rfl)⟩ rfl (hw0.1 _ _) hw0 ⟨rfl, h⟩
set_option maxHeartbeats 4000000 in
set_option maxRecDepth 100000 in
theorem m_12_testAt {l : Launch} {Z : jE} {n : Nat} {C : jC} {v0 : Int} {v1 : Int} {v2 : Int} {post : Int → Prop} (rv0 : jRng v0) (rv1 : jRng v1) (rv2 : jRng v2) (hw0 : jWF n C) (h : wp_12_testAt v0 v1 v2 C post) : jCi l y_12_testAt prog_14_method_48_code 3 (.int) q_12_testAt Z n C [jI v0, jI v1, jI v2] (fun x C9 => C9 = C ∧ post x) := by
  have hn := hw0.2.2.1
  unfold wp_12_testAt at h
  refine jCi_of (lv0 := [(0, jI v0), (1, jI v1), (2, jI v2)]) (by decide) (Nat.le_of_ble_eq_true rfl) rfl ?_
  intro p e s m args below meth c A sz X hAe hr hlocks
  refine jg_iload_n (pc := 0) X d_12_testAt_0 0 rfl ?_
  refine jg_iload_n (pc := 1) X d_12_testAt_1 1 rfl ?_
  refine jg_pcallSi (pc := 2) X (m_12_filterAt rv0 rv1 hw0 h) jM_12_filterAt kw_1665 rfl rfl (Nat.le_of_ble_eq_true rfl) d_12_testAt_2 ⟨(Nat.le_of_ble_eq_true rfl), (Nat.le_of_ble_eq_true rfl)⟩ ⟨(Nat.le_of_ble_eq_true rfl), (Nat.le_of_ble_eq_true rfl)⟩ (fun x1 r3 h => ?_)
  refine jg_iconst (pc := 5) X d_12_testAt_5 ?_
  refine jg_iadd (pc := 6) X d_12_testAt_6 ?_
  refine jg_iconst (pc := 7) X d_12_testAt_7 ?_
  refine jg_iload_n (pc := 8) X d_12_testAt_8 2 rfl ?_
  refine jg_imul (pc := 9) X d_12_testAt_9 ?_
  refine jg_iadd (pc := 10) X d_12_testAt_10 ?_
  obtain ⟨r5, h⟩ := h
  exact jg_ireturn (pc := 11) X hAe hlocks hr d_12_testAt_11 ⟨(Nat.le_of_ble_eq_true rfl), (Nat.le_of_ble_eq_true rfl)⟩ rfl r5 hw0 ⟨rfl, h⟩
set_option maxHeartbeats 4000000 in
set_option maxRecDepth 100000 in
theorem m_12_isPattern {l : Launch} {Z : jE} {n : Nat} {C : jC} {v1 : Int} {v2 : Int} {post : Int → Prop} (rv1 : jRng v1) (rv2 : jRng v2) (hw0 : jWF n C) (h : wp_12_isPattern v1 v2 C post) : jCi l y_12_isPattern prog_14_method_58_code 11 (.boolean) q_12_isPattern Z n C [jr Z 345, jI v1, jI v2] (fun x C9 => C9 = C ∧ post x) := by
  have hn := hw0.2.2.1
  unfold wp_12_isPattern at h
  refine jCi_of (lv0 := [(0, jr Z 345), (1, jI v1), (2, jI v2)]) (by decide) (Nat.le_of_ble_eq_true rfl) rfl ?_
  intro p e s m args below meth c A sz X hAe hr hlocks
  refine jg_iload_n (pc := 0) X d_12_isPattern_0 1 rfl ?_
  refine jg_ldk (pc := 1) (-1000000) X kw_1617 (by decide) d_12_isPattern_1 ?_
  refine jg_icmp_ne (tgt := 8) (pc := 3) X d_12_isPattern_3 (by decide) rv1 (⟨by decide, by decide⟩ : jRng (-1000000)) h (fun c1 h => ?_) (fun c1 h => ?_)
  · refine jg_iconst (pc := 6) X d_12_isPattern_6 ?_
    exact jg_ireturn (pc := 7) X hAe hlocks hr d_12_isPattern_7 ⟨(Nat.le_of_ble_eq_true rfl), (Nat.le_of_ble_eq_true rfl)⟩ rfl (⟨by decide, by decide⟩ : jRng 0) hw0 ⟨rfl, h⟩
  · refine jg_aload_n (pc := 8) X d_12_isPattern_8 0 rfl ?_
    refine jgf_12_1 (pc := 9) X (jl_345_12 hn) kw_1474 d_12_isPattern_9 ?_
    refine jg_iload_n (pc := 12) X d_12_isPattern_12 2 rfl ?_
    refine jg_iconst (pc := 13) X d_12_isPattern_13 ?_
    refine jg_iadd (pc := 14) X d_12_isPattern_14 ?_
    obtain ⟨b2, b3, h⟩ := h
    refine jg_iaload (len := 8954) (pc := 15) X d_12_isPattern_15 (jl_346_9954 hn) (fun _ => rfl) (by decide) b2 b3 ?_
    refine jg_istore_n (pc := 16) X [(3, jI (C 346 (v2 + 3))), (0, jr Z 345), (1, jI v1), (2, jI v2)] d_12_isPattern_16 (by decide) rfl ?_
    refine jg_aload_n (pc := 17) X d_12_isPattern_17 1 rfl ?_
    refine jgf_12_1 (pc := 18) X (jl_345_12 hn) kw_1474 d_12_isPattern_18 ?_
    refine jg_iload_n (pc := 21) X d_12_isPattern_21 3 rfl ?_
    refine jg_iconst (pc := 22) X d_12_isPattern_22 ?_
    refine jg_iadd (pc := 23) X d_12_isPattern_23 ?_
    obtain ⟨b4, b5, h⟩ := h
    refine jg_iaload (len := 8954) (pc := 24) X d_12_isPattern_24 (jl_346_9954 hn) (fun _ => rfl) (by decide) b4 b5 ?_
    refine jg_istore (pc := 25) X [(4, jI (C 346 (v2 + 2))), (3, jI (C 346 (v2 + 3))), (0, jr Z 345), (1, jI v1), (2, jI v2)] d_12_isPattern_25 (by decide) rfl ?_
    refine jg_iconst (pc := 27) X d_12_isPattern_27 ?_
    refine jg_istore (pc := 28) X [(5, jI 1), (4, jI (C 346 (v2 + 2))), (3, jI (C 346 (v2 + 3))), (0, jr Z 345), (1, jI v1), (2, jI v2)] d_12_isPattern_28 (by decide) rfl ?_
    refine jg_iload_n (pc := 30) X d_12_isPattern_30 4 rfl ?_
    refine jg_istore (pc := 31) X [(6, jI v1), (5, jI 1), (4, jI (C 346 (v2 + 2))), (3, jI (C 346 (v2 + 3))), (0, jr Z 345), (1, jI v1), (2, jI v2)] d_12_isPattern_31 (by decide) rfl ?_
    refine jg_iconst (pc := 33) X d_12_isPattern_33 ?_
    refine jg_istore (pc := 34) X [(7, jI 0), (6, jI v1), (5, jI 1), (4, jI (C 346 (v2 + 2))), (3, jI (C 346 (v2 + 3))), (0, jr Z 345), (1, jI v1), (2, jI v2)] d_12_isPattern_34 (by decide) rfl ?_
    refine jg_iconst (pc := 36) X d_12_isPattern_36 ?_
    refine jg_istore (pc := 37) X [(8, jI 3), (7, jI 0), (6, jI v1), (5, jI 1), (4, jI (C 346 (v2 + 2))), (3, jI (C 346 (v2 + 3))), (0, jr Z 345), (1, jI v1), (2, jI v2)] d_12_isPattern_37 (by decide) rfl ?_
    have hw : jWF n C := hw0
    have jl39 : ∀ (v3 : Int) (rv3 : jRng v3) (N : Nat) (v4 : Int) (v5 : Int) (v6 : Int) (v7 : Int) (v8 : Int) (rv4 : jRng v4) (rv5 : jRng v5) (rv6 : jRng v6) (rv7 : jRng v7) (rv8 : jRng v8), jI5 (wp_12_isPattern_39 v2 v3 C post) N v4 v5 v6 v7 v8 → jG p l e q_12_isPattern s m args below meth c 11 Z A (jws Z n C) 0 0 (MQ below (jQi Z n sz (fun x C9 => C9 = C ∧ post x)) args s q_12_isPattern.cells q_12_isPattern.slots (jA Z n sz)) 39 [(0, jr Z 345), (2, jI v2), (3, jI v3), (4, jI v4), (5, jI v5), (6, jI v6), (7, jI v7), (8, jI v8)] [] := by
      intro v3 rv3 N
      have hn := hw0.2.2.1
      induction N with
      | zero => intro v4 v5 v6 v7 v8 rv4 rv5 rv6 rv7 rv8 h; exact h.elim
      | succ N ih39 =>
        intro v4 v5 v6 v7 v8 rv4 rv5 rv6 rv7 rv8 h
        have h : wp_12_isPattern_39 v2 v3 C post (jI5 (wp_12_isPattern_39 v2 v3 C post) N) v4 v5 v6 v7 v8 := h
        generalize jI5 (wp_12_isPattern_39 v2 v3 C post) N = k39 at h ih39
        unfold wp_12_isPattern_39 at h
        have jb70 : ∀ (s0 : Int) (s1 : Int) (v4 : Int) (v5 : Int) (v6 : Int) (v8 : Int) (v9 : Int) (rs0 : jRng s0) (rs1 : jRng s1) (rv4 : jRng v4) (rv5 : jRng v5) (rv6 : jRng v6) (rv8 : jRng v8) (rv9 : jRng v9), wp_12_isPattern_70 s0 s1 v2 v3 v4 v5 v6 v8 v9 C post k39 → jG p l e q_12_isPattern s m args below meth c 11 Z A (jws Z n C) 0 0 (MQ below (jQi Z n sz (fun x C9 => C9 = C ∧ post x)) args s q_12_isPattern.cells q_12_isPattern.slots (jA Z n sz)) 70 [(0, jr Z 345), (2, jI v2), (3, jI v3), (4, jI v4), (5, jI v5), (6, jI v6), (8, jI v8), (9, jI v9)] [jI s0, jI s1] := by
          intro s0 s1 v4 v5 v6 v8 v9 rs0 rs1 rv4 rv5 rv6 rv8 rv9 h
          unfold wp_12_isPattern_70 at h
          refine jg_iadd (pc := 70) X d_12_isPattern_70 ?_
          refine jg_istore (pc := 71) X [(7, jI (s1 + s0)), (0, jr Z 345), (2, jI v2), (3, jI v3), (4, jI v4), (5, jI v5), (6, jI v6), (8, jI v8), (9, jI v9)] d_12_isPattern_71 (by decide) rfl ?_
          refine jg_iload (pc := 73) X d_12_isPattern_73 7 rfl ?_
          refine jg_iload_n (pc := 75) X d_12_isPattern_75 3 rfl ?_
          refine jg_icmp_lt (tgt := 82) (pc := 76) X d_12_isPattern_76 (by decide) rv8 rv3 h (fun c6 h => ?_) (fun c6 h => ?_)
          · refine jg_iload (pc := 82) X d_12_isPattern_82 4 rfl ?_
            refine jg_bipush (pc := 84) X d_12_isPattern_84 rfl ?_
            have r7 : jRng (v4.tmod 32) := jrng_tmod rv4 (by decide) (by decide)
            refine jg_irem (pc := 86) X d_12_isPattern_86 rv4 (by decide) (by decide) ?_
            refine jg_istore (pc := 87) X [(10, jI (v4.tmod 32)), (7, jI (s1 + s0)), (0, jr Z 345), (2, jI v2), (3, jI v3), (4, jI v4), (5, jI v5), (6, jI v6), (8, jI v8), (9, jI v9)] d_12_isPattern_87 (by decide) rfl ?_
            refine jg_iload (pc := 89) X d_12_isPattern_89 5 rfl ?_
            refine jg_bipush (pc := 91) X d_12_isPattern_91 rfl ?_
            have r8 : jRng (v4.tdiv 32) := jrng_tdiv rv4 (by decide) (by decide)
            refine jg_idiv (pc := 93) X d_12_isPattern_93 rv4 (by decide) (by decide) ?_
            refine jg_istore (pc := 94) X [(4, jI (v4.tdiv 32)), (10, jI (v4.tmod 32)), (7, jI (s1 + s0)), (0, jr Z 345), (2, jI v2), (3, jI v3), (5, jI v5), (6, jI v6), (8, jI v8), (9, jI v9)] d_12_isPattern_94 (by decide) rfl ?_
            refine jg_iload (pc := 96) X d_12_isPattern_96 6 rfl ?_
            refine jg_if_eq (tgt := 124) (pc := 98) X d_12_isPattern_98 (by decide) rv5 h (fun c9 h => ?_) (fun c9 h => ?_)
            · refine jg_iconst (pc := 124) X d_12_isPattern_124 ?_
              refine jg_istore (pc := 125) X [(5, jI 0), (4, jI (v4.tdiv 32)), (10, jI (v4.tmod 32)), (7, jI (s1 + s0)), (0, jr Z 345), (2, jI v2), (3, jI v3), (6, jI v6), (8, jI v8), (9, jI v9)] d_12_isPattern_125 (by decide) rfl ?_
              refine jg_iinc (pc := 127) X [(8, jI (v8 + (-1))), (5, jI 0), (4, jI (v4.tdiv 32)), (10, jI (v4.tmod 32)), (7, jI (s1 + s0)), (0, jr Z 345), (2, jI v2), (3, jI v3), (6, jI v6), (9, jI v9)] d_12_isPattern_127 8 rfl (by decide) rfl ?_
              refine jg_goto (tgt := 39) (pc := 130) X d_12_isPattern_130 (by decide) ?_
              obtain ⟨r10, r11, h⟩ := h
              refine jg_sub [5, 6, 7, 2, 1, 8, 4, 0] rfl ?_
              exact ih39 _ _ _ _ _ r8 (⟨by decide, by decide⟩ : jRng 0) rv6 r10 r11 h
            · refine jg_iload (pc := 101) X d_12_isPattern_101 9 rfl ?_
              refine jg_if_le (tgt := 124) (pc := 103) X d_12_isPattern_103 (by decide) rv9 h (fun c12 h => ?_) (fun c12 h => ?_)
              · refine jg_iconst (pc := 124) X d_12_isPattern_124 ?_
                refine jg_istore (pc := 125) X [(5, jI 0), (4, jI (v4.tdiv 32)), (10, jI (v4.tmod 32)), (7, jI (s1 + s0)), (0, jr Z 345), (2, jI v2), (3, jI v3), (6, jI v6), (8, jI v8), (9, jI v9)] d_12_isPattern_125 (by decide) rfl ?_
                refine jg_iinc (pc := 127) X [(8, jI (v8 + (-1))), (5, jI 0), (4, jI (v4.tdiv 32)), (10, jI (v4.tmod 32)), (7, jI (s1 + s0)), (0, jr Z 345), (2, jI v2), (3, jI v3), (6, jI v6), (9, jI v9)] d_12_isPattern_127 8 rfl (by decide) rfl ?_
                refine jg_goto (tgt := 39) (pc := 130) X d_12_isPattern_130 (by decide) ?_
                obtain ⟨r13, r14, h⟩ := h
                refine jg_sub [5, 6, 7, 2, 1, 8, 4, 0] rfl ?_
                exact ih39 _ _ _ _ _ r8 (⟨by decide, by decide⟩ : jRng 0) rv6 r13 r14 h
              · refine jg_iload (pc := 106) X d_12_isPattern_106 1 rfl ?_
                refine jg_bipush (pc := 108) X d_12_isPattern_108 rfl ?_
                refine jg_icmp_eq (tgt := 120) (pc := 110) X d_12_isPattern_110 (by decide) r7 (⟨by decide, by decide⟩ : jRng 27) h (fun c15 h => ?_) (fun c15 h => ?_)
                · refine jg_iconst (pc := 120) X d_12_isPattern_120 ?_
                  refine jg_goto (tgt := 125) (pc := 121) X d_12_isPattern_121 (by decide) ?_
                  refine jg_istore (pc := 125) X [(5, jI 1), (4, jI (v4.tdiv 32)), (10, jI (v4.tmod 32)), (7, jI (s1 + s0)), (0, jr Z 345), (2, jI v2), (3, jI v3), (6, jI v6), (8, jI v8), (9, jI v9)] d_12_isPattern_125 (by decide) rfl ?_
                  refine jg_iinc (pc := 127) X [(8, jI (v8 + (-1))), (5, jI 1), (4, jI (v4.tdiv 32)), (10, jI (v4.tmod 32)), (7, jI (s1 + s0)), (0, jr Z 345), (2, jI v2), (3, jI v3), (6, jI v6), (9, jI v9)] d_12_isPattern_127 8 rfl (by decide) rfl ?_
                  refine jg_goto (tgt := 39) (pc := 130) X d_12_isPattern_130 (by decide) ?_
                  obtain ⟨r16, r17, h⟩ := h
                  refine jg_sub [5, 6, 7, 2, 1, 8, 4, 0] rfl ?_
                  exact ih39 _ _ _ _ _ r8 (⟨by decide, by decide⟩ : jRng 1) rv6 r16 r17 h
                · refine jg_iload (pc := 113) X d_12_isPattern_113 1 rfl ?_
                  refine jg_iload (pc := 115) X d_12_isPattern_115 9 rfl ?_
                  refine jg_icmp_ne (tgt := 124) (pc := 117) X d_12_isPattern_117 (by decide) r7 rv9 h (fun c18 h => ?_) (fun c18 h => ?_)
                  · refine jg_iconst (pc := 120) X d_12_isPattern_120 ?_
                    refine jg_goto (tgt := 125) (pc := 121) X d_12_isPattern_121 (by decide) ?_
                    refine jg_istore (pc := 125) X [(5, jI 1), (4, jI (v4.tdiv 32)), (10, jI (v4.tmod 32)), (7, jI (s1 + s0)), (0, jr Z 345), (2, jI v2), (3, jI v3), (6, jI v6), (8, jI v8), (9, jI v9)] d_12_isPattern_125 (by decide) rfl ?_
                    refine jg_iinc (pc := 127) X [(8, jI (v8 + (-1))), (5, jI 1), (4, jI (v4.tdiv 32)), (10, jI (v4.tmod 32)), (7, jI (s1 + s0)), (0, jr Z 345), (2, jI v2), (3, jI v3), (6, jI v6), (9, jI v9)] d_12_isPattern_127 8 rfl (by decide) rfl ?_
                    refine jg_goto (tgt := 39) (pc := 130) X d_12_isPattern_130 (by decide) ?_
                    obtain ⟨r19, r20, h⟩ := h
                    refine jg_sub [5, 6, 7, 2, 1, 8, 4, 0] rfl ?_
                    exact ih39 _ _ _ _ _ r8 (⟨by decide, by decide⟩ : jRng 1) rv6 r19 r20 h
                  · refine jg_iconst (pc := 124) X d_12_isPattern_124 ?_
                    refine jg_istore (pc := 125) X [(5, jI 0), (4, jI (v4.tdiv 32)), (10, jI (v4.tmod 32)), (7, jI (s1 + s0)), (0, jr Z 345), (2, jI v2), (3, jI v3), (6, jI v6), (8, jI v8), (9, jI v9)] d_12_isPattern_125 (by decide) rfl ?_
                    refine jg_iinc (pc := 127) X [(8, jI (v8 + (-1))), (5, jI 0), (4, jI (v4.tdiv 32)), (10, jI (v4.tmod 32)), (7, jI (s1 + s0)), (0, jr Z 345), (2, jI v2), (3, jI v3), (6, jI v6), (9, jI v9)] d_12_isPattern_127 8 rfl (by decide) rfl ?_
                    refine jg_goto (tgt := 39) (pc := 130) X d_12_isPattern_130 (by decide) ?_
                    obtain ⟨r21, r22, h⟩ := h
                    refine jg_sub [5, 6, 7, 2, 1, 8, 4, 0] rfl ?_
                    exact ih39 _ _ _ _ _ r8 (⟨by decide, by decide⟩ : jRng 0) rv6 r21 r22 h
          · refine jg_goto (tgt := 127) (pc := 79) X d_12_isPattern_79 (by decide) ?_
            refine jg_iinc (pc := 127) X [(8, jI (v8 + (-1))), (7, jI (s1 + s0)), (0, jr Z 345), (2, jI v2), (3, jI v3), (4, jI v4), (5, jI v5), (6, jI v6), (9, jI v9)] d_12_isPattern_127 7 rfl (by decide) rfl ?_
            refine jg_goto (tgt := 39) (pc := 130) X d_12_isPattern_130 (by decide) ?_
            obtain ⟨r23, r24, h⟩ := h
            refine jg_sub [2, 3, 4, 5, 6, 7, 1, 0] rfl ?_
            exact ih39 _ _ _ _ _ rv4 rv5 rv6 r23 r24 h
        refine jg_iload (pc := 39) X d_12_isPattern_39 7 rfl ?_
        refine jg_if_lt (tgt := 133) (pc := 41) X d_12_isPattern_41 (by decide) rv8 h (fun c25 h => ?_) (fun c25 h => ?_)
        · refine jg_iload (pc := 133) X d_12_isPattern_133 4 rfl ?_
          refine jg_if_eq (tgt := 160) (pc := 135) X d_12_isPattern_135 (by decide) rv5 h (fun c26 h => ?_) (fun c26 h => ?_)
          · refine jg_iconst (pc := 160) X d_12_isPattern_160 ?_
            exact jg_ireturn (pc := 161) X hAe hlocks hr d_12_isPattern_161 ⟨(Nat.le_of_ble_eq_true rfl), (Nat.le_of_ble_eq_true rfl)⟩ rfl (⟨by decide, by decide⟩ : jRng 0) hw ⟨rfl, h⟩
          · refine jg_iload (pc := 138) X d_12_isPattern_138 6 rfl ?_
            refine jg_iload_n (pc := 140) X d_12_isPattern_140 2 rfl ?_
            refine jg_icmp_eq (tgt := 156) (pc := 141) X d_12_isPattern_141 (by decide) rv7 rv3 h (fun c27 h => ?_) (fun c27 h => ?_)
            · refine jg_iconst (pc := 156) X d_12_isPattern_156 ?_
              refine jg_goto (tgt := 161) (pc := 157) X d_12_isPattern_157 (by decide) ?_
              exact jg_ireturn (pc := 161) X hAe hlocks hr d_12_isPattern_161 ⟨(Nat.le_of_ble_eq_true rfl), (Nat.le_of_ble_eq_true rfl)⟩ rfl (⟨by decide, by decide⟩ : jRng 1) hw ⟨rfl, h⟩
            · refine jg_aload_n (pc := 144) X d_12_isPattern_144 0 rfl ?_
              refine jgf_12_1 (pc := 145) X (jl_345_12 hn) kw_1474 d_12_isPattern_145 ?_
              refine jg_iload_n (pc := 148) X d_12_isPattern_148 1 rfl ?_
              refine jg_iconst (pc := 149) X d_12_isPattern_149 ?_
              refine jg_iadd (pc := 150) X d_12_isPattern_150 ?_
              obtain ⟨b28, b29, h⟩ := h
              refine jg_iaload (len := 8954) (pc := 151) X d_12_isPattern_151 (jl_346_9954 hn) (fun _ => rfl) (by decide) b28 b29 ?_
              refine jg_iconst (pc := 152) X d_12_isPattern_152 ?_
              refine jg_icmp_ne (tgt := 160) (pc := 153) X d_12_isPattern_153 (by decide) (hw.1 _ _) (⟨by decide, by decide⟩ : jRng 1) h (fun c30 h => ?_) (fun c30 h => ?_)
              · have c30 : (C 346 (v2 + 4)) = 1 := c30
                refine jg_iconst (pc := 156) X d_12_isPattern_156 ?_
                refine jg_goto (tgt := 161) (pc := 157) X d_12_isPattern_157 (by decide) ?_
                exact jg_ireturn (pc := 161) X hAe hlocks hr d_12_isPattern_161 ⟨(Nat.le_of_ble_eq_true rfl), (Nat.le_of_ble_eq_true rfl)⟩ rfl (⟨by decide, by decide⟩ : jRng 1) hw ⟨rfl, h⟩
              · have c30 : ¬ ((C 346 (v2 + 4)) = 1) := c30
                refine jg_iconst (pc := 160) X d_12_isPattern_160 ?_
                exact jg_ireturn (pc := 161) X hAe hlocks hr d_12_isPattern_161 ⟨(Nat.le_of_ble_eq_true rfl), (Nat.le_of_ble_eq_true rfl)⟩ rfl (⟨by decide, by decide⟩ : jRng 0) hw ⟨rfl, h⟩
        · refine jg_iload (pc := 44) X d_12_isPattern_44 5 rfl ?_
          refine jg_bipush (pc := 46) X d_12_isPattern_46 rfl ?_
          have r31 : jRng (v6.tmod 27) := jrng_tmod rv6 (by decide) (by decide)
          refine jg_irem (pc := 48) X d_12_isPattern_48 rv6 (by decide) (by decide) ?_
          refine jg_istore (pc := 49) X [(9, jI (v6.tmod 27)), (0, jr Z 345), (2, jI v2), (3, jI v3), (4, jI v4), (5, jI v5), (6, jI v6), (7, jI v7), (8, jI v8)] d_12_isPattern_49 (by decide) rfl ?_
          refine jg_iload (pc := 51) X d_12_isPattern_51 6 rfl ?_
          refine jg_bipush (pc := 53) X d_12_isPattern_53 rfl ?_
          have r32 : jRng (v6.tdiv 27) := jrng_tdiv rv6 (by decide) (by decide)
          refine jg_idiv (pc := 55) X d_12_isPattern_55 rv6 (by decide) (by decide) ?_
          refine jg_istore (pc := 56) X [(6, jI (v6.tdiv 27)), (9, jI (v6.tmod 27)), (0, jr Z 345), (2, jI v2), (3, jI v3), (4, jI v4), (5, jI v5), (7, jI v7), (8, jI v8)] d_12_isPattern_56 (by decide) rfl ?_
          refine jg_iload (pc := 58) X d_12_isPattern_58 7 rfl ?_
          refine jg_iload (pc := 60) X d_12_isPattern_60 1 rfl ?_
          refine jg_if_le (tgt := 69) (pc := 62) X d_12_isPattern_62 (by decide) r31 h (fun c33 h => ?_) (fun c33 h => ?_)
          · refine jg_iconst (pc := 69) X d_12_isPattern_69 ?_
            refine jg_sub [2, 3, 4, 5, 6, 0, 8, 1] rfl ?_
            exact jb70 _ _ _ _ _ _ _ (⟨by decide, by decide⟩ : jRng 0) rv7 rv4 rv5 r32 rv8 r31 h
          · refine jg_iconst (pc := 65) X d_12_isPattern_65 ?_
            refine jg_goto (tgt := 70) (pc := 66) X d_12_isPattern_66 (by decide) ?_
            refine jg_sub [2, 3, 4, 5, 6, 0, 8, 1] rfl ?_
            exact jb70 _ _ _ _ _ _ _ (⟨by decide, by decide⟩ : jRng 1) rv7 rv4 rv5 r32 rv8 r31 h
    obtain ⟨N, h⟩ := h
    refine jg_sub [6, 8, 5, 4, 3, 2, 1, 0] rfl ?_
    exact jl39 _ (hw0.1 _ _) N _ _ _ _ _ (hw0.1 _ _) (⟨by decide, by decide⟩ : jRng 1) rv1 (⟨by decide, by decide⟩ : jRng 0) (⟨by decide, by decide⟩ : jRng 3) h
set_option maxHeartbeats 4000000 in
set_option maxRecDepth 100000 in
theorem m_12_isAsTest {l : Launch} {Z : jE} {n : Nat} {C : jC} {v1 : Int} {v2 : Int} {post : Int → Prop} (rv1 : jRng v1) (rv2 : jRng v2) (hw0 : jWF n C) (h : wp_12_isAsTest v1 v2 C post) : jCi l y_12_isAsTest prog_14_method_59_code 5 (.boolean) q_12_isAsTest Z n C [jr Z 345, jI v1, jI v2] (fun x C9 => C9 = C ∧ post x) := by
  have hn := hw0.2.2.1
  unfold wp_12_isAsTest at h
  refine jCi_of (lv0 := [(0, jr Z 345), (1, jI v1), (2, jI v2)]) (by decide) (Nat.le_of_ble_eq_true rfl) rfl ?_
  intro p e s m args below meth c A sz X hAe hr hlocks
  have jb75 : ∀ (s0 : Int) (v2 : Int) (rs0 : jRng s0) (rv2 : jRng v2), wp_12_isAsTest_75 s0 v2 C post → jG p l e q_12_isAsTest s m args below meth c 5 Z A (jws Z n C) 0 0 (MQ below (jQi Z n sz (fun x C9 => C9 = C ∧ post x)) args s q_12_isAsTest.cells q_12_isAsTest.slots (jA Z n sz)) 75 [(0, jr Z 345), (2, jI v2)] [jI s0] := by
    intro s0 v2 rs0 rv2 h
    unfold wp_12_isAsTest_75 at h
    refine jg_istore (pc := 75) X [(4, jI s0), (0, jr Z 345), (2, jI v2)] d_12_isAsTest_75 (by decide) rfl ?_
    refine jg_iload (pc := 77) X d_12_isAsTest_77 0 rfl ?_
    refine jg_aload_n (pc := 79) X d_12_isAsTest_79 1 rfl ?_
    refine jgf_12_1 (pc := 80) X (jl_345_12 hn) kw_1474 d_12_isAsTest_80 ?_
    refine jg_iload_n (pc := 83) X d_12_isAsTest_83 2 rfl ?_
    refine jg_iconst (pc := 84) X d_12_isAsTest_84 ?_
    refine jg_iadd (pc := 85) X d_12_isAsTest_85 ?_
    obtain ⟨b1, b2, h⟩ := h
    refine jg_iaload (len := 8954) (pc := 86) X d_12_isAsTest_86 (jl_346_9954 hn) (fun _ => rfl) (by decide) b1 b2 ?_
    refine jg_iconst (pc := 87) X d_12_isAsTest_87 ?_
    refine jg_icmp_ne (tgt := 95) (pc := 88) X d_12_isAsTest_88 (by decide) (hw0.1 _ _) (⟨by decide, by decide⟩ : jRng 1) h (fun c3 h => ?_) (fun c3 h => ?_)
    · have c3 : (C 346 (v2 + 0)) = 1 := c3
      refine jg_iconst (pc := 91) X d_12_isAsTest_91 ?_
      refine jg_goto (tgt := 96) (pc := 92) X d_12_isAsTest_92 (by decide) ?_
      refine jg_icmp_eq (tgt := 103) (pc := 96) X d_12_isAsTest_96 (by decide) rs0 (⟨by decide, by decide⟩ : jRng 1) h (fun c4 h => ?_) (fun c4 h => ?_)
      · refine jg_iconst (pc := 103) X d_12_isAsTest_103 ?_
        exact jg_ireturn (pc := 104) X hAe hlocks hr d_12_isAsTest_104 ⟨(Nat.le_of_ble_eq_true rfl), (Nat.le_of_ble_eq_true rfl)⟩ rfl (⟨by decide, by decide⟩ : jRng 0) hw0 ⟨rfl, h⟩
      · refine jg_iconst (pc := 99) X d_12_isAsTest_99 ?_
        refine jg_goto (tgt := 104) (pc := 100) X d_12_isAsTest_100 (by decide) ?_
        exact jg_ireturn (pc := 104) X hAe hlocks hr d_12_isAsTest_104 ⟨(Nat.le_of_ble_eq_true rfl), (Nat.le_of_ble_eq_true rfl)⟩ rfl (⟨by decide, by decide⟩ : jRng 1) hw0 ⟨rfl, h⟩
    · have c3 : ¬ ((C 346 (v2 + 0)) = 1) := c3
      refine jg_iconst (pc := 95) X d_12_isAsTest_95 ?_
      refine jg_icmp_eq (tgt := 103) (pc := 96) X d_12_isAsTest_96 (by decide) rs0 (⟨by decide, by decide⟩ : jRng 0) h (fun c5 h => ?_) (fun c5 h => ?_)
      · refine jg_iconst (pc := 103) X d_12_isAsTest_103 ?_
        exact jg_ireturn (pc := 104) X hAe hlocks hr d_12_isAsTest_104 ⟨(Nat.le_of_ble_eq_true rfl), (Nat.le_of_ble_eq_true rfl)⟩ rfl (⟨by decide, by decide⟩ : jRng 0) hw0 ⟨rfl, h⟩
      · refine jg_iconst (pc := 99) X d_12_isAsTest_99 ?_
        refine jg_goto (tgt := 104) (pc := 100) X d_12_isAsTest_100 (by decide) ?_
        exact jg_ireturn (pc := 104) X hAe hlocks hr d_12_isAsTest_104 ⟨(Nat.le_of_ble_eq_true rfl), (Nat.le_of_ble_eq_true rfl)⟩ rfl (⟨by decide, by decide⟩ : jRng 1) hw0 ⟨rfl, h⟩
  refine jg_aload_n (pc := 0) X d_12_isAsTest_0 0 rfl ?_
  refine jgf_12_1 (pc := 1) X (jl_345_12 hn) kw_1474 d_12_isAsTest_1 ?_
  refine jg_iload_n (pc := 4) X d_12_isAsTest_4 2 rfl ?_
  refine jg_iconst (pc := 5) X d_12_isAsTest_5 ?_
  refine jg_iadd (pc := 6) X d_12_isAsTest_6 ?_
  obtain ⟨b6, b7, h⟩ := h
  refine jg_iaload (len := 8954) (pc := 7) X d_12_isAsTest_7 (jl_346_9954 hn) (fun _ => rfl) (by decide) b6 b7 ?_
  refine jg_istore_n (pc := 8) X [(3, jI (C 346 (v2 + 1))), (0, jr Z 345), (1, jI v1), (2, jI v2)] d_12_isAsTest_8 (by decide) rfl ?_
  refine jg_iload_n (pc := 9) X d_12_isAsTest_9 0 rfl ?_
  refine jg_if_ne (tgt := 27) (pc := 10) X d_12_isAsTest_10 (by decide) (hw0.1 _ _) h (fun c8 h => ?_) (fun c8 h => ?_)
  · have c8 : (C 346 (v2 + 1)) = 0 := c8
    refine jg_iload_n (pc := 13) X d_12_isAsTest_13 2 rfl ?_
    refine jg_ldk (pc := 14) (-1000000) X kw_1617 (by decide) d_12_isAsTest_14 ?_
    refine jg_icmp_ne (tgt := 23) (pc := 16) X d_12_isAsTest_16 (by decide) rv1 (⟨by decide, by decide⟩ : jRng (-1000000)) h (fun c9 h => ?_) (fun c9 h => ?_)
    · refine jg_iconst (pc := 19) X d_12_isAsTest_19 ?_
      refine jg_goto (tgt := 75) (pc := 20) X d_12_isAsTest_20 (by decide) ?_
      refine jg_sub [1, 3] rfl ?_
      exact jb75 _ _ (⟨by decide, by decide⟩ : jRng 1) rv2 h
    · refine jg_iconst (pc := 23) X d_12_isAsTest_23 ?_
      refine jg_goto (tgt := 75) (pc := 24) X d_12_isAsTest_24 (by decide) ?_
      refine jg_sub [1, 3] rfl ?_
      exact jb75 _ _ (⟨by decide, by decide⟩ : jRng 0) rv2 h
  · have c8 : ¬ ((C 346 (v2 + 1)) = 0) := c8
    refine jg_iload_n (pc := 27) X d_12_isAsTest_27 0 rfl ?_
    refine jg_iconst (pc := 28) X d_12_isAsTest_28 ?_
    refine jg_icmp_ne (tgt := 69) (pc := 29) X d_12_isAsTest_29 (by decide) (hw0.1 _ _) (⟨by decide, by decide⟩ : jRng 1) h (fun c10 h => ?_) (fun c10 h => ?_)
    · have c10 : (C 346 (v2 + 1)) = 1 := c10
      refine jg_iload_n (pc := 32) X d_12_isAsTest_32 2 rfl ?_
      refine jg_ldk (pc := 33) (-1000000) X kw_1617 (by decide) d_12_isAsTest_33 ?_
      refine jg_icmp_eq (tgt := 65) (pc := 35) X d_12_isAsTest_35 (by decide) rv1 (⟨by decide, by decide⟩ : jRng (-1000000)) h (fun c11 h => ?_) (fun c11 h => ?_)
      · refine jg_iconst (pc := 65) X d_12_isAsTest_65 ?_
        refine jg_goto (tgt := 75) (pc := 66) X d_12_isAsTest_66 (by decide) ?_
        refine jg_sub [1, 3] rfl ?_
        exact jb75 _ _ (⟨by decide, by decide⟩ : jRng 0) rv2 h
      · refine jg_iload_n (pc := 38) X d_12_isAsTest_38 2 rfl ?_
        refine jg_aload_n (pc := 39) X d_12_isAsTest_39 1 rfl ?_
        refine jgf_12_1 (pc := 40) X (jl_345_12 hn) kw_1474 d_12_isAsTest_40 ?_
        refine jg_iload_n (pc := 43) X d_12_isAsTest_43 3 rfl ?_
        refine jg_iconst (pc := 44) X d_12_isAsTest_44 ?_
        refine jg_iadd (pc := 45) X d_12_isAsTest_45 ?_
        obtain ⟨b12, b13, h⟩ := h
        refine jg_iaload (len := 8954) (pc := 46) X d_12_isAsTest_46 (jl_346_9954 hn) (fun _ => rfl) (by decide) b12 b13 ?_
        refine jg_aload_n (pc := 47) X d_12_isAsTest_47 1 rfl ?_
        refine jgf_12_1 (pc := 48) X (jl_345_12 hn) kw_1474 d_12_isAsTest_48 ?_
        refine jg_iload_n (pc := 51) X d_12_isAsTest_51 3 rfl ?_
        refine jg_iconst (pc := 52) X d_12_isAsTest_52 ?_
        refine jg_iadd (pc := 53) X d_12_isAsTest_53 ?_
        obtain ⟨b14, b15, h⟩ := h
        refine jg_iaload (len := 8954) (pc := 54) X d_12_isAsTest_54 (jl_346_9954 hn) (fun _ => rfl) (by decide) b14 b15 ?_
        refine jg_pcallSi (pc := 55) X (m_12_in rv1 (hw0.1 _ _) (hw0.1 _ _) hw0 h) jM_12_in kw_1638 rfl rfl (Nat.le_of_ble_eq_true rfl) d_12_isAsTest_55 ⟨(Nat.le_of_ble_eq_true rfl), (Nat.le_of_ble_eq_true rfl)⟩ ⟨(Nat.le_of_ble_eq_true rfl), (Nat.le_of_ble_eq_true rfl)⟩ (fun x16 r18 h => ?_)
        refine jg_if_eq (tgt := 65) (pc := 58) X d_12_isAsTest_58 (by decide) r18 h (fun c20 h => ?_) (fun c20 h => ?_)
        · refine jg_iconst (pc := 65) X d_12_isAsTest_65 ?_
          refine jg_goto (tgt := 75) (pc := 66) X d_12_isAsTest_66 (by decide) ?_
          refine jg_sub [1, 3] rfl ?_
          exact jb75 _ _ (⟨by decide, by decide⟩ : jRng 0) rv2 h
        · refine jg_iconst (pc := 61) X d_12_isAsTest_61 ?_
          refine jg_goto (tgt := 75) (pc := 62) X d_12_isAsTest_62 (by decide) ?_
          refine jg_sub [1, 3] rfl ?_
          exact jb75 _ _ (⟨by decide, by decide⟩ : jRng 1) rv2 h
    · have c10 : ¬ ((C 346 (v2 + 1)) = 1) := c10
      refine jg_aload_n (pc := 69) X d_12_isAsTest_69 1 rfl ?_
      refine jg_iload_n (pc := 70) X d_12_isAsTest_70 2 rfl ?_
      refine jg_iload_n (pc := 71) X d_12_isAsTest_71 3 rfl ?_
      refine jg_pcallVi (pc := 72) X (m_12_isPattern rv1 rv2 hw0 h) jM_12_isPattern kw_1682 (jl_345_12 hn) rfl rfl rfl rfl rfl (Nat.le_of_ble_eq_true rfl) d_12_isAsTest_72 ⟨(Nat.le_of_ble_eq_true rfl), (Nat.le_of_ble_eq_true rfl)⟩ ⟨(Nat.le_of_ble_eq_true rfl), (Nat.le_of_ble_eq_true rfl)⟩ (fun x21 r23 h => ?_)
      refine jg_sub [1, 3] rfl ?_
      exact jb75 _ _ r23 rv2 h
set_option maxHeartbeats 4000000 in
set_option maxRecDepth 100000 in
theorem m_12_isAsFilter {l : Launch} {Z : jE} {n : Nat} {C : jC} {v1 : Int} {v2 : Int} {v3 : Int} {post : Int → Prop} (rv1 : jRng v1) (rv2 : jRng v2) (rv3 : jRng v3) (hw0 : jWF n C) (h : wp_12_isAsFilter v1 v2 v3 C post) : jCi l y_12_isAsFilter prog_14_method_60_code 7 (.boolean) q_12_isAsFilter Z n C [jr Z 345, jI v1, jI v2, jI v3] (fun x C9 => C9 = C ∧ post x) := by
  have hn := hw0.2.2.1
  unfold wp_12_isAsFilter at h
  refine jCi_of (lv0 := [(0, jr Z 345), (1, jI v1), (2, jI v2), (3, jI v3)]) (by decide) (Nat.le_of_ble_eq_true rfl) rfl ?_
  intro p e s m args below meth c A sz X hAe hr hlocks
  refine jg_aload_n (pc := 0) X d_12_isAsFilter_0 0 rfl ?_
  refine jgf_12_1 (pc := 1) X (jl_345_12 hn) kw_1474 d_12_isAsFilter_1 ?_
  refine jg_iload_n (pc := 4) X d_12_isAsFilter_4 1 rfl ?_
  refine jg_iload_n (pc := 5) X d_12_isAsFilter_5 3 rfl ?_
  refine jg_pcallSi (pc := 6) X (m_12_filterAt rv1 rv3 hw0 h) jM_12_filterAt kw_1665 rfl rfl (Nat.le_of_ble_eq_true rfl) d_12_isAsFilter_6 ⟨(Nat.le_of_ble_eq_true rfl), (Nat.le_of_ble_eq_true rfl)⟩ ⟨(Nat.le_of_ble_eq_true rfl), (Nat.le_of_ble_eq_true rfl)⟩ (fun x1 r3 h => ?_)
  obtain ⟨b5, b6, h⟩ := h
  refine jg_iaload (len := 8954) (pc := 9) X d_12_isAsFilter_9 (jl_346_9954 hn) (fun _ => rfl) (by decide) b5 b6 ?_
  refine jg_istore (pc := 10) X [(4, jI (C 346 x1)), (0, jr Z 345), (1, jI v1), (2, jI v2), (3, jI v3)] d_12_isAsFilter_10 (by decide) rfl ?_
  refine jg_iload (pc := 12) X d_12_isAsFilter_12 0 rfl ?_
  refine jg_if_ne (tgt := 21) (pc := 14) X d_12_isAsFilter_14 (by decide) (hw0.1 _ _) h (fun c7 h => ?_) (fun c7 h => ?_)
  · have c7 : (C 346 x1) = 0 := c7
    refine jg_iconst (pc := 17) X d_12_isAsFilter_17 ?_
    refine jg_goto (tgt := 22) (pc := 18) X d_12_isAsFilter_18 (by decide) ?_
    refine jg_istore (pc := 22) X [(5, jI 1), (4, jI (C 346 x1)), (0, jr Z 345), (1, jI v1), (2, jI v2), (3, jI v3)] d_12_isAsFilter_22 (by decide) rfl ?_
    refine jg_iconst (pc := 24) X d_12_isAsFilter_24 ?_
    refine jg_istore (pc := 25) X [(6, jI 0), (5, jI 1), (4, jI (C 346 x1)), (0, jr Z 345), (1, jI v1), (2, jI v2), (3, jI v3)] d_12_isAsFilter_25 (by decide) rfl ?_
    have hw : jWF n C := hw0
    have jl27 : ∀ (v4 : Int) (rv4 : jRng v4) (N : Nat) (v5 : Int) (v6 : Int) (rv5 : jRng v5) (rv6 : jRng v6), jI2 (wp_12_isAsFilter_27 v1 v2 v3 v4 C post) N v5 v6 → jG p l e q_12_isAsFilter s m args below meth c 7 Z A (jws Z n C) 0 0 (MQ below (jQi Z n sz (fun x C9 => C9 = C ∧ post x)) args s q_12_isAsFilter.cells q_12_isAsFilter.slots (jA Z n sz)) 27 [(0, jr Z 345), (1, jI v1), (2, jI v2), (3, jI v3), (4, jI v4), (5, jI v5), (6, jI v6)] [] := by
      intro v4 rv4 N
      have hn := hw0.2.2.1
      induction N with
      | zero => intro v5 v6 rv5 rv6 h; exact h.elim
      | succ N ih27 =>
        intro v5 v6 rv5 rv6 h
        have h : wp_12_isAsFilter_27 v1 v2 v3 v4 C post (jI2 (wp_12_isAsFilter_27 v1 v2 v3 v4 C post) N) v5 v6 := h
        generalize jI2 (wp_12_isAsFilter_27 v1 v2 v3 v4 C post) N = k27 at h ih27
        unfold wp_12_isAsFilter_27 at h
        refine jg_iload (pc := 27) X d_12_isAsFilter_27 6 rfl ?_
        refine jg_iload (pc := 29) X d_12_isAsFilter_29 4 rfl ?_
        refine jg_icmp_ge (tgt := 64) (pc := 31) X d_12_isAsFilter_31 (by decide) rv6 rv4 h (fun c8 h => ?_) (fun c8 h => ?_)
        · refine jg_iload (pc := 64) X d_12_isAsFilter_64 5 rfl ?_
          obtain ⟨b9, h⟩ := h
          exact jg_ireturn (pc := 66) X hAe hlocks hr d_12_isAsFilter_66 ⟨(Nat.le_of_ble_eq_true rfl), (Nat.le_of_ble_eq_true rfl)⟩ (jnar_b b9) rv5 hw ⟨rfl, h⟩
        · refine jg_iload (pc := 34) X d_12_isAsFilter_34 5 rfl ?_
          refine jg_if_ne (tgt := 64) (pc := 36) X d_12_isAsFilter_36 (by decide) rv5 h (fun c10 h => ?_) (fun c10 h => ?_)
          · refine jg_aload_n (pc := 39) X d_12_isAsFilter_39 0 rfl ?_
            refine jg_aload_n (pc := 40) X d_12_isAsFilter_40 0 rfl ?_
            refine jg_iload_n (pc := 41) X d_12_isAsFilter_41 2 rfl ?_
            refine jg_iload_n (pc := 42) X d_12_isAsFilter_42 3 rfl ?_
            refine jg_pcallVi (pc := 43) X (m_12_cellOf rv2 rv3 hw h) jM_12_cellOf kw_1671 (jl_345_12 hn) rfl rfl rfl rfl rfl (Nat.le_of_ble_eq_true rfl) d_12_isAsFilter_43 ⟨(Nat.le_of_ble_eq_true rfl), (Nat.le_of_ble_eq_true rfl)⟩ ⟨(Nat.le_of_ble_eq_true rfl), (Nat.le_of_ble_eq_true rfl)⟩ (fun x11 r13 h => ?_)
            refine jg_iload_n (pc := 46) X d_12_isAsFilter_46 1 rfl ?_
            refine jg_iload_n (pc := 47) X d_12_isAsFilter_47 3 rfl ?_
            refine jg_iload (pc := 48) X d_12_isAsFilter_48 6 rfl ?_
            refine jg_pcallSi (pc := 50) X (m_12_testAt rv1 rv3 rv6 hw h) jM_12_testAt kw_1675 rfl rfl (Nat.le_of_ble_eq_true rfl) d_12_isAsFilter_50 ⟨(Nat.le_of_ble_eq_true rfl), (Nat.le_of_ble_eq_true rfl)⟩ ⟨(Nat.le_of_ble_eq_true rfl), (Nat.le_of_ble_eq_true rfl)⟩ (fun x15 r17 h => ?_)
            refine jg_pcallVi (pc := 53) X (m_12_isAsTest r13 r17 hw h) jM_12_isAsTest kw_1678 (jl_345_12 hn) rfl rfl rfl rfl rfl (Nat.le_of_ble_eq_true rfl) d_12_isAsFilter_53 ⟨(Nat.le_of_ble_eq_true rfl), (Nat.le_of_ble_eq_true rfl)⟩ ⟨(Nat.le_of_ble_eq_true rfl), (Nat.le_of_ble_eq_true rfl)⟩ (fun x19 r21 h => ?_)
            refine jg_istore (pc := 56) X [(5, jI x19), (0, jr Z 345), (1, jI v1), (2, jI v2), (3, jI v3), (4, jI v4), (6, jI v6)] d_12_isAsFilter_56 (by decide) rfl ?_
            refine jg_iinc (pc := 58) X [(6, jI (v6 + 1)), (5, jI x19), (0, jr Z 345), (1, jI v1), (2, jI v2), (3, jI v3), (4, jI v4)] d_12_isAsFilter_58 6 rfl (by decide) rfl ?_
            refine jg_goto (tgt := 27) (pc := 61) X d_12_isAsFilter_61 (by decide) ?_
            have r23 : jRng (v6 + 1) := by (unfold jRng; exact ⟨by (have z0 : jRng v6 := rv6; have z1 : jRng v4 := rv4; unfold jRng at z0 z1; omega), by (have z0 : jRng v6 := rv6; have z1 : jRng v4 := rv4; unfold jRng at z0 z1; omega)⟩)
            refine jg_sub [2, 3, 4, 5, 6, 1, 0] rfl ?_
            exact ih27 _ _ r21 r23 h
          · refine jg_iload (pc := 64) X d_12_isAsFilter_64 5 rfl ?_
            obtain ⟨b24, h⟩ := h
            exact jg_ireturn (pc := 66) X hAe hlocks hr d_12_isAsFilter_66 ⟨(Nat.le_of_ble_eq_true rfl), (Nat.le_of_ble_eq_true rfl)⟩ (jnar_b b24) rv5 hw ⟨rfl, h⟩
    obtain ⟨N, h⟩ := h
    refine jg_sub [3, 4, 5, 6, 2, 1, 0] rfl ?_
    exact jl27 _ (hw0.1 _ _) N _ _ (⟨by decide, by decide⟩ : jRng 1) (⟨by decide, by decide⟩ : jRng 0) h
  · have c7 : ¬ ((C 346 x1) = 0) := c7
    refine jg_iconst (pc := 21) X d_12_isAsFilter_21 ?_
    refine jg_istore (pc := 22) X [(5, jI 0), (4, jI (C 346 x1)), (0, jr Z 345), (1, jI v1), (2, jI v2), (3, jI v3)] d_12_isAsFilter_22 (by decide) rfl ?_
    refine jg_iconst (pc := 24) X d_12_isAsFilter_24 ?_
    refine jg_istore (pc := 25) X [(6, jI 0), (5, jI 0), (4, jI (C 346 x1)), (0, jr Z 345), (1, jI v1), (2, jI v2), (3, jI v3)] d_12_isAsFilter_25 (by decide) rfl ?_
    have hw : jWF n C := hw0
    have jl27 : ∀ (v4 : Int) (rv4 : jRng v4) (N : Nat) (v5 : Int) (v6 : Int) (rv5 : jRng v5) (rv6 : jRng v6), jI2 (wp_12_isAsFilter_27 v1 v2 v3 v4 C post) N v5 v6 → jG p l e q_12_isAsFilter s m args below meth c 7 Z A (jws Z n C) 0 0 (MQ below (jQi Z n sz (fun x C9 => C9 = C ∧ post x)) args s q_12_isAsFilter.cells q_12_isAsFilter.slots (jA Z n sz)) 27 [(0, jr Z 345), (1, jI v1), (2, jI v2), (3, jI v3), (4, jI v4), (5, jI v5), (6, jI v6)] [] := by
      intro v4 rv4 N
      have hn := hw0.2.2.1
      induction N with
      | zero => intro v5 v6 rv5 rv6 h; exact h.elim
      | succ N ih27 =>
        intro v5 v6 rv5 rv6 h
        have h : wp_12_isAsFilter_27 v1 v2 v3 v4 C post (jI2 (wp_12_isAsFilter_27 v1 v2 v3 v4 C post) N) v5 v6 := h
        generalize jI2 (wp_12_isAsFilter_27 v1 v2 v3 v4 C post) N = k27 at h ih27
        unfold wp_12_isAsFilter_27 at h
        refine jg_iload (pc := 27) X d_12_isAsFilter_27 6 rfl ?_
        refine jg_iload (pc := 29) X d_12_isAsFilter_29 4 rfl ?_
        refine jg_icmp_ge (tgt := 64) (pc := 31) X d_12_isAsFilter_31 (by decide) rv6 rv4 h (fun c25 h => ?_) (fun c25 h => ?_)
        · refine jg_iload (pc := 64) X d_12_isAsFilter_64 5 rfl ?_
          obtain ⟨b26, h⟩ := h
          exact jg_ireturn (pc := 66) X hAe hlocks hr d_12_isAsFilter_66 ⟨(Nat.le_of_ble_eq_true rfl), (Nat.le_of_ble_eq_true rfl)⟩ (jnar_b b26) rv5 hw ⟨rfl, h⟩
        · refine jg_iload (pc := 34) X d_12_isAsFilter_34 5 rfl ?_
          refine jg_if_ne (tgt := 64) (pc := 36) X d_12_isAsFilter_36 (by decide) rv5 h (fun c27 h => ?_) (fun c27 h => ?_)
          · refine jg_aload_n (pc := 39) X d_12_isAsFilter_39 0 rfl ?_
            refine jg_aload_n (pc := 40) X d_12_isAsFilter_40 0 rfl ?_
            refine jg_iload_n (pc := 41) X d_12_isAsFilter_41 2 rfl ?_
            refine jg_iload_n (pc := 42) X d_12_isAsFilter_42 3 rfl ?_
            refine jg_pcallVi (pc := 43) X (m_12_cellOf rv2 rv3 hw h) jM_12_cellOf kw_1671 (jl_345_12 hn) rfl rfl rfl rfl rfl (Nat.le_of_ble_eq_true rfl) d_12_isAsFilter_43 ⟨(Nat.le_of_ble_eq_true rfl), (Nat.le_of_ble_eq_true rfl)⟩ ⟨(Nat.le_of_ble_eq_true rfl), (Nat.le_of_ble_eq_true rfl)⟩ (fun x28 r30 h => ?_)
            refine jg_iload_n (pc := 46) X d_12_isAsFilter_46 1 rfl ?_
            refine jg_iload_n (pc := 47) X d_12_isAsFilter_47 3 rfl ?_
            refine jg_iload (pc := 48) X d_12_isAsFilter_48 6 rfl ?_
            refine jg_pcallSi (pc := 50) X (m_12_testAt rv1 rv3 rv6 hw h) jM_12_testAt kw_1675 rfl rfl (Nat.le_of_ble_eq_true rfl) d_12_isAsFilter_50 ⟨(Nat.le_of_ble_eq_true rfl), (Nat.le_of_ble_eq_true rfl)⟩ ⟨(Nat.le_of_ble_eq_true rfl), (Nat.le_of_ble_eq_true rfl)⟩ (fun x32 r34 h => ?_)
            refine jg_pcallVi (pc := 53) X (m_12_isAsTest r30 r34 hw h) jM_12_isAsTest kw_1678 (jl_345_12 hn) rfl rfl rfl rfl rfl (Nat.le_of_ble_eq_true rfl) d_12_isAsFilter_53 ⟨(Nat.le_of_ble_eq_true rfl), (Nat.le_of_ble_eq_true rfl)⟩ ⟨(Nat.le_of_ble_eq_true rfl), (Nat.le_of_ble_eq_true rfl)⟩ (fun x36 r38 h => ?_)
            refine jg_istore (pc := 56) X [(5, jI x36), (0, jr Z 345), (1, jI v1), (2, jI v2), (3, jI v3), (4, jI v4), (6, jI v6)] d_12_isAsFilter_56 (by decide) rfl ?_
            refine jg_iinc (pc := 58) X [(6, jI (v6 + 1)), (5, jI x36), (0, jr Z 345), (1, jI v1), (2, jI v2), (3, jI v3), (4, jI v4)] d_12_isAsFilter_58 6 rfl (by decide) rfl ?_
            refine jg_goto (tgt := 27) (pc := 61) X d_12_isAsFilter_61 (by decide) ?_
            have r40 : jRng (v6 + 1) := by (unfold jRng; exact ⟨by (have z0 : jRng v6 := rv6; have z1 : jRng v4 := rv4; unfold jRng at z0 z1; omega), by (have z0 : jRng v6 := rv6; have z1 : jRng v4 := rv4; unfold jRng at z0 z1; omega)⟩)
            refine jg_sub [2, 3, 4, 5, 6, 1, 0] rfl ?_
            exact ih27 _ _ r38 r40 h
          · refine jg_iload (pc := 64) X d_12_isAsFilter_64 5 rfl ?_
            obtain ⟨b41, h⟩ := h
            exact jg_ireturn (pc := 66) X hAe hlocks hr d_12_isAsFilter_66 ⟨(Nat.le_of_ble_eq_true rfl), (Nat.le_of_ble_eq_true rfl)⟩ (jnar_b b41) rv5 hw ⟨rfl, h⟩
    obtain ⟨N, h⟩ := h
    refine jg_sub [3, 4, 5, 6, 2, 1, 0] rfl ?_
    exact jl27 _ (hw0.1 _ _) N _ _ (⟨by decide, by decide⟩ : jRng 0) (⟨by decide, by decide⟩ : jRng 0) h
set_option maxHeartbeats 4000000 in
set_option maxRecDepth 100000 in
theorem m_12_whyNot {l : Launch} {Z : jE} {n : Nat} {C : jC} {v1 : Int} {v2 : Int} {post : Int → Prop} (rv1 : jRng v1) (rv2 : jRng v2) (hw0 : jWF n C) (h : wp_12_whyNot v1 v2 C post) : jCi l y_12_whyNot prog_14_method_61_code 4 (.int) q_12_whyNot Z n C [jr Z 345, jI v1, jI v2] (fun x C9 => C9 = C ∧ post x) := by
  have hn := hw0.2.2.1
  unfold wp_12_whyNot at h
  refine jCi_of (lv0 := [(0, jr Z 345), (1, jI v1), (2, jI v2)]) (by decide) (Nat.le_of_ble_eq_true rfl) rfl ?_
  intro p e s m args below meth c A sz X hAe hr hlocks
  refine jg_iconst (pc := 0) X d_12_whyNot_0 ?_
  refine jg_istore_n (pc := 1) X [(3, jI 0), (0, jr Z 345), (1, jI v1), (2, jI v2)] d_12_whyNot_1 (by decide) rfl ?_
  have hw : jWF n C := hw0
  have jl2 : ∀  (N : Nat) (v3 : Int) (rv3 : jRng v3), jI1 (wp_12_whyNot_2 v1 v2 C post) N v3 → jG p l e q_12_whyNot s m args below meth c 4 Z A (jws Z n C) 0 0 (MQ below (jQi Z n sz (fun x C9 => C9 = C ∧ post x)) args s q_12_whyNot.cells q_12_whyNot.slots (jA Z n sz)) 2 [(0, jr Z 345), (1, jI v1), (2, jI v2), (3, jI v3)] [] := by
    intro   N
    have hn := hw0.2.2.1
    induction N with
    | zero => intro v3 rv3 h; exact h.elim
    | succ N ih2 =>
      intro v3 rv3 h
      have h : wp_12_whyNot_2 v1 v2 C post (jI1 (wp_12_whyNot_2 v1 v2 C post) N) v3 := h
      generalize jI1 (wp_12_whyNot_2 v1 v2 C post) N = k2 at h ih2
      unfold wp_12_whyNot_2 at h
      refine jg_iload_n (pc := 2) X d_12_whyNot_2 3 rfl ?_
      refine jg_aload_n (pc := 3) X d_12_whyNot_3 0 rfl ?_
      refine jg_pcallVi (pc := 4) X (m_12_columns hw h) jM_12_columns kw_1590 (jl_345_12 hn) rfl rfl rfl rfl rfl (Nat.le_of_ble_eq_true rfl) d_12_whyNot_4 ⟨(Nat.le_of_ble_eq_true rfl), (Nat.le_of_ble_eq_true rfl)⟩ ⟨(Nat.le_of_ble_eq_true rfl), (Nat.le_of_ble_eq_true rfl)⟩ (fun x1 r3 h => ?_)
      refine jg_icmp_ge (tgt := 26) (pc := 7) X d_12_whyNot_7 (by decide) rv3 r3 h (fun c5 h => ?_) (fun c5 h => ?_)
      · refine jg_iload_n (pc := 26) X d_12_whyNot_26 3 rfl ?_
        refine jg_aload_n (pc := 27) X d_12_whyNot_27 0 rfl ?_
        refine jg_pcallVi (pc := 28) X (m_12_columns hw h) jM_12_columns kw_1590 (jl_345_12 hn) rfl rfl rfl rfl rfl (Nat.le_of_ble_eq_true rfl) d_12_whyNot_28 ⟨(Nat.le_of_ble_eq_true rfl), (Nat.le_of_ble_eq_true rfl)⟩ ⟨(Nat.le_of_ble_eq_true rfl), (Nat.le_of_ble_eq_true rfl)⟩ (fun x6 r8 h => ?_)
        refine jg_icmp_ge (tgt := 38) (pc := 31) X d_12_whyNot_31 (by decide) rv3 r8 h (fun c10 h => ?_) (fun c10 h => ?_)
        · refine jg_iconst (pc := 38) X d_12_whyNot_38 ?_
          exact jg_ireturn (pc := 39) X hAe hlocks hr d_12_whyNot_39 ⟨(Nat.le_of_ble_eq_true rfl), (Nat.le_of_ble_eq_true rfl)⟩ rfl (⟨by decide, by decide⟩ : jRng (-1)) hw ⟨rfl, h⟩
        · refine jg_iload_n (pc := 34) X d_12_whyNot_34 3 rfl ?_
          refine jg_goto (tgt := 39) (pc := 35) X d_12_whyNot_35 (by decide) ?_
          exact jg_ireturn (pc := 39) X hAe hlocks hr d_12_whyNot_39 ⟨(Nat.le_of_ble_eq_true rfl), (Nat.le_of_ble_eq_true rfl)⟩ rfl rv3 hw ⟨rfl, h⟩
      · refine jg_aload_n (pc := 10) X d_12_whyNot_10 0 rfl ?_
        refine jg_iload_n (pc := 11) X d_12_whyNot_11 1 rfl ?_
        refine jg_iload_n (pc := 12) X d_12_whyNot_12 2 rfl ?_
        refine jg_iload_n (pc := 13) X d_12_whyNot_13 3 rfl ?_
        refine jg_pcallVi (pc := 14) X (m_12_isAsFilter rv1 rv2 rv3 hw h) jM_12_isAsFilter kw_1661 (jl_345_12 hn) rfl rfl rfl rfl rfl (Nat.le_of_ble_eq_true rfl) d_12_whyNot_14 ⟨(Nat.le_of_ble_eq_true rfl), (Nat.le_of_ble_eq_true rfl)⟩ ⟨(Nat.le_of_ble_eq_true rfl), (Nat.le_of_ble_eq_true rfl)⟩ (fun x11 r13 h => ?_)
        refine jg_if_eq (tgt := 26) (pc := 17) X d_12_whyNot_17 (by decide) r13 h (fun c15 h => ?_) (fun c15 h => ?_)
        · refine jg_iload_n (pc := 26) X d_12_whyNot_26 3 rfl ?_
          refine jg_aload_n (pc := 27) X d_12_whyNot_27 0 rfl ?_
          refine jg_pcallVi (pc := 28) X (m_12_columns hw h) jM_12_columns kw_1590 (jl_345_12 hn) rfl rfl rfl rfl rfl (Nat.le_of_ble_eq_true rfl) d_12_whyNot_28 ⟨(Nat.le_of_ble_eq_true rfl), (Nat.le_of_ble_eq_true rfl)⟩ ⟨(Nat.le_of_ble_eq_true rfl), (Nat.le_of_ble_eq_true rfl)⟩ (fun x16 r18 h => ?_)
          refine jg_icmp_ge (tgt := 38) (pc := 31) X d_12_whyNot_31 (by decide) rv3 r18 h (fun c20 h => ?_) (fun c20 h => ?_)
          · refine jg_iconst (pc := 38) X d_12_whyNot_38 ?_
            exact jg_ireturn (pc := 39) X hAe hlocks hr d_12_whyNot_39 ⟨(Nat.le_of_ble_eq_true rfl), (Nat.le_of_ble_eq_true rfl)⟩ rfl (⟨by decide, by decide⟩ : jRng (-1)) hw ⟨rfl, h⟩
          · refine jg_iload_n (pc := 34) X d_12_whyNot_34 3 rfl ?_
            refine jg_goto (tgt := 39) (pc := 35) X d_12_whyNot_35 (by decide) ?_
            exact jg_ireturn (pc := 39) X hAe hlocks hr d_12_whyNot_39 ⟨(Nat.le_of_ble_eq_true rfl), (Nat.le_of_ble_eq_true rfl)⟩ rfl rv3 hw ⟨rfl, h⟩
        · refine jg_iinc (pc := 20) X [(3, jI (v3 + 1)), (0, jr Z 345), (1, jI v1), (2, jI v2)] d_12_whyNot_20 3 rfl (by decide) rfl ?_
          refine jg_goto (tgt := 2) (pc := 23) X d_12_whyNot_23 (by decide) ?_
          have r21 : jRng (v3 + 1) := by (unfold jRng; exact ⟨by (have z0 : jRng v3 := rv3; have z1 : jRng x1 := r3; unfold jRng at z0 z1; omega), by (have z0 : jRng v3 := rv3; have z1 : jRng x1 := r3; unfold jRng at z0 z1; omega)⟩)
          refine jg_sub [1, 2, 3, 0] rfl ?_
          exact ih2 _ r21 h
  obtain ⟨N, h⟩ := h
  refine jg_sub [1, 2, 3, 0] rfl ?_
  exact jl2   N _ (⟨by decide, by decide⟩ : jRng 0) h
set_option maxHeartbeats 4000000 in
set_option maxRecDepth 100000 in
theorem m_12_isFit {l : Launch} {Z : jE} {n : Nat} {C : jC} {v1 : Int} {v2 : Int} {post : Int → Prop} (rv1 : jRng v1) (rv2 : jRng v2) (hw0 : jWF n C) (h : wp_12_isFit v1 v2 C post) : jCi l y_12_isFit prog_14_method_62_code 3 (.boolean) q_12_isFit Z n C [jr Z 345, jI v1, jI v2] (fun x C9 => C9 = C ∧ post x) := by
  have hn := hw0.2.2.1
  unfold wp_12_isFit at h
  refine jCi_of (lv0 := [(0, jr Z 345), (1, jI v1), (2, jI v2)]) (by decide) (Nat.le_of_ble_eq_true rfl) rfl ?_
  intro p e s m args below meth c A sz X hAe hr hlocks
  refine jg_aload_n (pc := 0) X d_12_isFit_0 0 rfl ?_
  refine jg_iload_n (pc := 1) X d_12_isFit_1 1 rfl ?_
  refine jg_iload_n (pc := 2) X d_12_isFit_2 2 rfl ?_
  refine jg_pcallVi (pc := 3) X (m_12_whyNot rv1 rv2 hw0 h) jM_12_whyNot kw_1657 (jl_345_12 hn) rfl rfl rfl rfl rfl (Nat.le_of_ble_eq_true rfl) d_12_isFit_3 ⟨(Nat.le_of_ble_eq_true rfl), (Nat.le_of_ble_eq_true rfl)⟩ ⟨(Nat.le_of_ble_eq_true rfl), (Nat.le_of_ble_eq_true rfl)⟩ (fun x1 r3 h => ?_)
  refine jg_iconst (pc := 6) X d_12_isFit_6 ?_
  refine jg_icmp_ne (tgt := 14) (pc := 7) X d_12_isFit_7 (by decide) r3 (⟨by decide, by decide⟩ : jRng (-1)) h (fun c5 h => ?_) (fun c5 h => ?_)
  · refine jg_iconst (pc := 10) X d_12_isFit_10 ?_
    refine jg_goto (tgt := 15) (pc := 11) X d_12_isFit_11 (by decide) ?_
    exact jg_ireturn (pc := 15) X hAe hlocks hr d_12_isFit_15 ⟨(Nat.le_of_ble_eq_true rfl), (Nat.le_of_ble_eq_true rfl)⟩ rfl (⟨by decide, by decide⟩ : jRng 1) hw0 ⟨rfl, h⟩
  · refine jg_iconst (pc := 14) X d_12_isFit_14 ?_
    exact jg_ireturn (pc := 15) X hAe hlocks hr d_12_isFit_15 ⟨(Nat.le_of_ble_eq_true rfl), (Nat.le_of_ble_eq_true rfl)⟩ rfl (⟨by decide, by decide⟩ : jRng 0) hw0 ⟨rfl, h⟩
set_option maxHeartbeats 4000000 in
set_option maxRecDepth 100000 in
theorem m_12_listOf {l : Launch} {Z : jE} {n : Nat} {C : jC} {v0 : Int} {post : Int → Prop} (rv0 : jRng v0) (hw0 : jWF n C) (h : wp_12_listOf v0 C post) : jCi l y_12_listOf prog_14_method_12_code 1 (.int) q_12_listOf Z n C [jI v0] (fun x C9 => C9 = C ∧ post x) := by
  have hn := hw0.2.2.1
  unfold wp_12_listOf at h
  refine jCi_of (lv0 := [(0, jI v0)]) (by decide) (Nat.le_of_ble_eq_true rfl) rfl ?_
  intro p e s m args below meth c A sz X hAe hr hlocks
  refine jg_iload_n (pc := 0) X d_12_listOf_0 0 rfl ?_
  refine jg_iconst (pc := 1) X d_12_listOf_1 ?_
  refine jg_pcallSi (pc := 2) X (m_12_viewAt rv0 (⟨by decide, by decide⟩ : jRng 0) hw0 h) jM_12_viewAt kw_1668 rfl rfl (Nat.le_of_ble_eq_true rfl) d_12_listOf_2 ⟨(Nat.le_of_ble_eq_true rfl), (Nat.le_of_ble_eq_true rfl)⟩ ⟨(Nat.le_of_ble_eq_true rfl), (Nat.le_of_ble_eq_true rfl)⟩ (fun x1 r3 h => ?_)
  exact jg_ireturn (pc := 5) X hAe hlocks hr d_12_listOf_5 ⟨(Nat.le_of_ble_eq_true rfl), (Nat.le_of_ble_eq_true rfl)⟩ rfl r3 hw0 ⟨rfl, h⟩
set_option maxHeartbeats 4000000 in
set_option maxRecDepth 100000 in
theorem m_12_readRow {l : Launch} {Z : jE} {n : Nat} {C : jC}  {post : Int → jC → Prop}  (hw0 : jWF n C) (h : wp_12_readRow C post) : jCi l y_12_readRow prog_14_method_43_code 3 (.boolean) q_12_readRow Z n C [jr Z 345] post := by
  have hn := hw0.2.2.1
  unfold wp_12_readRow at h
  refine jCi_of (lv0 := [(0, jr Z 345)]) (by decide) (Nat.le_of_ble_eq_true rfl) rfl ?_
  intro p e s m args below meth c A sz X hAe hr hlocks
  refine jg_aload_n (pc := 0) X d_12_readRow_0 0 rfl ?_
  refine jg_pcallVi (pc := 1) X (m_12_columns hw0 h) jM_12_columns kw_1590 (jl_345_12 hn) rfl rfl rfl rfl rfl (Nat.le_of_ble_eq_true rfl) d_12_readRow_1 ⟨(Nat.le_of_ble_eq_true rfl), (Nat.le_of_ble_eq_true rfl)⟩ ⟨(Nat.le_of_ble_eq_true rfl), (Nat.le_of_ble_eq_true rfl)⟩ (fun x1 r3 h => ?_)
  refine jg_if_eq (tgt := 16) (pc := 4) X d_12_readRow_4 (by decide) r3 h (fun c5 h => ?_) (fun c5 h => ?_)
  · refine jg_iconst (pc := 16) X d_12_readRow_16 ?_
    exact jg_ireturn (pc := 17) X hAe hlocks hr d_12_readRow_17 ⟨(Nat.le_of_ble_eq_true rfl), (Nat.le_of_ble_eq_true rfl)⟩ rfl (⟨by decide, by decide⟩ : jRng 0) hw0 h
  · refine jg_aload_n (pc := 7) X d_12_readRow_7 0 rfl ?_
    refine jg_pcallVi (pc := 8) X (m_12_rows hw0 h) jM_12_rows kw_1605 (jl_345_12 hn) rfl rfl rfl rfl rfl (Nat.le_of_ble_eq_true rfl) d_12_readRow_8 ⟨(Nat.le_of_ble_eq_true rfl), (Nat.le_of_ble_eq_true rfl)⟩ ⟨(Nat.le_of_ble_eq_true rfl), (Nat.le_of_ble_eq_true rfl)⟩ (fun x6 r8 h => ?_)
    refine jg_bipush (pc := 11) X d_12_readRow_11 rfl ?_
    refine jg_icmp_ne (tgt := 18) (pc := 13) X d_12_readRow_13 (by decide) r8 (⟨by decide, by decide⟩ : jRng 24) h (fun c10 h => ?_) (fun c10 h => ?_)
    · refine jg_iconst (pc := 16) X d_12_readRow_16 ?_
      exact jg_ireturn (pc := 17) X hAe hlocks hr d_12_readRow_17 ⟨(Nat.le_of_ble_eq_true rfl), (Nat.le_of_ble_eq_true rfl)⟩ rfl (⟨by decide, by decide⟩ : jRng 0) hw0 h
    · refine jg_aload_n (pc := 18) X d_12_readRow_18 0 rfl ?_
      refine jg_callVi (pc := 19) X (m_12_comes hw0 h) jM_12_comes kw_1613 (jl_345_12 hn) rfl rfl rfl rfl rfl (Nat.le_of_ble_eq_true rfl) d_12_readRow_19 ⟨(Nat.le_of_ble_eq_true rfl), (Nat.le_of_ble_eq_true rfl)⟩ ⟨(Nat.le_of_ble_eq_true rfl), (Nat.le_of_ble_eq_true rfl)⟩ (fun x11 C12 r13 w14 h => ?_)
      refine jg_istore_n (pc := 22) X [(1, jI x11), (0, jr Z 345)] d_12_readRow_22 (by decide) rfl ?_
      refine jg_iconst (pc := 23) X d_12_readRow_23 ?_
      refine jg_istore_n (pc := 24) X [(2, jI 0), (1, jI x11), (0, jr Z 345)] d_12_readRow_24 (by decide) rfl ?_
      have jl25 : ∀ (v1 : Int) (rv1 : jRng v1) (N : Nat) (v2 : Int) (C : jC) (rv2 : jRng v2) (hw : jWF n C), jI2 (wp_12_readRow_25 v1 post) N v2 C → jG p l e q_12_readRow s m args below meth c 3 Z A (jws Z n C) 0 0 (MQ below (jQi Z n sz post) args s q_12_readRow.cells q_12_readRow.slots (jA Z n sz)) 25 [(0, jr Z 345), (1, jI v1), (2, jI v2)] [] := by
        intro v1 rv1 N
        have hn := hw0.2.2.1
        induction N with
        | zero => intro v2 C rv2 hw h; exact h.elim
        | succ N ih25 =>
          intro v2 C rv2 hw h
          have h : wp_12_readRow_25 v1 post (jI2 (wp_12_readRow_25 v1 post) N) v2 C := h
          generalize jI2 (wp_12_readRow_25 v1 post) N = k25 at h ih25
          unfold wp_12_readRow_25 at h
          refine jg_iload_n (pc := 25) X d_12_readRow_25 2 rfl ?_
          refine jg_aload_n (pc := 26) X d_12_readRow_26 0 rfl ?_
          refine jg_pcallVi (pc := 27) X (m_12_columns hw h) jM_12_columns kw_1590 (jl_345_12 hn) rfl rfl rfl rfl rfl (Nat.le_of_ble_eq_true rfl) d_12_readRow_27 ⟨(Nat.le_of_ble_eq_true rfl), (Nat.le_of_ble_eq_true rfl)⟩ ⟨(Nat.le_of_ble_eq_true rfl), (Nat.le_of_ble_eq_true rfl)⟩ (fun x15 r17 h => ?_)
          refine jg_icmp_ge (tgt := 67) (pc := 30) X d_12_readRow_30 (by decide) rv2 r17 h (fun c19 h => ?_) (fun c19 h => ?_)
          · refine jg_aload_n (pc := 67) X d_12_readRow_67 0 rfl ?_
            refine jg_sipush (pc := 68) X d_12_readRow_68 rfl ?_
            refine jg_iload_n (pc := 71) X d_12_readRow_71 1 rfl ?_
            refine jg_callVv (pc := 72) X (m_12_putsLast (⟨by decide, by decide⟩ : jRng 273) rv1 hw h) jM_12_putsLast kw_1645 (jl_345_12 hn) rfl rfl rfl rfl rfl (Nat.le_of_ble_eq_true rfl) d_12_readRow_72 ⟨(Nat.le_of_ble_eq_true rfl), (Nat.le_of_ble_eq_true rfl)⟩ ⟨(Nat.le_of_ble_eq_true rfl), (Nat.le_of_ble_eq_true rfl)⟩ (fun C21 w23 h => ?_)
            refine jg_iconst (pc := 75) X d_12_readRow_75 ?_
            refine jg_istore_n (pc := 76) X [(2, jI 0), (0, jr Z 345), (1, jI v1)] d_12_readRow_76 (by decide) rfl ?_
            have jl77 : ∀  (N : Nat) (v2 : Int) (C : jC) (rv2 : jRng v2) (hw : jWF n C), jI2 (wp_12_readRow_77 v1 post) N v2 C → jG p l e q_12_readRow s m args below meth c 3 Z A (jws Z n C) 0 0 (MQ below (jQi Z n sz post) args s q_12_readRow.cells q_12_readRow.slots (jA Z n sz)) 77 [(0, jr Z 345), (1, jI v1), (2, jI v2)] [] := by
              intro   N
              have hn := hw0.2.2.1
              induction N with
              | zero => intro v2 C rv2 hw h; exact h.elim
              | succ N ih77 =>
                intro v2 C rv2 hw h
                have h : wp_12_readRow_77 v1 post (jI2 (wp_12_readRow_77 v1 post) N) v2 C := h
                generalize jI2 (wp_12_readRow_77 v1 post) N = k77 at h ih77
                unfold wp_12_readRow_77 at h
                refine jg_iload_n (pc := 77) X d_12_readRow_77 2 rfl ?_
                refine jg_iconst (pc := 78) X d_12_readRow_78 ?_
                refine jg_icmp_ge (tgt := 106) (pc := 79) X d_12_readRow_79 (by decide) rv2 (⟨by decide, by decide⟩ : jRng 4) h (fun c24 h => ?_) (fun c24 h => ?_)
                · refine jg_iconst (pc := 106) X d_12_readRow_106 ?_
                  exact jg_ireturn (pc := 107) X hAe hlocks hr d_12_readRow_107 ⟨(Nat.le_of_ble_eq_true rfl), (Nat.le_of_ble_eq_true rfl)⟩ rfl (⟨by decide, by decide⟩ : jRng 1) hw h
                · refine jg_aload_n (pc := 82) X d_12_readRow_82 0 rfl ?_
                  refine jg_iload_n (pc := 83) X d_12_readRow_83 2 rfl ?_
                  refine jg_iload_n (pc := 84) X d_12_readRow_84 1 rfl ?_
                  refine jg_pcallVi (pc := 85) X (m_12_isFit rv2 rv1 hw h) jM_12_isFit kw_1653 (jl_345_12 hn) rfl rfl rfl rfl rfl (Nat.le_of_ble_eq_true rfl) d_12_readRow_85 ⟨(Nat.le_of_ble_eq_true rfl), (Nat.le_of_ble_eq_true rfl)⟩ ⟨(Nat.le_of_ble_eq_true rfl), (Nat.le_of_ble_eq_true rfl)⟩ (fun x25 r27 h => ?_)
                  refine jg_if_eq (tgt := 100) (pc := 88) X d_12_readRow_88 (by decide) r27 h (fun c29 h => ?_) (fun c29 h => ?_)
                  · refine jg_iinc (pc := 100) X [(2, jI (v2 + 1)), (0, jr Z 345), (1, jI v1)] d_12_readRow_100 2 rfl (by decide) rfl ?_
                    refine jg_goto (tgt := 77) (pc := 103) X d_12_readRow_103 (by decide) ?_
                    have r30 : jRng (v2 + 1) := by (unfold jRng; exact ⟨by (have z0 : jRng v2 := rv2; unfold jRng at z0; omega), by (have z0 : jRng v2 := rv2; unfold jRng at z0; omega)⟩)
                    refine jg_sub [1, 2, 0] rfl ?_
                    exact ih77 _ _ r30 hw h
                  · refine jg_aload_n (pc := 91) X d_12_readRow_91 0 rfl ?_
                    refine jg_iload_n (pc := 92) X d_12_readRow_92 2 rfl ?_
                    refine jg_pcallSi (pc := 93) X (m_12_listOf rv2 hw h) jM_12_listOf kw_1686 rfl rfl (Nat.le_of_ble_eq_true rfl) d_12_readRow_93 ⟨(Nat.le_of_ble_eq_true rfl), (Nat.le_of_ble_eq_true rfl)⟩ ⟨(Nat.le_of_ble_eq_true rfl), (Nat.le_of_ble_eq_true rfl)⟩ (fun x31 r33 h => ?_)
                    refine jg_iload_n (pc := 96) X d_12_readRow_96 1 rfl ?_
                    refine jg_callVv (pc := 97) X (m_12_putsLast r33 rv1 hw h) jM_12_putsLast kw_1645 (jl_345_12 hn) rfl rfl rfl rfl rfl (Nat.le_of_ble_eq_true rfl) d_12_readRow_97 ⟨(Nat.le_of_ble_eq_true rfl), (Nat.le_of_ble_eq_true rfl)⟩ ⟨(Nat.le_of_ble_eq_true rfl), (Nat.le_of_ble_eq_true rfl)⟩ (fun C36 w38 h => ?_)
                    refine jg_iinc (pc := 100) X [(2, jI (v2 + 1)), (0, jr Z 345), (1, jI v1)] d_12_readRow_100 2 rfl (by decide) rfl ?_
                    refine jg_goto (tgt := 77) (pc := 103) X d_12_readRow_103 (by decide) ?_
                    have r39 : jRng (v2 + 1) := by (unfold jRng; exact ⟨by (have z0 : jRng v2 := rv2; unfold jRng at z0; omega), by (have z0 : jRng v2 := rv2; unfold jRng at z0; omega)⟩)
                    refine jg_sub [1, 2, 0] rfl ?_
                    exact ih77 _ _ r39 w38 h
            obtain ⟨N, h⟩ := h
            refine jg_sub [1, 2, 0] rfl ?_
            exact jl77   N _ _ (⟨by decide, by decide⟩ : jRng 0) w23 h
          · refine jg_aload_n (pc := 33) X d_12_readRow_33 0 rfl ?_
            refine jg_iload_n (pc := 34) X d_12_readRow_34 2 rfl ?_
            refine jg_callVi (pc := 35) X (m_12_aValue rv2 hw h) jM_12_aValue kw_1618 (jl_345_12 hn) rfl rfl rfl rfl rfl (Nat.le_of_ble_eq_true rfl) d_12_readRow_35 ⟨(Nat.le_of_ble_eq_true rfl), (Nat.le_of_ble_eq_true rfl)⟩ ⟨(Nat.le_of_ble_eq_true rfl), (Nat.le_of_ble_eq_true rfl)⟩ (fun x40 C41 r42 w43 h => ?_)
            refine jg_if_ne (tgt := 43) (pc := 38) X d_12_readRow_38 (by decide) r42 h (fun c44 h => ?_) (fun c44 h => ?_)
            · refine jg_iconst (pc := 41) X d_12_readRow_41 ?_
              exact jg_ireturn (pc := 42) X hAe hlocks hr d_12_readRow_42 ⟨(Nat.le_of_ble_eq_true rfl), (Nat.le_of_ble_eq_true rfl)⟩ rfl (⟨by decide, by decide⟩ : jRng 0) w43 h
            · refine jg_aload_n (pc := 43) X d_12_readRow_43 0 rfl ?_
              refine jgf_12_1 (pc := 44) X (jl_345_12 hn) kw_1474 d_12_readRow_44 ?_
              refine jg_aload_n (pc := 47) X d_12_readRow_47 0 rfl ?_
              refine jg_iload_n (pc := 48) X d_12_readRow_48 1 rfl ?_
              refine jg_pcallVi (pc := 49) X (m_12_rowOf rv1 w43 h) jM_12_rowOf kw_1641 (jl_345_12 hn) rfl rfl rfl rfl rfl (Nat.le_of_ble_eq_true rfl) d_12_readRow_49 ⟨(Nat.le_of_ble_eq_true rfl), (Nat.le_of_ble_eq_true rfl)⟩ ⟨(Nat.le_of_ble_eq_true rfl), (Nat.le_of_ble_eq_true rfl)⟩ (fun x45 r47 h => ?_)
              refine jg_iconst (pc := 52) X d_12_readRow_52 ?_
              refine jg_iadd (pc := 53) X d_12_readRow_53 ?_
              refine jg_iload_n (pc := 54) X d_12_readRow_54 2 rfl ?_
              refine jg_iadd (pc := 55) X d_12_readRow_55 ?_
              refine jg_aload_n (pc := 56) X d_12_readRow_56 0 rfl ?_
              refine jgf_12_10 (pc := 57) X (jl_345_12 hn) kw_1483 d_12_readRow_57 ?_
              obtain ⟨b49, b50, h⟩ := h
              refine jg_iastore (len := 8954) (pc := 60) X d_12_readRow_60 (jl_346_9954 hn) (fun _ => rfl) (by decide) b49 b50 ?_
              have w51 := jWF.u (k := ((x45 + 1) + v2)) (v := (C41 345 10)) w43 (jl_346_9954 hn) (by decide) (w43.1 _ _)
              refine jg_iinc (pc := 61) X [(2, jI (v2 + 1)), (0, jr Z 345), (1, jI v1)] d_12_readRow_61 2 rfl (by decide) rfl ?_
              refine jg_goto (tgt := 25) (pc := 64) X d_12_readRow_64 (by decide) ?_
              have r52 : jRng (v2 + 1) := by (unfold jRng; exact ⟨by (have z0 : jRng v2 := rv2; have z1 : jRng x15 := r17; unfold jRng at z0 z1; omega), by (have z0 : jRng v2 := rv2; have z1 : jRng x15 := r17; unfold jRng at z0 z1; omega)⟩)
              refine jg_sub [1, 2, 0] rfl ?_
              exact ih25 _ _ r52 w51 h
      obtain ⟨N, h⟩ := h
      refine jg_sub [2, 1, 0] rfl ?_
      exact jl25 _ r13 N _ _ (⟨by decide, by decide⟩ : jRng 0) w14 h

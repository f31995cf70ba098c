set_option maxHeartbeats 4000000 in
set_option maxRecDepth 100000 in
theorem m_12_isTold {l : Launch} {Z : jE} {n : Nat} {C : jC} {v1 : Int} {v2 : Int} {v3 : Int} {v4 : Int} {v5 : Int} {post : jC → Prop} (rv1 : jRng v1) (rv2 : jRng v2) (rv3 : jRng v3) (rv4 : jRng v4) (rv5 : jRng v5) (hw0 : jWF n C) (h : wp_12_isTold v1 v2 v3 v4 v5 C post) : jCv l y_12_isTold prog_14_method_70_code 7 q_12_isTold Z n C [jr Z 345, jI v1, jI v2, jI v3, jI v4, jI v5] post := by
  have hn := hw0.2.2.1
  unfold wp_12_isTold at h
  refine jCv_of (lv0 := [(0, jr Z 345), (1, jI v1), (2, jI v2), (3, jI v3), (4, jI v4), (5, jI v5)]) (by decide) (Nat.le_of_ble_eq_true rfl) rfl ?_
  intro p e s m args below meth c A sz X hAe hr hlocks
  refine jg_sipush (pc := 0) X d_12_isTold_0 rfl ?_
  refine jg_istore (pc := 3) X [(6, jI 199), (0, jr Z 345), (1, jI v1), (2, jI v2), (3, jI v3), (4, jI v4), (5, jI v5)] d_12_isTold_3 (by decide) rfl ?_
  have jl5 : ∀  (N : Nat) (v6 : Int) (C : jC) (rv6 : jRng v6) (hw : jWF n C), jI2 (wp_12_isTold_5 v1 v2 v3 v4 v5 post) N v6 C → jG p l e q_12_isTold s m args below meth c 7 Z A (jws Z n C) 0 0 (MQ below (jQv Z n sz post) args s q_12_isTold.cells q_12_isTold.slots (jA Z n sz)) 5 [(0, jr Z 345), (1, jI v1), (2, jI v2), (3, jI v3), (4, jI v4), (5, jI v5), (6, jI v6)] [] := by
    intro   N
    have hn := hw0.2.2.1
    induction N with
    | zero => intro v6 C rv6 hw h; exact h.elim
    | succ N ih5 =>
      intro v6 C rv6 hw h
      have h : wp_12_isTold_5 v1 v2 v3 v4 v5 post (jI2 (wp_12_isTold_5 v1 v2 v3 v4 v5 post) N) v6 C := h
      generalize jI2 (wp_12_isTold_5 v1 v2 v3 v4 v5 post) N = k5 at h ih5
      unfold wp_12_isTold_5 at h
      refine jg_iload (pc := 5) X d_12_isTold_5 6 rfl ?_
      refine jg_iconst (pc := 7) X d_12_isTold_7 ?_
      refine jg_icmp_lt (tgt := 41) (pc := 8) X d_12_isTold_8 (by decide) rv6 (⟨by decide, by decide⟩ : jRng 5) h (fun c1 h => ?_) (fun c1 h => ?_)
      · refine jg_aload_n (pc := 41) X d_12_isTold_41 0 rfl ?_
        refine jgf_12_1 (pc := 42) X (jl_345_12 hn) kw_1474 d_12_isTold_42 ?_
        refine jg_sipush (pc := 45) X d_12_isTold_45 rfl ?_
        refine jg_iload_n (pc := 48) X d_12_isTold_48 1 rfl ?_
        refine jg_iastore (len := 8954) (pc := 49) X d_12_isTold_49 (jl_346_9954 hn) (fun _ => rfl) (by decide) (by decide) (by decide) ?_
        have w4 := jWF.u (k := 8754) (v := v1) hw (jl_346_9954 hn) (by decide) rv1
        refine jg_aload_n (pc := 50) X d_12_isTold_50 0 rfl ?_
        refine jgf_12_1 (pc := 51) X (jl_345_12 hn) kw_1474 d_12_isTold_51 ?_
        refine jg_sipush (pc := 54) X d_12_isTold_54 rfl ?_
        refine jg_iload_n (pc := 57) X d_12_isTold_57 2 rfl ?_
        refine jg_iastore (len := 8954) (pc := 58) X d_12_isTold_58 (jl_346_9954 hn) (fun _ => rfl) (by decide) (by decide) (by decide) ?_
        have w7 := jWF.u (k := 8755) (v := v2) w4 (jl_346_9954 hn) (by decide) rv2
        refine jg_aload_n (pc := 59) X d_12_isTold_59 0 rfl ?_
        refine jgf_12_1 (pc := 60) X (jl_345_12 hn) kw_1474 d_12_isTold_60 ?_
        refine jg_sipush (pc := 63) X d_12_isTold_63 rfl ?_
        refine jg_iload_n (pc := 66) X d_12_isTold_66 3 rfl ?_
        refine jg_iastore (len := 8954) (pc := 67) X d_12_isTold_67 (jl_346_9954 hn) (fun _ => rfl) (by decide) (by decide) (by decide) ?_
        have w10 := jWF.u (k := 8756) (v := v3) w7 (jl_346_9954 hn) (by decide) rv3
        refine jg_aload_n (pc := 68) X d_12_isTold_68 0 rfl ?_
        refine jgf_12_1 (pc := 69) X (jl_345_12 hn) kw_1474 d_12_isTold_69 ?_
        refine jg_sipush (pc := 72) X d_12_isTold_72 rfl ?_
        refine jg_iload (pc := 75) X d_12_isTold_75 4 rfl ?_
        refine jg_iastore (len := 8954) (pc := 77) X d_12_isTold_77 (jl_346_9954 hn) (fun _ => rfl) (by decide) (by decide) (by decide) ?_
        have w13 := jWF.u (k := 8757) (v := v4) w10 (jl_346_9954 hn) (by decide) rv4
        refine jg_aload_n (pc := 78) X d_12_isTold_78 0 rfl ?_
        refine jgf_12_1 (pc := 79) X (jl_345_12 hn) kw_1474 d_12_isTold_79 ?_
        refine jg_sipush (pc := 82) X d_12_isTold_82 rfl ?_
        refine jg_iload (pc := 85) X d_12_isTold_85 5 rfl ?_
        refine jg_iastore (len := 8954) (pc := 87) X d_12_isTold_87 (jl_346_9954 hn) (fun _ => rfl) (by decide) (by decide) (by decide) ?_
        have w16 := jWF.u (k := 8758) (v := v5) w13 (jl_346_9954 hn) (by decide) rv5
        refine jg_aload_n (pc := 88) X d_12_isTold_88 0 rfl ?_
        refine jgf_12_1 (pc := 89) X (jl_345_12 hn) kw_1474 d_12_isTold_89 ?_
        refine jg_iconst (pc := 92) X d_12_isTold_92 ?_
        refine jg_bipush (pc := 93) X d_12_isTold_93 rfl ?_
        refine jg_aload_n (pc := 95) X d_12_isTold_95 0 rfl ?_
        refine jgf_12_1 (pc := 96) X (jl_345_12 hn) kw_1474 d_12_isTold_96 ?_
        refine jg_iconst (pc := 99) X d_12_isTold_99 ?_
        refine jg_iaload (len := 8954) (pc := 100) X d_12_isTold_100 (jl_346_9954 hn) (fun _ => rfl) (by decide) (by decide) (by decide) ?_
        refine jg_iconst (pc := 101) X d_12_isTold_101 ?_
        refine jg_iadd (pc := 102) X d_12_isTold_102 ?_
        obtain ⟨r19, h⟩ := h
        have r20 : jRng (min 40 (((jU (jU (jU (jU (jU C 346 8754 v1) 346 8755 v2) 346 8756 v3) 346 8757 v4) 346 8758 v5) 346 3) + 1)) := jrng_min (⟨by decide, by decide⟩ : jRng 40) r19
        refine jg_min (pc := 103) X kw_1819 d_12_isTold_103 kw_min1 kw_ma kw_min2 ⟨(Nat.le_of_ble_eq_true rfl), (Nat.le_of_ble_eq_true rfl), (Nat.le_of_ble_eq_true rfl), (Nat.le_of_ble_eq_true rfl)⟩ (⟨by decide, by decide⟩ : jRng 40) r19 ?_
        refine jg_iastore (len := 8954) (pc := 106) X d_12_isTold_106 (jl_346_9954 hn) (fun _ => rfl) (by decide) (by decide) (by decide) ?_
        have w23 := jWF.u (k := 3) (v := (min 40 (((jU (jU (jU (jU (jU C 346 8754 v1) 346 8755 v2) 346 8756 v3) 346 8757 v4) 346 8758 v5) 346 3) + 1))) w16 (jl_346_9954 hn) (by decide) r20
        exact jg_return (pc := 107) X hAe hlocks hr d_12_isTold_107 ⟨(Nat.le_of_ble_eq_true rfl), (Nat.le_of_ble_eq_true rfl)⟩ w23 h
      · refine jg_aload_n (pc := 11) X d_12_isTold_11 0 rfl ?_
        refine jgf_12_1 (pc := 12) X (jl_345_12 hn) kw_1474 d_12_isTold_12 ?_
        refine jg_sipush (pc := 15) X d_12_isTold_15 rfl ?_
        refine jg_iload (pc := 18) X d_12_isTold_18 6 rfl ?_
        refine jg_iadd (pc := 20) X d_12_isTold_20 ?_
        refine jg_aload_n (pc := 21) X d_12_isTold_21 0 rfl ?_
        refine jgf_12_1 (pc := 22) X (jl_345_12 hn) kw_1474 d_12_isTold_22 ?_
        refine jg_sipush (pc := 25) X d_12_isTold_25 rfl ?_
        refine jg_iload (pc := 28) X d_12_isTold_28 6 rfl ?_
        refine jg_iadd (pc := 30) X d_12_isTold_30 ?_
        refine jg_iconst (pc := 31) X d_12_isTold_31 ?_
        refine jg_isub (pc := 32) X d_12_isTold_32 ?_
        obtain ⟨b25, h⟩ := h
        have b24 : 0 ≤ ((8754 + v6) - 5) := by (have z0 : jRng v6 := rv6; unfold jRng at z0; omega)
        refine jg_iaload (len := 8954) (pc := 33) X d_12_isTold_33 (jl_346_9954 hn) (fun _ => rfl) (by decide) b24 b25 ?_
        obtain ⟨b27, h⟩ := h
        have b26 : 0 ≤ (8754 + v6) := by (have z0 : jRng v6 := rv6; unfold jRng at z0; omega)
        refine jg_iastore (len := 8954) (pc := 34) X d_12_isTold_34 (jl_346_9954 hn) (fun _ => rfl) (by decide) b26 b27 ?_
        have w28 := jWF.u (k := (8754 + v6)) (v := (C 346 ((8754 + v6) - 5))) hw (jl_346_9954 hn) (by decide) (hw.1 _ _)
        refine jg_iinc (pc := 35) X [(6, jI (v6 + (-1))), (0, jr Z 345), (1, jI v1), (2, jI v2), (3, jI v3), (4, jI v4), (5, jI v5)] d_12_isTold_35 6 rfl (by decide) rfl ?_
        refine jg_goto (tgt := 5) (pc := 38) X d_12_isTold_38 (by decide) ?_
        have r29 : jRng (v6 + (-1)) := by (unfold jRng; exact ⟨by (have z0 : jRng v6 := rv6; unfold jRng at z0; omega), by (have z0 : jRng v6 := rv6; unfold jRng at z0; omega)⟩)
        refine jg_sub [1, 2, 3, 4, 5, 6, 0] rfl ?_
        exact ih5 _ _ r29 w28 h
  obtain ⟨N, h⟩ := h
  refine jg_sub [1, 2, 3, 4, 5, 6, 0] rfl ?_
  exact jl5   N _ _ (⟨by decide, by decide⟩ : jRng 199) hw0 h
set_option maxHeartbeats 4000000 in
set_option maxRecDepth 100000 in
theorem m_12_alters {l : Launch} {Z : jE} {n : Nat} {C : jC} {v1 : Int} {v2 : Int} {v3 : Int} {v4 : Int} {post : jC → Prop} (rv1 : jRng v1) (rv2 : jRng v2) (rv3 : jRng v3) (rv4 : jRng v4) (hw0 : jWF n C) (h : wp_12_alters v1 v2 v3 v4 C post) : jCv l y_12_alters prog_14_method_71_code 7 q_12_alters Z n C [jr Z 345, jI v1, jI v2, jI v3, jI v4] post := by
  have hn := hw0.2.2.1
  unfold wp_12_alters at h
  refine jCv_of (lv0 := [(0, jr Z 345), (1, jI v1), (2, jI v2), (3, jI v3), (4, jI v4)]) (by decide) (Nat.le_of_ble_eq_true rfl) rfl ?_
  intro p e s m args below meth c A sz X hAe hr hlocks
  refine jg_aload_n (pc := 0) X d_12_alters_0 0 rfl ?_
  refine jg_iload_n (pc := 1) X d_12_alters_1 2 rfl ?_
  refine jg_iload_n (pc := 2) X d_12_alters_2 3 rfl ?_
  refine jg_pcallVi (pc := 3) X (m_12_cellOf rv2 rv3 hw0 h) jM_12_cellOf kw_1671 (jl_345_12 hn) rfl rfl rfl rfl rfl (Nat.le_of_ble_eq_true rfl) d_12_alters_3 ⟨(Nat.le_of_ble_eq_true rfl), (Nat.le_of_ble_eq_true rfl)⟩ ⟨(Nat.le_of_ble_eq_true rfl), (Nat.le_of_ble_eq_true rfl)⟩ (fun x1 r3 h => ?_)
  refine jg_istore (pc := 6) X [(5, jI x1), (0, jr Z 345), (1, jI v1), (2, jI v2), (3, jI v3), (4, jI v4)] d_12_alters_6 (by decide) rfl ?_
  refine jg_iload (pc := 8) X d_12_alters_8 0 rfl ?_
  refine jg_iload (pc := 10) X d_12_alters_10 5 rfl ?_
  refine jg_icmp_ne (tgt := 16) (pc := 12) X d_12_alters_12 (by decide) r3 rv4 h (fun c5 h => ?_) (fun c5 h => ?_)
  · exact jg_return (pc := 15) X hAe hlocks hr d_12_alters_15 ⟨(Nat.le_of_ble_eq_true rfl), (Nat.le_of_ble_eq_true rfl)⟩ hw0 h
  · refine jg_aload_n (pc := 16) X d_12_alters_16 1 rfl ?_
    refine jgf_12_1 (pc := 17) X (jl_345_12 hn) kw_1474 d_12_alters_17 ?_
    refine jg_aload_n (pc := 20) X d_12_alters_20 1 rfl ?_
    refine jg_iload_n (pc := 21) X d_12_alters_21 3 rfl ?_
    refine jg_pcallVi (pc := 22) X (m_12_rowOf rv2 hw0 h) jM_12_rowOf kw_1641 (jl_345_12 hn) rfl rfl rfl rfl rfl (Nat.le_of_ble_eq_true rfl) d_12_alters_22 ⟨(Nat.le_of_ble_eq_true rfl), (Nat.le_of_ble_eq_true rfl)⟩ ⟨(Nat.le_of_ble_eq_true rfl), (Nat.le_of_ble_eq_true rfl)⟩ (fun x6 r8 h => ?_)
    refine jg_iconst (pc := 25) X d_12_alters_25 ?_
    refine jg_iadd (pc := 26) X d_12_alters_26 ?_
    refine jg_iload_n (pc := 27) X d_12_alters_27 4 rfl ?_
    refine jg_iadd (pc := 28) X d_12_alters_28 ?_
    refine jg_iload (pc := 29) X d_12_alters_29 5 rfl ?_
    obtain ⟨b10, b11, h⟩ := h
    refine jg_iastore (len := 8954) (pc := 31) X d_12_alters_31 (jl_346_9954 hn) (fun _ => rfl) (by decide) b10 b11 ?_
    have w12 := jWF.u (k := ((x6 + 1) + v3)) (v := v4) hw0 (jl_346_9954 hn) (by decide) rv4
    refine jg_aload_n (pc := 32) X d_12_alters_32 1 rfl ?_
    refine jgf_12_1 (pc := 33) X (jl_345_12 hn) kw_1474 d_12_alters_33 ?_
    refine jg_aload_n (pc := 36) X d_12_alters_36 1 rfl ?_
    refine jg_iload_n (pc := 37) X d_12_alters_37 3 rfl ?_
    refine jg_pcallVi (pc := 38) X (m_12_rowOf rv2 w12 h) jM_12_rowOf kw_1641 (jl_345_12 hn) rfl rfl rfl rfl rfl (Nat.le_of_ble_eq_true rfl) d_12_alters_38 ⟨(Nat.le_of_ble_eq_true rfl), (Nat.le_of_ble_eq_true rfl)⟩ ⟨(Nat.le_of_ble_eq_true rfl), (Nat.le_of_ble_eq_true rfl)⟩ (fun x13 r15 h => ?_)
    refine jg_bipush (pc := 41) X d_12_alters_41 rfl ?_
    refine jg_iadd (pc := 43) X d_12_alters_43 ?_
    refine jg_iload_n (pc := 44) X d_12_alters_44 4 rfl ?_
    refine jg_iadd (pc := 45) X d_12_alters_45 ?_
    refine jg_iload_n (pc := 46) X d_12_alters_46 2 rfl ?_
    obtain ⟨b17, b18, h⟩ := h
    refine jg_iastore (len := 8954) (pc := 47) X d_12_alters_47 (jl_346_9954 hn) (fun _ => rfl) (by decide) b17 b18 ?_
    have w19 := jWF.u (k := ((x13 + 6) + v3)) (v := v1) w12 (jl_346_9954 hn) (by decide) rv1
    refine jg_iconst (pc := 48) X d_12_alters_48 ?_
    refine jg_iconst (pc := 49) X d_12_alters_49 ?_
    refine jg_aload_n (pc := 50) X d_12_alters_50 1 rfl ?_
    refine jgf_12_14 (pc := 51) X (jl_345_12 hn) kw_1487 d_12_alters_51 ?_
    refine jg_iconst (pc := 54) X d_12_alters_54 ?_
    refine jg_iaload (len := 241) (pc := 55) X d_12_alters_55 (jl_352_1241 hn) (fun _ => rfl) (by decide) (by decide) (by decide) ?_
    refine jg_imul (pc := 56) X d_12_alters_56 ?_
    refine jg_iadd (pc := 57) X d_12_alters_57 ?_
    refine jg_istore (pc := 58) X [(6, jI (1 + (4 * ((jU (jU C 346 ((x6 + 1) + v3) v4) 346 ((x13 + 6) + v3) v1) 352 0)))), (5, jI x1), (0, jr Z 345), (1, jI v1), (2, jI v2), (3, jI v3), (4, jI v4)] d_12_alters_58 (by decide) rfl ?_
    refine jg_aload_n (pc := 60) X d_12_alters_60 2 rfl ?_
    refine jgf_12_14 (pc := 61) X (jl_345_12 hn) kw_1487 d_12_alters_61 ?_
    refine jg_iload (pc := 64) X d_12_alters_64 0 rfl ?_
    refine jg_iload_n (pc := 66) X d_12_alters_66 4 rfl ?_
    obtain ⟨b22, b23, h⟩ := h
    refine jg_iastore (len := 241) (pc := 67) X d_12_alters_67 (jl_352_1241 hn) (fun _ => rfl) (by decide) b22 b23 ?_
    have w24 := jWF.u (k := (1 + (4 * ((jU (jU C 346 ((x6 + 1) + v3) v4) 346 ((x13 + 6) + v3) v1) 352 0)))) (v := v2) w19 (jl_352_1241 hn) (by decide) rv2
    refine jg_aload_n (pc := 68) X d_12_alters_68 2 rfl ?_
    refine jgf_12_14 (pc := 69) X (jl_345_12 hn) kw_1487 d_12_alters_69 ?_
    refine jg_iload (pc := 72) X d_12_alters_72 0 rfl ?_
    refine jg_iconst (pc := 74) X d_12_alters_74 ?_
    refine jg_iadd (pc := 75) X d_12_alters_75 ?_
    refine jg_iload_n (pc := 76) X d_12_alters_76 5 rfl ?_
    obtain ⟨b26, h⟩ := h
    have b25 : 0 ≤ ((1 + (4 * ((jU (jU C 346 ((x6 + 1) + v3) v4) 346 ((x13 + 6) + v3) v1) 352 0))) + 1) := by (have z0 : jRng ((jU (jU C 346 ((x6 + 1) + v3) v4) 346 ((x13 + 6) + v3) v1) 352 0) := (w19.1 _ _); unfold jRng at z0; omega)
    refine jg_iastore (len := 241) (pc := 77) X d_12_alters_77 (jl_352_1241 hn) (fun _ => rfl) (by decide) b25 b26 ?_
    have w27 := jWF.u (k := ((1 + (4 * ((jU (jU C 346 ((x6 + 1) + v3) v4) 346 ((x13 + 6) + v3) v1) 352 0))) + 1)) (v := v3) w24 (jl_352_1241 hn) (by decide) rv3
    refine jg_aload_n (pc := 78) X d_12_alters_78 2 rfl ?_
    refine jgf_12_14 (pc := 79) X (jl_345_12 hn) kw_1487 d_12_alters_79 ?_
    refine jg_iload (pc := 82) X d_12_alters_82 0 rfl ?_
    refine jg_iconst (pc := 84) X d_12_alters_84 ?_
    refine jg_iadd (pc := 85) X d_12_alters_85 ?_
    refine jg_iload (pc := 86) X d_12_alters_86 1 rfl ?_
    obtain ⟨b29, h⟩ := h
    have b28 : 0 ≤ ((1 + (4 * ((jU (jU C 346 ((x6 + 1) + v3) v4) 346 ((x13 + 6) + v3) v1) 352 0))) + 2) := by (have z0 : jRng ((jU (jU C 346 ((x6 + 1) + v3) v4) 346 ((x13 + 6) + v3) v1) 352 0) := (w19.1 _ _); unfold jRng at z0; omega)
    refine jg_iastore (len := 241) (pc := 88) X d_12_alters_88 (jl_352_1241 hn) (fun _ => rfl) (by decide) b28 b29 ?_
    have w30 := jWF.u (k := ((1 + (4 * ((jU (jU C 346 ((x6 + 1) + v3) v4) 346 ((x13 + 6) + v3) v1) 352 0))) + 2)) (v := x1) w27 (jl_352_1241 hn) (by decide) r3
    refine jg_aload_n (pc := 89) X d_12_alters_89 2 rfl ?_
    refine jgf_12_14 (pc := 90) X (jl_345_12 hn) kw_1487 d_12_alters_90 ?_
    refine jg_iload (pc := 93) X d_12_alters_93 0 rfl ?_
    refine jg_iconst (pc := 95) X d_12_alters_95 ?_
    refine jg_iadd (pc := 96) X d_12_alters_96 ?_
    refine jg_iload (pc := 97) X d_12_alters_97 6 rfl ?_
    obtain ⟨b32, h⟩ := h
    have b31 : 0 ≤ ((1 + (4 * ((jU (jU C 346 ((x6 + 1) + v3) v4) 346 ((x13 + 6) + v3) v1) 352 0))) + 3) := by (have z0 : jRng ((jU (jU C 346 ((x6 + 1) + v3) v4) 346 ((x13 + 6) + v3) v1) 352 0) := (w19.1 _ _); unfold jRng at z0; omega)
    refine jg_iastore (len := 241) (pc := 99) X d_12_alters_99 (jl_352_1241 hn) (fun _ => rfl) (by decide) b31 b32 ?_
    have w33 := jWF.u (k := ((1 + (4 * ((jU (jU C 346 ((x6 + 1) + v3) v4) 346 ((x13 + 6) + v3) v1) 352 0))) + 3)) (v := v4) w30 (jl_352_1241 hn) (by decide) rv4
    refine jg_aload_n (pc := 100) X d_12_alters_100 2 rfl ?_
    refine jgf_12_14 (pc := 101) X (jl_345_12 hn) kw_1487 d_12_alters_101 ?_
    refine jg_iconst (pc := 104) X d_12_alters_104 ?_
    refine jg_dup2 (pc := 105) X d_12_alters_105 rfl rfl ?_
    refine jg_iaload (len := 241) (pc := 106) X d_12_alters_106 (jl_352_1241 hn) (fun _ => rfl) (by decide) (by decide) (by decide) ?_
    refine jg_iconst (pc := 107) X d_12_alters_107 ?_
    refine jg_iadd (pc := 108) X d_12_alters_108 ?_
    obtain ⟨r38, h⟩ := h
    refine jg_iastore (len := 241) (pc := 109) X d_12_alters_109 (jl_352_1241 hn) (fun _ => rfl) (by decide) (by decide) (by decide) ?_
    have w39 := jWF.u (k := 0) (v := (((jU (jU (jU (jU (jU (jU C 346 ((x6 + 1) + v3) v4) 346 ((x13 + 6) + v3) v1) 352 (1 + (4 * ((jU (jU C 346 ((x6 + 1) + v3) v4) 346 ((x13 + 6) + v3) v1) 352 0))) v2) 352 ((1 + (4 * ((jU (jU C 346 ((x6 + 1) + v3) v4) 346 ((x13 + 6) + v3) v1) 352 0))) + 1) v3) 352 ((1 + (4 * ((jU (jU C 346 ((x6 + 1) + v3) v4) 346 ((x13 + 6) + v3) v1) 352 0))) + 2) x1) 352 ((1 + (4 * ((jU (jU C 346 ((x6 + 1) + v3) v4) 346 ((x13 + 6) + v3) v1) 352 0))) + 3) v4) 352 0) + 1)) w33 (jl_352_1241 hn) (by decide) r38
    refine jg_aload_n (pc := 110) X d_12_alters_110 2 rfl ?_
    refine jg_iload_n (pc := 111) X d_12_alters_111 3 rfl ?_
    refine jg_iload_n (pc := 112) X d_12_alters_112 4 rfl ?_
    refine jg_iload_n (pc := 113) X d_12_alters_113 5 rfl ?_
    refine jg_iload (pc := 114) X d_12_alters_114 1 rfl ?_
    refine jg_iload (pc := 116) X d_12_alters_116 6 rfl ?_
    refine jg_callVv (pc := 118) X (m_12_isTold rv1 rv2 rv3 r3 rv4 w39 h) jM_12_isTold kw_1815 (jl_345_12 hn) rfl rfl rfl rfl rfl (Nat.le_of_ble_eq_true rfl) d_12_alters_118 ⟨(Nat.le_of_ble_eq_true rfl), (Nat.le_of_ble_eq_true rfl)⟩ ⟨(Nat.le_of_ble_eq_true rfl), (Nat.le_of_ble_eq_true rfl)⟩ (fun C41 w43 h => ?_)
    exact jg_return (pc := 121) X hAe hlocks hr d_12_alters_121 ⟨(Nat.le_of_ble_eq_true rfl), (Nat.le_of_ble_eq_true rfl)⟩ w43 h
set_option maxHeartbeats 4000000 in
set_option maxRecDepth 100000 in
theorem m_12_editAt {l : Launch} {Z : jE} {n : Nat} {C : jC} {v0 : Int} {v1 : Int} {post : Int → Prop} (rv0 : jRng v0) (rv1 : jRng v1) (hw0 : jWF n C) (h : wp_12_editAt v0 v1 C post) : jCi l y_12_editAt prog_14_method_69_code 2 (.int) q_12_editAt Z n C [jI v0, jI v1] (fun x C9 => C9 = C ∧ post x) := by
  have hn := hw0.2.2.1
  unfold wp_12_editAt at h
  refine jCi_of (lv0 := [(0, jI v0), (1, jI v1)]) (by decide) (Nat.le_of_ble_eq_true rfl) rfl ?_
  intro p e s m args below meth c A sz X hAe hr hlocks
  refine jg_iload_n (pc := 0) X d_12_editAt_0 0 rfl ?_
  refine jg_sipush (pc := 1) X d_12_editAt_1 rfl ?_
  refine jg_sipush (pc := 4) X d_12_editAt_4 rfl ?_
  refine jg_iload_n (pc := 7) X d_12_editAt_7 1 rfl ?_
  refine jg_imul (pc := 8) X d_12_editAt_8 ?_
  refine jg_iadd (pc := 9) X d_12_editAt_9 ?_
  obtain ⟨r1, h⟩ := h
  refine jg_pcallSi (pc := 10) X (m_12_viewAt rv0 r1 hw0 h) jM_12_viewAt kw_1668 rfl rfl (Nat.le_of_ble_eq_true rfl) d_12_editAt_10 ⟨(Nat.le_of_ble_eq_true rfl), (Nat.le_of_ble_eq_true rfl)⟩ ⟨(Nat.le_of_ble_eq_true rfl), (Nat.le_of_ble_eq_true rfl)⟩ (fun x2 r4 h => ?_)
  exact jg_ireturn (pc := 13) X hAe hlocks hr d_12_editAt_13 ⟨(Nat.le_of_ble_eq_true rfl), (Nat.le_of_ble_eq_true rfl)⟩ rfl r4 hw0 ⟨rfl, h⟩
set_option maxHeartbeats 4000000 in
set_option maxRecDepth 100000 in
theorem m_12_isEdit {l : Launch} {Z : jE} {n : Nat} {C : jC} {v1 : Int} {post : Int → jC → Prop} (rv1 : jRng v1) (hw0 : jWF n C) (h : wp_12_isEdit v1 C post) : jCi l y_12_isEdit prog_14_method_72_code 4 (.int) q_12_isEdit Z n C [jr Z 345, jI v1] post := by
  have hn := hw0.2.2.1
  unfold wp_12_isEdit at h
  refine jCi_of (lv0 := [(0, jr Z 345), (1, jI v1)]) (by decide) (Nat.le_of_ble_eq_true rfl) rfl ?_
  intro p e s m args below meth c A sz X hAe hr hlocks
  refine jg_aload_n (pc := 0) X d_12_isEdit_0 0 rfl ?_
  refine jgf_12_14 (pc := 1) X (jl_345_12 hn) kw_1487 d_12_isEdit_1 ?_
  refine jg_iconst (pc := 4) X d_12_isEdit_4 ?_
  refine jg_iaload (len := 241) (pc := 5) X d_12_isEdit_5 (jl_352_1241 hn) (fun _ => rfl) (by decide) (by decide) (by decide) ?_
  refine jg_if_ne (tgt := 11) (pc := 6) X d_12_isEdit_6 (by decide) (hw0.1 _ _) h (fun c3 h => ?_) (fun c3 h => ?_)
  · have c3 : (C 352 0) = 0 := c3
    refine jg_iconst (pc := 9) X d_12_isEdit_9 ?_
    exact jg_ireturn (pc := 10) X hAe hlocks hr d_12_isEdit_10 ⟨(Nat.le_of_ble_eq_true rfl), (Nat.le_of_ble_eq_true rfl)⟩ rfl (⟨by decide, by decide⟩ : jRng 0) hw0 h
  · have c3 : ¬ ((C 352 0) = 0) := c3
    refine jg_aload_n (pc := 11) X d_12_isEdit_11 0 rfl ?_
    refine jgf_12_1 (pc := 12) X (jl_345_12 hn) kw_1474 d_12_isEdit_12 ?_
    refine jg_iload_n (pc := 15) X d_12_isEdit_15 1 rfl ?_
    refine jg_sipush (pc := 16) X d_12_isEdit_16 rfl ?_
    refine jg_pcallSi (pc := 19) X (m_12_viewAt rv1 (⟨by decide, by decide⟩ : jRng 185) hw0 h) jM_12_viewAt kw_1668 rfl rfl (Nat.le_of_ble_eq_true rfl) d_12_isEdit_19 ⟨(Nat.le_of_ble_eq_true rfl), (Nat.le_of_ble_eq_true rfl)⟩ ⟨(Nat.le_of_ble_eq_true rfl), (Nat.le_of_ble_eq_true rfl)⟩ (fun x4 r6 h => ?_)
    obtain ⟨b8, b9, h⟩ := h
    refine jg_iaload (len := 8954) (pc := 22) X d_12_isEdit_22 (jl_346_9954 hn) (fun _ => rfl) (by decide) b8 b9 ?_
    refine jg_istore_n (pc := 23) X [(2, jI (C 346 x4)), (0, jr Z 345), (1, jI v1)] d_12_isEdit_23 (by decide) rfl ?_
    refine jg_iload_n (pc := 24) X d_12_isEdit_24 0 rfl ?_
    refine jg_bipush (pc := 25) X d_12_isEdit_25 rfl ?_
    refine jg_icmp_ne (tgt := 72) (pc := 27) X d_12_isEdit_27 (by decide) (hw0.1 _ _) (⟨by decide, by decide⟩ : jRng 8) h (fun c10 h => ?_) (fun c10 h => ?_)
    · have c10 : (C 346 x4) = 8 := c10
      refine jg_iconst (pc := 30) X d_12_isEdit_30 ?_
      refine jg_istore_n (pc := 31) X [(3, jI 0), (2, jI (C 346 x4)), (0, jr Z 345), (1, jI v1)] d_12_isEdit_31 (by decide) rfl ?_
      have jl32 : ∀ (v2 : Int) (rv2 : jRng v2) (N : Nat) (v3 : Int) (C : jC) (rv3 : jRng v3) (hw : jWF n C), jI2 (wp_12_isEdit_32 v1 v2 post) N v3 C → jG p l e q_12_isEdit s m args below meth c 4 Z A (jws Z n C) 0 0 (MQ below (jQi Z n sz post) args s q_12_isEdit.cells q_12_isEdit.slots (jA Z n sz)) 32 [(0, jr Z 345), (1, jI v1), (2, jI v2), (3, jI v3)] [] := by
        intro v2 rv2 N
        have hn := hw0.2.2.1
        induction N with
        | zero => intro v3 C rv3 hw h; exact h.elim
        | succ N ih32 =>
          intro v3 C rv3 hw h
          have h : wp_12_isEdit_32 v1 v2 post (jI2 (wp_12_isEdit_32 v1 v2 post) N) v3 C := h
          generalize jI2 (wp_12_isEdit_32 v1 v2 post) N = k32 at h ih32
          unfold wp_12_isEdit_32 at h
          refine jg_iload_n (pc := 32) X d_12_isEdit_32 3 rfl ?_
          refine jg_sipush (pc := 33) X d_12_isEdit_33 rfl ?_
          refine jg_icmp_ge (tgt := 69) (pc := 36) X d_12_isEdit_36 (by decide) rv3 (⟨by decide, by decide⟩ : jRng 1687) h (fun c11 h => ?_) (fun c11 h => ?_)
          · refine jg_iinc (pc := 69) X [(2, jI (v2 + (-1))), (0, jr Z 345), (1, jI v1), (3, jI v3)] d_12_isEdit_69 2 rfl (by decide) rfl ?_
            refine jg_iconst (pc := 72) X d_12_isEdit_72 ?_
            refine jg_istore_n (pc := 73) X [(3, jI 0), (2, jI (v2 + (-1))), (0, jr Z 345), (1, jI v1)] d_12_isEdit_73 (by decide) rfl ?_
            obtain ⟨r12, h⟩ := h
            have jl74 : ∀ (v2 : Int) (rv2 : jRng v2) (N : Nat) (v3 : Int) (C : jC) (rv3 : jRng v3) (hw : jWF n C), jI2 (wp_12_isEdit_74 v1 v2 post) N v3 C → jG p l e q_12_isEdit s m args below meth c 4 Z A (jws Z n C) 0 0 (MQ below (jQi Z n sz post) args s q_12_isEdit.cells q_12_isEdit.slots (jA Z n sz)) 74 [(0, jr Z 345), (1, jI v1), (2, jI v2), (3, jI v3)] [] := by
              intro v2 rv2 N
              have hn := hw0.2.2.1
              induction N with
              | zero => intro v3 C rv3 hw h; exact h.elim
              | succ N ih74 =>
                intro v3 C rv3 hw h
                have h : wp_12_isEdit_74 v1 v2 post (jI2 (wp_12_isEdit_74 v1 v2 post) N) v3 C := h
                generalize jI2 (wp_12_isEdit_74 v1 v2 post) N = k74 at h ih74
                unfold wp_12_isEdit_74 at h
                refine jg_iload_n (pc := 74) X d_12_isEdit_74 3 rfl ?_
                refine jg_sipush (pc := 75) X d_12_isEdit_75 rfl ?_
                refine jg_icmp_ge (tgt := 105) (pc := 78) X d_12_isEdit_78 (by decide) rv3 (⟨by decide, by decide⟩ : jRng 241) h (fun c13 h => ?_) (fun c13 h => ?_)
                · refine jg_aload_n (pc := 105) X d_12_isEdit_105 0 rfl ?_
                  refine jgf_12_1 (pc := 106) X (jl_345_12 hn) kw_1474 d_12_isEdit_106 ?_
                  refine jg_iload_n (pc := 109) X d_12_isEdit_109 1 rfl ?_
                  refine jg_sipush (pc := 110) X d_12_isEdit_110 rfl ?_
                  refine jg_pcallSi (pc := 113) X (m_12_viewAt rv1 (⟨by decide, by decide⟩ : jRng 185) hw h) jM_12_viewAt kw_1668 rfl rfl (Nat.le_of_ble_eq_true rfl) d_12_isEdit_113 ⟨(Nat.le_of_ble_eq_true rfl), (Nat.le_of_ble_eq_true rfl)⟩ ⟨(Nat.le_of_ble_eq_true rfl), (Nat.le_of_ble_eq_true rfl)⟩ (fun x14 r16 h => ?_)
                  refine jg_iload_n (pc := 116) X d_12_isEdit_116 2 rfl ?_
                  refine jg_iconst (pc := 117) X d_12_isEdit_117 ?_
                  refine jg_iadd (pc := 118) X d_12_isEdit_118 ?_
                  obtain ⟨b18, b19, r20, h⟩ := h
                  refine jg_iastore (len := 8954) (pc := 119) X d_12_isEdit_119 (jl_346_9954 hn) (fun _ => rfl) (by decide) b18 b19 ?_
                  have w21 := jWF.u (k := x14) (v := (v2 + 1)) hw (jl_346_9954 hn) (by decide) r20
                  refine jg_aload_n (pc := 120) X d_12_isEdit_120 0 rfl ?_
                  refine jgf_12_14 (pc := 121) X (jl_345_12 hn) kw_1487 d_12_isEdit_121 ?_
                  refine jg_iconst (pc := 124) X d_12_isEdit_124 ?_
                  refine jg_iaload (len := 241) (pc := 125) X d_12_isEdit_125 (jl_352_1241 hn) (fun _ => rfl) (by decide) (by decide) (by decide) ?_
                  exact jg_ireturn (pc := 126) X hAe hlocks hr d_12_isEdit_126 ⟨(Nat.le_of_ble_eq_true rfl), (Nat.le_of_ble_eq_true rfl)⟩ rfl (w21.1 _ _) w21 h
                · refine jg_aload_n (pc := 81) X d_12_isEdit_81 0 rfl ?_
                  refine jgf_12_1 (pc := 82) X (jl_345_12 hn) kw_1474 d_12_isEdit_82 ?_
                  refine jg_iload_n (pc := 85) X d_12_isEdit_85 1 rfl ?_
                  refine jg_iload_n (pc := 86) X d_12_isEdit_86 2 rfl ?_
                  refine jg_pcallSi (pc := 87) X (m_12_editAt rv1 rv2 hw h) jM_12_editAt kw_1824 rfl rfl (Nat.le_of_ble_eq_true rfl) d_12_isEdit_87 ⟨(Nat.le_of_ble_eq_true rfl), (Nat.le_of_ble_eq_true rfl)⟩ ⟨(Nat.le_of_ble_eq_true rfl), (Nat.le_of_ble_eq_true rfl)⟩ (fun x24 r26 h => ?_)
                  refine jg_iload_n (pc := 90) X d_12_isEdit_90 3 rfl ?_
                  refine jg_iadd (pc := 91) X d_12_isEdit_91 ?_
                  refine jg_aload_n (pc := 92) X d_12_isEdit_92 0 rfl ?_
                  refine jgf_12_14 (pc := 93) X (jl_345_12 hn) kw_1487 d_12_isEdit_93 ?_
                  refine jg_iload_n (pc := 96) X d_12_isEdit_96 3 rfl ?_
                  obtain ⟨b28, h⟩ := h
                  have b29 : v3 < 241 := by (have z0 : jRng v3 := rv3; unfold jRng at z0; omega)
                  refine jg_iaload (len := 241) (pc := 97) X d_12_isEdit_97 (jl_352_1241 hn) (fun _ => rfl) (by decide) b28 b29 ?_
                  obtain ⟨b30, b31, h⟩ := h
                  refine jg_iastore (len := 8954) (pc := 98) X d_12_isEdit_98 (jl_346_9954 hn) (fun _ => rfl) (by decide) b30 b31 ?_
                  have w32 := jWF.u (k := (x24 + v3)) (v := (C 352 v3)) hw (jl_346_9954 hn) (by decide) (hw.1 _ _)
                  refine jg_iinc (pc := 99) X [(3, jI (v3 + 1)), (0, jr Z 345), (1, jI v1), (2, jI v2)] d_12_isEdit_99 3 rfl (by decide) rfl ?_
                  refine jg_goto (tgt := 74) (pc := 102) X d_12_isEdit_102 (by decide) ?_
                  have r33 : jRng (v3 + 1) := by (unfold jRng; exact ⟨by (have z0 : jRng v3 := rv3; unfold jRng at z0; omega), by (have z0 : jRng v3 := rv3; unfold jRng at z0; omega)⟩)
                  refine jg_sub [1, 2, 3, 0] rfl ?_
                  exact ih74 _ _ r33 w32 h
            obtain ⟨N, h⟩ := h
            refine jg_sub [2, 3, 1, 0] rfl ?_
            exact jl74 _ r12 N _ _ (⟨by decide, by decide⟩ : jRng 0) hw h
          · refine jg_aload_n (pc := 39) X d_12_isEdit_39 0 rfl ?_
            refine jgf_12_1 (pc := 40) X (jl_345_12 hn) kw_1474 d_12_isEdit_40 ?_
            refine jg_iload_n (pc := 43) X d_12_isEdit_43 1 rfl ?_
            refine jg_iconst (pc := 44) X d_12_isEdit_44 ?_
            refine jg_pcallSi (pc := 45) X (m_12_editAt rv1 (⟨by decide, by decide⟩ : jRng 0) hw h) jM_12_editAt kw_1824 rfl rfl (Nat.le_of_ble_eq_true rfl) d_12_isEdit_45 ⟨(Nat.le_of_ble_eq_true rfl), (Nat.le_of_ble_eq_true rfl)⟩ ⟨(Nat.le_of_ble_eq_true rfl), (Nat.le_of_ble_eq_true rfl)⟩ (fun x34 r36 h => ?_)
            refine jg_iload_n (pc := 48) X d_12_isEdit_48 3 rfl ?_
            refine jg_iadd (pc := 49) X d_12_isEdit_49 ?_
            refine jg_aload_n (pc := 50) X d_12_isEdit_50 0 rfl ?_
            refine jgf_12_1 (pc := 51) X (jl_345_12 hn) kw_1474 d_12_isEdit_51 ?_
            refine jg_iload_n (pc := 54) X d_12_isEdit_54 1 rfl ?_
            refine jg_iconst (pc := 55) X d_12_isEdit_55 ?_
            refine jg_pcallSi (pc := 56) X (m_12_editAt rv1 (⟨by decide, by decide⟩ : jRng 1) hw h) jM_12_editAt kw_1824 rfl rfl (Nat.le_of_ble_eq_true rfl) d_12_isEdit_56 ⟨(Nat.le_of_ble_eq_true rfl), (Nat.le_of_ble_eq_true rfl)⟩ ⟨(Nat.le_of_ble_eq_true rfl), (Nat.le_of_ble_eq_true rfl)⟩ (fun x38 r40 h => ?_)
            refine jg_iload_n (pc := 59) X d_12_isEdit_59 3 rfl ?_
            refine jg_iadd (pc := 60) X d_12_isEdit_60 ?_
            obtain ⟨b42, b43, h⟩ := h
            refine jg_iaload (len := 8954) (pc := 61) X d_12_isEdit_61 (jl_346_9954 hn) (fun _ => rfl) (by decide) b42 b43 ?_
            obtain ⟨b44, b45, h⟩ := h
            refine jg_iastore (len := 8954) (pc := 62) X d_12_isEdit_62 (jl_346_9954 hn) (fun _ => rfl) (by decide) b44 b45 ?_
            have w46 := jWF.u (k := (x34 + v3)) (v := (C 346 (x38 + v3))) hw (jl_346_9954 hn) (by decide) (hw.1 _ _)
            refine jg_iinc (pc := 63) X [(3, jI (v3 + 1)), (0, jr Z 345), (1, jI v1), (2, jI v2)] d_12_isEdit_63 3 rfl (by decide) rfl ?_
            refine jg_goto (tgt := 32) (pc := 66) X d_12_isEdit_66 (by decide) ?_
            have r47 : jRng (v3 + 1) := by (unfold jRng; exact ⟨by (have z0 : jRng v3 := rv3; unfold jRng at z0; omega), by (have z0 : jRng v3 := rv3; unfold jRng at z0; omega)⟩)
            refine jg_sub [1, 2, 3, 0] rfl ?_
            exact ih32 _ _ r47 w46 h
      obtain ⟨N, h⟩ := h
      refine jg_sub [2, 3, 1, 0] rfl ?_
      exact jl32 _ (hw0.1 _ _) N _ _ (⟨by decide, by decide⟩ : jRng 0) hw0 h
    · have c10 : ¬ ((C 346 x4) = 8) := c10
      refine jg_iconst (pc := 72) X d_12_isEdit_72 ?_
      refine jg_istore_n (pc := 73) X [(3, jI 0), (2, jI (C 346 x4)), (0, jr Z 345), (1, jI v1)] d_12_isEdit_73 (by decide) rfl ?_
      have jl74 : ∀ (v2 : Int) (rv2 : jRng v2) (N : Nat) (v3 : Int) (C : jC) (rv3 : jRng v3) (hw : jWF n C), jI2 (wp_12_isEdit_74 v1 v2 post) N v3 C → jG p l e q_12_isEdit s m args below meth c 4 Z A (jws Z n C) 0 0 (MQ below (jQi Z n sz post) args s q_12_isEdit.cells q_12_isEdit.slots (jA Z n sz)) 74 [(0, jr Z 345), (1, jI v1), (2, jI v2), (3, jI v3)] [] := by
        intro v2 rv2 N
        have hn := hw0.2.2.1
        induction N with
        | zero => intro v3 C rv3 hw h; exact h.elim
        | succ N ih74 =>
          intro v3 C rv3 hw h
          have h : wp_12_isEdit_74 v1 v2 post (jI2 (wp_12_isEdit_74 v1 v2 post) N) v3 C := h
          generalize jI2 (wp_12_isEdit_74 v1 v2 post) N = k74 at h ih74
          unfold wp_12_isEdit_74 at h
          refine jg_iload_n (pc := 74) X d_12_isEdit_74 3 rfl ?_
          refine jg_sipush (pc := 75) X d_12_isEdit_75 rfl ?_
          refine jg_icmp_ge (tgt := 105) (pc := 78) X d_12_isEdit_78 (by decide) rv3 (⟨by decide, by decide⟩ : jRng 241) h (fun c48 h => ?_) (fun c48 h => ?_)
          · refine jg_aload_n (pc := 105) X d_12_isEdit_105 0 rfl ?_
            refine jgf_12_1 (pc := 106) X (jl_345_12 hn) kw_1474 d_12_isEdit_106 ?_
            refine jg_iload_n (pc := 109) X d_12_isEdit_109 1 rfl ?_
            refine jg_sipush (pc := 110) X d_12_isEdit_110 rfl ?_
            refine jg_pcallSi (pc := 113) X (m_12_viewAt rv1 (⟨by decide, by decide⟩ : jRng 185) hw h) jM_12_viewAt kw_1668 rfl rfl (Nat.le_of_ble_eq_true rfl) d_12_isEdit_113 ⟨(Nat.le_of_ble_eq_true rfl), (Nat.le_of_ble_eq_true rfl)⟩ ⟨(Nat.le_of_ble_eq_true rfl), (Nat.le_of_ble_eq_true rfl)⟩ (fun x49 r51 h => ?_)
            refine jg_iload_n (pc := 116) X d_12_isEdit_116 2 rfl ?_
            refine jg_iconst (pc := 117) X d_12_isEdit_117 ?_
            refine jg_iadd (pc := 118) X d_12_isEdit_118 ?_
            obtain ⟨b53, b54, r55, h⟩ := h
            refine jg_iastore (len := 8954) (pc := 119) X d_12_isEdit_119 (jl_346_9954 hn) (fun _ => rfl) (by decide) b53 b54 ?_
            have w56 := jWF.u (k := x49) (v := (v2 + 1)) hw (jl_346_9954 hn) (by decide) r55
            refine jg_aload_n (pc := 120) X d_12_isEdit_120 0 rfl ?_
            refine jgf_12_14 (pc := 121) X (jl_345_12 hn) kw_1487 d_12_isEdit_121 ?_
            refine jg_iconst (pc := 124) X d_12_isEdit_124 ?_
            refine jg_iaload (len := 241) (pc := 125) X d_12_isEdit_125 (jl_352_1241 hn) (fun _ => rfl) (by decide) (by decide) (by decide) ?_
            exact jg_ireturn (pc := 126) X hAe hlocks hr d_12_isEdit_126 ⟨(Nat.le_of_ble_eq_true rfl), (Nat.le_of_ble_eq_true rfl)⟩ rfl (w56.1 _ _) w56 h
          · refine jg_aload_n (pc := 81) X d_12_isEdit_81 0 rfl ?_
            refine jgf_12_1 (pc := 82) X (jl_345_12 hn) kw_1474 d_12_isEdit_82 ?_
            refine jg_iload_n (pc := 85) X d_12_isEdit_85 1 rfl ?_
            refine jg_iload_n (pc := 86) X d_12_isEdit_86 2 rfl ?_
            refine jg_pcallSi (pc := 87) X (m_12_editAt rv1 rv2 hw h) jM_12_editAt kw_1824 rfl rfl (Nat.le_of_ble_eq_true rfl) d_12_isEdit_87 ⟨(Nat.le_of_ble_eq_true rfl), (Nat.le_of_ble_eq_true rfl)⟩ ⟨(Nat.le_of_ble_eq_true rfl), (Nat.le_of_ble_eq_true rfl)⟩ (fun x59 r61 h => ?_)
            refine jg_iload_n (pc := 90) X d_12_isEdit_90 3 rfl ?_
            refine jg_iadd (pc := 91) X d_12_isEdit_91 ?_
            refine jg_aload_n (pc := 92) X d_12_isEdit_92 0 rfl ?_
            refine jgf_12_14 (pc := 93) X (jl_345_12 hn) kw_1487 d_12_isEdit_93 ?_
            refine jg_iload_n (pc := 96) X d_12_isEdit_96 3 rfl ?_
            obtain ⟨b63, h⟩ := h
            have b64 : v3 < 241 := by (have z0 : jRng v3 := rv3; unfold jRng at z0; omega)
            refine jg_iaload (len := 241) (pc := 97) X d_12_isEdit_97 (jl_352_1241 hn) (fun _ => rfl) (by decide) b63 b64 ?_
            obtain ⟨b65, b66, h⟩ := h
            refine jg_iastore (len := 8954) (pc := 98) X d_12_isEdit_98 (jl_346_9954 hn) (fun _ => rfl) (by decide) b65 b66 ?_
            have w67 := jWF.u (k := (x59 + v3)) (v := (C 352 v3)) hw (jl_346_9954 hn) (by decide) (hw.1 _ _)
            refine jg_iinc (pc := 99) X [(3, jI (v3 + 1)), (0, jr Z 345), (1, jI v1), (2, jI v2)] d_12_isEdit_99 3 rfl (by decide) rfl ?_
            refine jg_goto (tgt := 74) (pc := 102) X d_12_isEdit_102 (by decide) ?_
            have r68 : jRng (v3 + 1) := by (unfold jRng; exact ⟨by (have z0 : jRng v3 := rv3; unfold jRng at z0; omega), by (have z0 : jRng v3 := rv3; unfold jRng at z0; omega)⟩)
            refine jg_sub [1, 2, 3, 0] rfl ?_
            exact ih74 _ _ r68 w67 h
      obtain ⟨N, h⟩ := h
      refine jg_sub [2, 3, 1, 0] rfl ?_
      exact jl74 _ (hw0.1 _ _) N _ _ (⟨by decide, by decide⟩ : jRng 0) hw0 h
set_option maxHeartbeats 4000000 in
set_option maxRecDepth 100000 in
theorem m_12_set {l : Launch} {Z : jE} {n : Nat} {C : jC} {v1 : Int} {v2 : Int} {v3 : Int} {v4 : Int} {post : Int → jC → Prop} (rv1 : jRng v1) (rv2 : jRng v2) (rv3 : jRng v3) (rv4 : jRng v4) (hw0 : jWF n C) (h : wp_12_set v1 v2 v3 v4 C post) : jCi l y_12_set prog_14_method_76_code 6 (.int) q_12_set Z n C [jr Z 345, jI v1, jI v2, jI v3, jI v4] post := by
  have hn := hw0.2.2.1
  unfold wp_12_set at h
  refine jCi_of (lv0 := [(0, jr Z 345), (1, jI v1), (2, jI v2), (3, jI v3), (4, jI v4)]) (by decide) (Nat.le_of_ble_eq_true rfl) rfl ?_
  intro p e s m args below meth c A sz X hAe hr hlocks
  have jb45 : ∀ (s0 : Int) (v1 : Int) (v2 : Int) (v3 : Int) (v4 : Int) (C : jC) (rs0 : jRng s0) (rv1 : jRng v1) (rv2 : jRng v2) (rv3 : jRng v3) (rv4 : jRng v4) (hw : jWF n C), wp_12_set_45 s0 v1 v2 v3 v4 C post → jG p l e q_12_set s m args below meth c 6 Z A (jws Z n C) 0 0 (MQ below (jQi Z n sz post) args s q_12_set.cells q_12_set.slots (jA Z n sz)) 45 [(0, jr Z 345), (1, jI v1), (2, jI v2), (3, jI v3), (4, jI v4)] [jI s0, jr Z 345] := by
    intro s0 v1 v2 v3 v4 C rs0 rv1 rv2 rv3 rv4 hw h
    unfold wp_12_set_45 at h
    refine jg_iconst (pc := 45) X d_12_set_45 ?_
    refine jg_callVi (pc := 46) X (m_12_throwsIf rs0 (⟨by decide, by decide⟩ : jRng 3) hw h) jM_12_throwsIf kw_1697 (jl_345_12 hn) rfl rfl rfl rfl rfl (Nat.le_of_ble_eq_true rfl) d_12_set_46 ⟨(Nat.le_of_ble_eq_true rfl), (Nat.le_of_ble_eq_true rfl)⟩ ⟨(Nat.le_of_ble_eq_true rfl), (Nat.le_of_ble_eq_true rfl)⟩ (fun x1 C2 r3 w4 h => ?_)
    refine jg_if_eq (tgt := 54) (pc := 49) X d_12_set_49 (by decide) r3 h (fun c5 h => ?_) (fun c5 h => ?_)
    · refine jg_aload_n (pc := 54) X d_12_set_54 0 rfl ?_
      refine jg_iload_n (pc := 55) X d_12_set_55 1 rfl ?_
      refine jg_pcallSi (pc := 56) X (m_12_listOf rv1 w4 h) jM_12_listOf kw_1686 rfl rfl (Nat.le_of_ble_eq_true rfl) d_12_set_56 ⟨(Nat.le_of_ble_eq_true rfl), (Nat.le_of_ble_eq_true rfl)⟩ ⟨(Nat.le_of_ble_eq_true rfl), (Nat.le_of_ble_eq_true rfl)⟩ (fun x6 r8 h => ?_)
      refine jg_iload_n (pc := 59) X d_12_set_59 2 rfl ?_
      refine jg_pcallVi (pc := 60) X (m_12_keyAt r8 rv2 w4 h) jM_12_keyAt kw_1766 (jl_345_12 hn) rfl rfl rfl rfl rfl (Nat.le_of_ble_eq_true rfl) d_12_set_60 ⟨(Nat.le_of_ble_eq_true rfl), (Nat.le_of_ble_eq_true rfl)⟩ ⟨(Nat.le_of_ble_eq_true rfl), (Nat.le_of_ble_eq_true rfl)⟩ (fun x10 r12 h => ?_)
      refine jg_istore (pc := 63) X [(5, jI x10), (0, jr Z 345), (1, jI v1), (2, jI v2), (3, jI v3), (4, jI v4)] d_12_set_63 (by decide) rfl ?_
      refine jg_aload_n (pc := 65) X d_12_set_65 1 rfl ?_
      refine jgf_12_14 (pc := 66) X (jl_345_12 hn) kw_1487 d_12_set_66 ?_
      refine jg_iconst (pc := 69) X d_12_set_69 ?_
      refine jg_iconst (pc := 70) X d_12_set_70 ?_
      refine jg_iastore (len := 241) (pc := 71) X d_12_set_71 (jl_352_1241 hn) (fun _ => rfl) (by decide) (by decide) (by decide) ?_
      have w16 := jWF.u (k := 0) (v := 0) w4 (jl_352_1241 hn) (by decide) (⟨by decide, by decide⟩ : jRng 0)
      refine jg_aload_n (pc := 72) X d_12_set_72 1 rfl ?_
      refine jg_iload_n (pc := 73) X d_12_set_73 2 rfl ?_
      refine jg_iload (pc := 74) X d_12_set_74 0 rfl ?_
      refine jg_iload_n (pc := 76) X d_12_set_76 4 rfl ?_
      refine jg_iload (pc := 77) X d_12_set_77 5 rfl ?_
      refine jg_callVv (pc := 79) X (m_12_alters rv1 r12 rv3 rv4 w16 h) jM_12_alters kw_1811 (jl_345_12 hn) rfl rfl rfl rfl rfl (Nat.le_of_ble_eq_true rfl) d_12_set_79 ⟨(Nat.le_of_ble_eq_true rfl), (Nat.le_of_ble_eq_true rfl)⟩ ⟨(Nat.le_of_ble_eq_true rfl), (Nat.le_of_ble_eq_true rfl)⟩ (fun C18 w20 h => ?_)
      refine jg_aload_n (pc := 82) X d_12_set_82 1 rfl ?_
      refine jg_iload_n (pc := 83) X d_12_set_83 2 rfl ?_
      refine jg_callVi (pc := 84) X (m_12_isEdit rv1 w20 h) jM_12_isEdit kw_1820 (jl_345_12 hn) rfl rfl rfl rfl rfl (Nat.le_of_ble_eq_true rfl) d_12_set_84 ⟨(Nat.le_of_ble_eq_true rfl), (Nat.le_of_ble_eq_true rfl)⟩ ⟨(Nat.le_of_ble_eq_true rfl), (Nat.le_of_ble_eq_true rfl)⟩ (fun x21 C22 r23 w24 h => ?_)
      refine jg_pop (pc := 87) X d_12_set_87 rfl ?_
      refine jg_iload (pc := 88) X d_12_set_88 0 rfl ?_
      exact jg_ireturn (pc := 90) X hAe hlocks hr d_12_set_90 ⟨(Nat.le_of_ble_eq_true rfl), (Nat.le_of_ble_eq_true rfl)⟩ rfl r12 w24 h
    · refine jg_iconst (pc := 52) X d_12_set_52 ?_
      exact jg_ireturn (pc := 53) X hAe hlocks hr d_12_set_53 ⟨(Nat.le_of_ble_eq_true rfl), (Nat.le_of_ble_eq_true rfl)⟩ rfl (⟨by decide, by decide⟩ : jRng 0) w4 h
  refine jg_aload_n (pc := 0) X d_12_set_0 0 rfl ?_
  refine jg_iconst (pc := 1) X d_12_set_1 ?_
  refine jgp_12_0 (pc := 2) X (jl_345_12 hn) kw_1473 d_12_set_2 ?_
  have w25 := jWF.u (k := 0) (v := 0) hw0 (jl_345_12 hn) (by decide) (⟨by decide, by decide⟩ : jRng 0)
  refine jg_aload_n (pc := 5) X d_12_set_5 0 rfl ?_
  refine jg_iload_n (pc := 6) X d_12_set_6 1 rfl ?_
  refine jg_iload_n (pc := 7) X d_12_set_7 2 rfl ?_
  refine jg_iload_n (pc := 8) X d_12_set_8 3 rfl ?_
  refine jg_callVi (pc := 9) X (m_12_noCell rv1 rv2 rv3 w25 h) jM_12_noCell kw_1790 (jl_345_12 hn) rfl rfl rfl rfl rfl (Nat.le_of_ble_eq_true rfl) d_12_set_9 ⟨(Nat.le_of_ble_eq_true rfl), (Nat.le_of_ble_eq_true rfl)⟩ ⟨(Nat.le_of_ble_eq_true rfl), (Nat.le_of_ble_eq_true rfl)⟩ (fun x26 C27 r28 w29 h => ?_)
  refine jg_if_ne (tgt := 52) (pc := 12) X d_12_set_12 (by decide) r28 h (fun c30 h => ?_) (fun c30 h => ?_)
  · refine jg_aload_n (pc := 15) X d_12_set_15 0 rfl ?_
    refine jg_aload_n (pc := 16) X d_12_set_16 0 rfl ?_
    refine jg_iload_n (pc := 17) X d_12_set_17 1 rfl ?_
    refine jg_iload_n (pc := 18) X d_12_set_18 3 rfl ?_
    refine jg_pcallVi (pc := 19) X (m_12_isHidden rv1 rv3 w29 h) jM_12_isHidden kw_1802 (jl_345_12 hn) rfl rfl rfl rfl rfl (Nat.le_of_ble_eq_true rfl) d_12_set_19 ⟨(Nat.le_of_ble_eq_true rfl), (Nat.le_of_ble_eq_true rfl)⟩ ⟨(Nat.le_of_ble_eq_true rfl), (Nat.le_of_ble_eq_true rfl)⟩ (fun x31 r33 h => ?_)
    refine jg_iconst (pc := 22) X d_12_set_22 ?_
    refine jg_callVi (pc := 23) X (m_12_throwsIf r33 (⟨by decide, by decide⟩ : jRng 2) w29 h) jM_12_throwsIf kw_1697 (jl_345_12 hn) rfl rfl rfl rfl rfl (Nat.le_of_ble_eq_true rfl) d_12_set_23 ⟨(Nat.le_of_ble_eq_true rfl), (Nat.le_of_ble_eq_true rfl)⟩ ⟨(Nat.le_of_ble_eq_true rfl), (Nat.le_of_ble_eq_true rfl)⟩ (fun x35 C36 r37 w38 h => ?_)
    refine jg_if_ne (tgt := 52) (pc := 26) X d_12_set_26 (by decide) r37 h (fun c39 h => ?_) (fun c39 h => ?_)
    · refine jg_aload_n (pc := 29) X d_12_set_29 0 rfl ?_
      refine jg_aload_n (pc := 30) X d_12_set_30 0 rfl ?_
      refine jg_iload_n (pc := 31) X d_12_set_31 3 rfl ?_
      refine jg_iload (pc := 32) X d_12_set_32 4 rfl ?_
      refine jg_pcallVi (pc := 34) X (m_12_isValue rv3 rv4 w38 h) jM_12_isValue kw_1806 (jl_345_12 hn) rfl rfl rfl rfl rfl (Nat.le_of_ble_eq_true rfl) d_12_set_34 ⟨(Nat.le_of_ble_eq_true rfl), (Nat.le_of_ble_eq_true rfl)⟩ ⟨(Nat.le_of_ble_eq_true rfl), (Nat.le_of_ble_eq_true rfl)⟩ (fun x40 r42 h => ?_)
      refine jg_if_ne (tgt := 44) (pc := 37) X d_12_set_37 (by decide) r42 h (fun c44 h => ?_) (fun c44 h => ?_)
      · refine jg_iconst (pc := 40) X d_12_set_40 ?_
        refine jg_goto (tgt := 45) (pc := 41) X d_12_set_41 (by decide) ?_
        refine jg_sub [0, 1, 2, 3, 4] rfl ?_
        exact jb45 _ _ _ _ _ _ (⟨by decide, by decide⟩ : jRng 1) rv1 rv2 rv3 rv4 w38 h
      · refine jg_iconst (pc := 44) X d_12_set_44 ?_
        refine jg_sub [0, 1, 2, 3, 4] rfl ?_
        exact jb45 _ _ _ _ _ _ (⟨by decide, by decide⟩ : jRng 0) rv1 rv2 rv3 rv4 w38 h
    · refine jg_iconst (pc := 52) X d_12_set_52 ?_
      exact jg_ireturn (pc := 53) X hAe hlocks hr d_12_set_53 ⟨(Nat.le_of_ble_eq_true rfl), (Nat.le_of_ble_eq_true rfl)⟩ rfl (⟨by decide, by decide⟩ : jRng 0) w38 h
  · refine jg_iconst (pc := 52) X d_12_set_52 ?_
    exact jg_ireturn (pc := 53) X hAe hlocks hr d_12_set_53 ⟨(Nat.le_of_ble_eq_true rfl), (Nat.le_of_ble_eq_true rfl)⟩ rfl (⟨by decide, by decide⟩ : jRng 0) w29 h
set_option maxHeartbeats 4000000 in
set_option maxRecDepth 100000 in
theorem m_12_clear {l : Launch} {Z : jE} {n : Nat} {C : jC} {v1 : Int} {v2 : Int} {v3 : Int} {post : Int → jC → Prop} (rv1 : jRng v1) (rv2 : jRng v2) (rv3 : jRng v3) (hw0 : jWF n C) (h : wp_12_clear v1 v2 v3 C post) : jCi l y_12_clear prog_14_method_77_code 5 (.int) q_12_clear Z n C [jr Z 345, jI v1, jI v2, jI v3] post := by
  have hn := hw0.2.2.1
  unfold wp_12_clear at h
  refine jCi_of (lv0 := [(0, jr Z 345), (1, jI v1), (2, jI v2), (3, jI v3)]) (by decide) (Nat.le_of_ble_eq_true rfl) rfl ?_
  intro p e s m args below meth c A sz X hAe hr hlocks
  refine jg_aload_n (pc := 0) X d_12_clear_0 0 rfl ?_
  refine jg_iconst (pc := 1) X d_12_clear_1 ?_
  refine jgp_12_0 (pc := 2) X (jl_345_12 hn) kw_1473 d_12_clear_2 ?_
  have w1 := jWF.u (k := 0) (v := 0) hw0 (jl_345_12 hn) (by decide) (⟨by decide, by decide⟩ : jRng 0)
  refine jg_aload_n (pc := 5) X d_12_clear_5 0 rfl ?_
  refine jg_iload_n (pc := 6) X d_12_clear_6 1 rfl ?_
  refine jg_iload_n (pc := 7) X d_12_clear_7 2 rfl ?_
  refine jg_iload_n (pc := 8) X d_12_clear_8 3 rfl ?_
  refine jg_callVi (pc := 9) X (m_12_noCell rv1 rv2 rv3 w1 h) jM_12_noCell kw_1790 (jl_345_12 hn) rfl rfl rfl rfl rfl (Nat.le_of_ble_eq_true rfl) d_12_clear_9 ⟨(Nat.le_of_ble_eq_true rfl), (Nat.le_of_ble_eq_true rfl)⟩ ⟨(Nat.le_of_ble_eq_true rfl), (Nat.le_of_ble_eq_true rfl)⟩ (fun x2 C3 r4 w5 h => ?_)
  refine jg_if_ne (tgt := 29) (pc := 12) X d_12_clear_12 (by decide) r4 h (fun c6 h => ?_) (fun c6 h => ?_)
  · refine jg_aload_n (pc := 15) X d_12_clear_15 0 rfl ?_
    refine jg_aload_n (pc := 16) X d_12_clear_16 0 rfl ?_
    refine jg_iload_n (pc := 17) X d_12_clear_17 1 rfl ?_
    refine jg_iload_n (pc := 18) X d_12_clear_18 3 rfl ?_
    refine jg_pcallVi (pc := 19) X (m_12_isHidden rv1 rv3 w5 h) jM_12_isHidden kw_1802 (jl_345_12 hn) rfl rfl rfl rfl rfl (Nat.le_of_ble_eq_true rfl) d_12_clear_19 ⟨(Nat.le_of_ble_eq_true rfl), (Nat.le_of_ble_eq_true rfl)⟩ ⟨(Nat.le_of_ble_eq_true rfl), (Nat.le_of_ble_eq_true rfl)⟩ (fun x7 r9 h => ?_)
    refine jg_iconst (pc := 22) X d_12_clear_22 ?_
    refine jg_callVi (pc := 23) X (m_12_throwsIf r9 (⟨by decide, by decide⟩ : jRng 2) w5 h) jM_12_throwsIf kw_1697 (jl_345_12 hn) rfl rfl rfl rfl rfl (Nat.le_of_ble_eq_true rfl) d_12_clear_23 ⟨(Nat.le_of_ble_eq_true rfl), (Nat.le_of_ble_eq_true rfl)⟩ ⟨(Nat.le_of_ble_eq_true rfl), (Nat.le_of_ble_eq_true rfl)⟩ (fun x11 C12 r13 w14 h => ?_)
    refine jg_if_eq (tgt := 31) (pc := 26) X d_12_clear_26 (by decide) r13 h (fun c15 h => ?_) (fun c15 h => ?_)
    · refine jg_aload_n (pc := 31) X d_12_clear_31 0 rfl ?_
      refine jg_iload_n (pc := 32) X d_12_clear_32 1 rfl ?_
      refine jg_pcallSi (pc := 33) X (m_12_listOf rv1 w14 h) jM_12_listOf kw_1686 rfl rfl (Nat.le_of_ble_eq_true rfl) d_12_clear_33 ⟨(Nat.le_of_ble_eq_true rfl), (Nat.le_of_ble_eq_true rfl)⟩ ⟨(Nat.le_of_ble_eq_true rfl), (Nat.le_of_ble_eq_true rfl)⟩ (fun x16 r18 h => ?_)
      refine jg_iload_n (pc := 36) X d_12_clear_36 2 rfl ?_
      refine jg_pcallVi (pc := 37) X (m_12_keyAt r18 rv2 w14 h) jM_12_keyAt kw_1766 (jl_345_12 hn) rfl rfl rfl rfl rfl (Nat.le_of_ble_eq_true rfl) d_12_clear_37 ⟨(Nat.le_of_ble_eq_true rfl), (Nat.le_of_ble_eq_true rfl)⟩ ⟨(Nat.le_of_ble_eq_true rfl), (Nat.le_of_ble_eq_true rfl)⟩ (fun x20 r22 h => ?_)
      refine jg_istore (pc := 40) X [(4, jI x20), (0, jr Z 345), (1, jI v1), (2, jI v2), (3, jI v3)] d_12_clear_40 (by decide) rfl ?_
      refine jg_aload_n (pc := 42) X d_12_clear_42 1 rfl ?_
      refine jgf_12_14 (pc := 43) X (jl_345_12 hn) kw_1487 d_12_clear_43 ?_
      refine jg_iconst (pc := 46) X d_12_clear_46 ?_
      refine jg_iconst (pc := 47) X d_12_clear_47 ?_
      refine jg_iastore (len := 241) (pc := 48) X d_12_clear_48 (jl_352_1241 hn) (fun _ => rfl) (by decide) (by decide) (by decide) ?_
      have w26 := jWF.u (k := 0) (v := 0) w14 (jl_352_1241 hn) (by decide) (⟨by decide, by decide⟩ : jRng 0)
      refine jg_aload_n (pc := 49) X d_12_clear_49 1 rfl ?_
      refine jg_iload_n (pc := 50) X d_12_clear_50 2 rfl ?_
      refine jg_iload (pc := 51) X d_12_clear_51 0 rfl ?_
      refine jg_iload_n (pc := 53) X d_12_clear_53 4 rfl ?_
      refine jg_ldk (pc := 54) (-1000000) X kw_1617 (by decide) d_12_clear_54 ?_
      refine jg_callVv (pc := 56) X (m_12_alters rv1 r22 rv3 (⟨by decide, by decide⟩ : jRng (-1000000)) w26 h) jM_12_alters kw_1811 (jl_345_12 hn) rfl rfl rfl rfl rfl (Nat.le_of_ble_eq_true rfl) d_12_clear_56 ⟨(Nat.le_of_ble_eq_true rfl), (Nat.le_of_ble_eq_true rfl)⟩ ⟨(Nat.le_of_ble_eq_true rfl), (Nat.le_of_ble_eq_true rfl)⟩ (fun C28 w30 h => ?_)
      refine jg_aload_n (pc := 59) X d_12_clear_59 1 rfl ?_
      refine jg_iload_n (pc := 60) X d_12_clear_60 2 rfl ?_
      refine jg_callVi (pc := 61) X (m_12_isEdit rv1 w30 h) jM_12_isEdit kw_1820 (jl_345_12 hn) rfl rfl rfl rfl rfl (Nat.le_of_ble_eq_true rfl) d_12_clear_61 ⟨(Nat.le_of_ble_eq_true rfl), (Nat.le_of_ble_eq_true rfl)⟩ ⟨(Nat.le_of_ble_eq_true rfl), (Nat.le_of_ble_eq_true rfl)⟩ (fun x31 C32 r33 w34 h => ?_)
      refine jg_pop (pc := 64) X d_12_clear_64 rfl ?_
      refine jg_iload (pc := 65) X d_12_clear_65 0 rfl ?_
      exact jg_ireturn (pc := 67) X hAe hlocks hr d_12_clear_67 ⟨(Nat.le_of_ble_eq_true rfl), (Nat.le_of_ble_eq_true rfl)⟩ rfl r22 w34 h
    · refine jg_iconst (pc := 29) X d_12_clear_29 ?_
      exact jg_ireturn (pc := 30) X hAe hlocks hr d_12_clear_30 ⟨(Nat.le_of_ble_eq_true rfl), (Nat.le_of_ble_eq_true rfl)⟩ rfl (⟨by decide, by decide⟩ : jRng 0) w14 h
  · refine jg_iconst (pc := 29) X d_12_clear_29 ?_
    exact jg_ireturn (pc := 30) X hAe hlocks hr d_12_clear_30 ⟨(Nat.le_of_ble_eq_true rfl), (Nat.le_of_ble_eq_true rfl)⟩ rfl (⟨by decide, by decide⟩ : jRng 0) w5 h
set_option maxHeartbeats 4000000 in
set_option maxRecDepth 100000 in
theorem m_12_fill {l : Launch} {Z : jE} {n : Nat} {C : jC} {v1 : Int} {v2 : Int} {v3 : Int} {v4 : Int} {post : Int → jC → Prop} (rv1 : jRng v1) (rv2 : jRng v2) (rv3 : jRng v3) (rv4 : jRng v4) (hw0 : jWF n C) (h : wp_12_fill v1 v2 v3 v4 C post) : jCi l y_12_fill prog_14_method_78_code 7 (.int) q_12_fill Z n C [jr Z 345, jI v1, jI v2, jI v3, jI v4] post := by
  have hn := hw0.2.2.1
  unfold wp_12_fill at h
  refine jCi_of (lv0 := [(0, jr Z 345), (1, jI v1), (2, jI v2), (3, jI v3), (4, jI v4)]) (by decide) (Nat.le_of_ble_eq_true rfl) rfl ?_
  intro p e s m args below meth c A sz X hAe hr hlocks
  have jb41 : ∀ (s0 : Int) (v1 : Int) (v2 : Int) (v3 : Int) (v4 : Int) (C : jC) (rs0 : jRng s0) (rv1 : jRng v1) (rv2 : jRng v2) (rv3 : jRng v3) (rv4 : jRng v4) (hw : jWF n C), wp_12_fill_41 s0 v1 v2 v3 v4 C post → jG p l e q_12_fill s m args below meth c 7 Z A (jws Z n C) 0 0 (MQ below (jQi Z n sz post) args s q_12_fill.cells q_12_fill.slots (jA Z n sz)) 41 [(0, jr Z 345), (1, jI v1), (2, jI v2), (3, jI v3), (4, jI v4)] [jI s0, jr Z 345] := by
    intro s0 v1 v2 v3 v4 C rs0 rv1 rv2 rv3 rv4 hw h
    unfold wp_12_fill_41 at h
    refine jg_iconst (pc := 41) X d_12_fill_41 ?_
    refine jg_callVi (pc := 42) X (m_12_throwsIf rs0 (⟨by decide, by decide⟩ : jRng 2) hw h) jM_12_throwsIf kw_1697 (jl_345_12 hn) rfl rfl rfl rfl rfl (Nat.le_of_ble_eq_true rfl) d_12_fill_42 ⟨(Nat.le_of_ble_eq_true rfl), (Nat.le_of_ble_eq_true rfl)⟩ ⟨(Nat.le_of_ble_eq_true rfl), (Nat.le_of_ble_eq_true rfl)⟩ (fun x1 C2 r3 w4 h => ?_)
    refine jg_if_ne (tgt := 63) (pc := 45) X d_12_fill_45 (by decide) r3 h (fun c5 h => ?_) (fun c5 h => ?_)
    · refine jg_aload_n (pc := 48) X d_12_fill_48 0 rfl ?_
      refine jg_aload_n (pc := 49) X d_12_fill_49 0 rfl ?_
      refine jg_iload_n (pc := 50) X d_12_fill_50 1 rfl ?_
      refine jg_iload (pc := 51) X d_12_fill_51 4 rfl ?_
      refine jg_pcallVi (pc := 53) X (m_12_isHidden rv1 rv4 w4 h) jM_12_isHidden kw_1802 (jl_345_12 hn) rfl rfl rfl rfl rfl (Nat.le_of_ble_eq_true rfl) d_12_fill_53 ⟨(Nat.le_of_ble_eq_true rfl), (Nat.le_of_ble_eq_true rfl)⟩ ⟨(Nat.le_of_ble_eq_true rfl), (Nat.le_of_ble_eq_true rfl)⟩ (fun x6 r8 h => ?_)
      refine jg_iconst (pc := 56) X d_12_fill_56 ?_
      refine jg_callVi (pc := 57) X (m_12_throwsIf r8 (⟨by decide, by decide⟩ : jRng 3) w4 h) jM_12_throwsIf kw_1697 (jl_345_12 hn) rfl rfl rfl rfl rfl (Nat.le_of_ble_eq_true rfl) d_12_fill_57 ⟨(Nat.le_of_ble_eq_true rfl), (Nat.le_of_ble_eq_true rfl)⟩ ⟨(Nat.le_of_ble_eq_true rfl), (Nat.le_of_ble_eq_true rfl)⟩ (fun x10 C11 r12 w13 h => ?_)
      refine jg_if_eq (tgt := 65) (pc := 60) X d_12_fill_60 (by decide) r12 h (fun c14 h => ?_) (fun c14 h => ?_)
      · refine jg_aload_n (pc := 65) X d_12_fill_65 0 rfl ?_
        refine jgf_12_14 (pc := 66) X (jl_345_12 hn) kw_1487 d_12_fill_66 ?_
        refine jg_iconst (pc := 69) X d_12_fill_69 ?_
        refine jg_iconst (pc := 70) X d_12_fill_70 ?_
        refine jg_iastore (len := 241) (pc := 71) X d_12_fill_71 (jl_352_1241 hn) (fun _ => rfl) (by decide) (by decide) (by decide) ?_
        have w17 := jWF.u (k := 0) (v := 0) w13 (jl_352_1241 hn) (by decide) (⟨by decide, by decide⟩ : jRng 0)
        refine jg_aload_n (pc := 72) X d_12_fill_72 0 rfl ?_
        refine jg_aload_n (pc := 73) X d_12_fill_73 0 rfl ?_
        refine jg_iload_n (pc := 74) X d_12_fill_74 1 rfl ?_
        refine jg_pcallSi (pc := 75) X (m_12_listOf rv1 w17 h) jM_12_listOf kw_1686 rfl rfl (Nat.le_of_ble_eq_true rfl) d_12_fill_75 ⟨(Nat.le_of_ble_eq_true rfl), (Nat.le_of_ble_eq_true rfl)⟩ ⟨(Nat.le_of_ble_eq_true rfl), (Nat.le_of_ble_eq_true rfl)⟩ (fun x18 r20 h => ?_)
        refine jg_iload_n (pc := 78) X d_12_fill_78 2 rfl ?_
        refine jg_pcallVi (pc := 79) X (m_12_keyAt r20 rv2 w17 h) jM_12_keyAt kw_1766 (jl_345_12 hn) rfl rfl rfl rfl rfl (Nat.le_of_ble_eq_true rfl) d_12_fill_79 ⟨(Nat.le_of_ble_eq_true rfl), (Nat.le_of_ble_eq_true rfl)⟩ ⟨(Nat.le_of_ble_eq_true rfl), (Nat.le_of_ble_eq_true rfl)⟩ (fun x22 r24 h => ?_)
        refine jg_iload (pc := 82) X d_12_fill_82 4 rfl ?_
        refine jg_pcallVi (pc := 84) X (m_12_cellOf r24 rv4 w17 h) jM_12_cellOf kw_1671 (jl_345_12 hn) rfl rfl rfl rfl rfl (Nat.le_of_ble_eq_true rfl) d_12_fill_84 ⟨(Nat.le_of_ble_eq_true rfl), (Nat.le_of_ble_eq_true rfl)⟩ ⟨(Nat.le_of_ble_eq_true rfl), (Nat.le_of_ble_eq_true rfl)⟩ (fun x26 r28 h => ?_)
        refine jg_istore (pc := 87) X [(5, jI x26), (0, jr Z 345), (1, jI v1), (2, jI v2), (3, jI v3), (4, jI v4)] d_12_fill_87 (by decide) rfl ?_
        refine jg_iload_n (pc := 89) X d_12_fill_89 3 rfl ?_
        refine jg_iconst (pc := 90) X d_12_fill_90 ?_
        refine jg_iadd (pc := 91) X d_12_fill_91 ?_
        refine jg_istore (pc := 92) X [(6, jI (v2 + 1)), (5, jI x26), (0, jr Z 345), (1, jI v1), (2, jI v2), (3, jI v3), (4, jI v4)] d_12_fill_92 (by decide) rfl ?_
        obtain ⟨r30, h⟩ := h
        have jl94 : ∀ (v5 : Int) (rv5 : jRng v5) (N : Nat) (v6 : Int) (C : jC) (rv6 : jRng v6) (hw : jWF n C), jI2 (wp_12_fill_94 v1 v3 v4 v5 post) N v6 C → jG p l e q_12_fill s m args below meth c 7 Z A (jws Z n C) 0 0 (MQ below (jQi Z n sz post) args s q_12_fill.cells q_12_fill.slots (jA Z n sz)) 94 [(0, jr Z 345), (1, jI v1), (3, jI v3), (4, jI v4), (5, jI v5), (6, jI v6)] [] := by
          intro v5 rv5 N
          have hn := hw0.2.2.1
          induction N with
          | zero => intro v6 C rv6 hw h; exact h.elim
          | succ N ih94 =>
            intro v6 C rv6 hw h
            have h : wp_12_fill_94 v1 v3 v4 v5 post (jI2 (wp_12_fill_94 v1 v3 v4 v5 post) N) v6 C := h
            generalize jI2 (wp_12_fill_94 v1 v3 v4 v5 post) N = k94 at h ih94
            unfold wp_12_fill_94 at h
            refine jg_iload (pc := 94) X d_12_fill_94 5 rfl ?_
            refine jg_iload_n (pc := 96) X d_12_fill_96 2 rfl ?_
            refine jg_icmp_gt (tgt := 125) (pc := 97) X d_12_fill_97 (by decide) rv6 rv3 h (fun c31 h => ?_) (fun c31 h => ?_)
            · refine jg_aload_n (pc := 125) X d_12_fill_125 0 rfl ?_
              refine jg_iload_n (pc := 126) X d_12_fill_126 1 rfl ?_
              refine jg_callVi (pc := 127) X (m_12_isEdit rv1 hw h) jM_12_isEdit kw_1820 (jl_345_12 hn) rfl rfl rfl rfl rfl (Nat.le_of_ble_eq_true rfl) d_12_fill_127 ⟨(Nat.le_of_ble_eq_true rfl), (Nat.le_of_ble_eq_true rfl)⟩ ⟨(Nat.le_of_ble_eq_true rfl), (Nat.le_of_ble_eq_true rfl)⟩ (fun x32 C33 r34 w35 h => ?_)
              exact jg_ireturn (pc := 130) X hAe hlocks hr d_12_fill_130 ⟨(Nat.le_of_ble_eq_true rfl), (Nat.le_of_ble_eq_true rfl)⟩ rfl r34 w35 h
            · refine jg_aload_n (pc := 100) X d_12_fill_100 0 rfl ?_
              refine jg_iload_n (pc := 101) X d_12_fill_101 1 rfl ?_
              refine jg_aload_n (pc := 102) X d_12_fill_102 0 rfl ?_
              refine jg_iload_n (pc := 103) X d_12_fill_103 1 rfl ?_
              refine jg_pcallSi (pc := 104) X (m_12_listOf rv1 hw h) jM_12_listOf kw_1686 rfl rfl (Nat.le_of_ble_eq_true rfl) d_12_fill_104 ⟨(Nat.le_of_ble_eq_true rfl), (Nat.le_of_ble_eq_true rfl)⟩ ⟨(Nat.le_of_ble_eq_true rfl), (Nat.le_of_ble_eq_true rfl)⟩ (fun x36 r38 h => ?_)
              refine jg_iload (pc := 107) X d_12_fill_107 5 rfl ?_
              refine jg_pcallVi (pc := 109) X (m_12_keyAt r38 rv6 hw h) jM_12_keyAt kw_1766 (jl_345_12 hn) rfl rfl rfl rfl rfl (Nat.le_of_ble_eq_true rfl) d_12_fill_109 ⟨(Nat.le_of_ble_eq_true rfl), (Nat.le_of_ble_eq_true rfl)⟩ ⟨(Nat.le_of_ble_eq_true rfl), (Nat.le_of_ble_eq_true rfl)⟩ (fun x40 r42 h => ?_)
              refine jg_iload (pc := 112) X d_12_fill_112 3 rfl ?_
              refine jg_iload (pc := 114) X d_12_fill_114 4 rfl ?_
              refine jg_callVv (pc := 116) X (m_12_alters rv1 r42 rv4 rv5 hw h) jM_12_alters kw_1811 (jl_345_12 hn) rfl rfl rfl rfl rfl (Nat.le_of_ble_eq_true rfl) d_12_fill_116 ⟨(Nat.le_of_ble_eq_true rfl), (Nat.le_of_ble_eq_true rfl)⟩ ⟨(Nat.le_of_ble_eq_true rfl), (Nat.le_of_ble_eq_true rfl)⟩ (fun C45 w47 h => ?_)
              refine jg_iinc (pc := 119) X [(6, jI (v6 + 1)), (0, jr Z 345), (1, jI v1), (3, jI v3), (4, jI v4), (5, jI v5)] d_12_fill_119 5 rfl (by decide) rfl ?_
              refine jg_goto (tgt := 94) (pc := 122) X d_12_fill_122 (by decide) ?_
              obtain ⟨r48, h⟩ := h
              refine jg_sub [1, 2, 3, 4, 5, 0] rfl ?_
              exact ih94 _ _ r48 w47 h
        obtain ⟨N, h⟩ := h
        refine jg_sub [2, 3, 5, 6, 1, 0] rfl ?_
        exact jl94 _ r28 N _ _ r30 w17 h
      · refine jg_iconst (pc := 63) X d_12_fill_63 ?_
        exact jg_ireturn (pc := 64) X hAe hlocks hr d_12_fill_64 ⟨(Nat.le_of_ble_eq_true rfl), (Nat.le_of_ble_eq_true rfl)⟩ rfl (⟨by decide, by decide⟩ : jRng 0) w13 h
    · refine jg_iconst (pc := 63) X d_12_fill_63 ?_
      exact jg_ireturn (pc := 64) X hAe hlocks hr d_12_fill_64 ⟨(Nat.le_of_ble_eq_true rfl), (Nat.le_of_ble_eq_true rfl)⟩ rfl (⟨by decide, by decide⟩ : jRng 0) w4 h
  refine jg_aload_n (pc := 0) X d_12_fill_0 0 rfl ?_
  refine jg_iconst (pc := 1) X d_12_fill_1 ?_
  refine jgp_12_0 (pc := 2) X (jl_345_12 hn) kw_1473 d_12_fill_2 ?_
  have w49 := jWF.u (k := 0) (v := 0) hw0 (jl_345_12 hn) (by decide) (⟨by decide, by decide⟩ : jRng 0)
  refine jg_aload_n (pc := 5) X d_12_fill_5 0 rfl ?_
  refine jg_iload_n (pc := 6) X d_12_fill_6 1 rfl ?_
  refine jg_iload_n (pc := 7) X d_12_fill_7 2 rfl ?_
  refine jg_iload (pc := 8) X d_12_fill_8 4 rfl ?_
  refine jg_callVi (pc := 10) X (m_12_noCell rv1 rv2 rv4 w49 h) jM_12_noCell kw_1790 (jl_345_12 hn) rfl rfl rfl rfl rfl (Nat.le_of_ble_eq_true rfl) d_12_fill_10 ⟨(Nat.le_of_ble_eq_true rfl), (Nat.le_of_ble_eq_true rfl)⟩ ⟨(Nat.le_of_ble_eq_true rfl), (Nat.le_of_ble_eq_true rfl)⟩ (fun x50 C51 r52 w53 h => ?_)
  refine jg_if_ne (tgt := 63) (pc := 13) X d_12_fill_13 (by decide) r52 h (fun c54 h => ?_) (fun c54 h => ?_)
  · refine jg_aload_n (pc := 16) X d_12_fill_16 0 rfl ?_
    refine jg_aload_n (pc := 17) X d_12_fill_17 0 rfl ?_
    refine jg_iload_n (pc := 18) X d_12_fill_18 1 rfl ?_
    refine jg_iload_n (pc := 19) X d_12_fill_19 3 rfl ?_
    refine jg_pcallVi (pc := 20) X (m_12_noPlace rv1 rv3 w53 h) jM_12_noPlace kw_1794 (jl_345_12 hn) rfl rfl rfl rfl rfl (Nat.le_of_ble_eq_true rfl) d_12_fill_20 ⟨(Nat.le_of_ble_eq_true rfl), (Nat.le_of_ble_eq_true rfl)⟩ ⟨(Nat.le_of_ble_eq_true rfl), (Nat.le_of_ble_eq_true rfl)⟩ (fun x55 r57 h => ?_)
    refine jg_iconst (pc := 23) X d_12_fill_23 ?_
    refine jg_callVi (pc := 24) X (m_12_throwsIf r57 (⟨by decide, by decide⟩ : jRng 1) w53 h) jM_12_throwsIf kw_1697 (jl_345_12 hn) rfl rfl rfl rfl rfl (Nat.le_of_ble_eq_true rfl) d_12_fill_24 ⟨(Nat.le_of_ble_eq_true rfl), (Nat.le_of_ble_eq_true rfl)⟩ ⟨(Nat.le_of_ble_eq_true rfl), (Nat.le_of_ble_eq_true rfl)⟩ (fun x59 C60 r61 w62 h => ?_)
    refine jg_if_ne (tgt := 63) (pc := 27) X d_12_fill_27 (by decide) r61 h (fun c63 h => ?_) (fun c63 h => ?_)
    · refine jg_aload_n (pc := 30) X d_12_fill_30 0 rfl ?_
      refine jg_iload_n (pc := 31) X d_12_fill_31 3 rfl ?_
      refine jg_iload_n (pc := 32) X d_12_fill_32 2 rfl ?_
      refine jg_icmp_ge (tgt := 40) (pc := 33) X d_12_fill_33 (by decide) rv3 rv2 h (fun c64 h => ?_) (fun c64 h => ?_)
      · refine jg_iconst (pc := 40) X d_12_fill_40 ?_
        refine jg_sub [0, 1, 2, 3, 4] rfl ?_
        exact jb41 _ _ _ _ _ _ (⟨by decide, by decide⟩ : jRng 0) rv1 rv2 rv3 rv4 w62 h
      · refine jg_iconst (pc := 36) X d_12_fill_36 ?_
        refine jg_goto (tgt := 41) (pc := 37) X d_12_fill_37 (by decide) ?_
        refine jg_sub [0, 1, 2, 3, 4] rfl ?_
        exact jb41 _ _ _ _ _ _ (⟨by decide, by decide⟩ : jRng 1) rv1 rv2 rv3 rv4 w62 h
    · refine jg_iconst (pc := 63) X d_12_fill_63 ?_
      exact jg_ireturn (pc := 64) X hAe hlocks hr d_12_fill_64 ⟨(Nat.le_of_ble_eq_true rfl), (Nat.le_of_ble_eq_true rfl)⟩ rfl (⟨by decide, by decide⟩ : jRng 0) w62 h
  · refine jg_iconst (pc := 63) X d_12_fill_63 ?_
    exact jg_ireturn (pc := 64) X hAe hlocks hr d_12_fill_64 ⟨(Nat.le_of_ble_eq_true rfl), (Nat.le_of_ble_eq_true rfl)⟩ rfl (⟨by decide, by decide⟩ : jRng 0) w53 h
set_option maxHeartbeats 4000000 in
set_option maxRecDepth 100000 in
theorem m_12_isNone {l : Launch} {Z : jE} {n : Nat} {C : jC} {v1 : Int} {v2 : Int} {post : Int → Prop} (rv1 : jRng v1) (rv2 : jRng v2) (hw0 : jWF n C) (h : wp_12_isNone v1 v2 C post) : jCi l y_12_isNone prog_14_method_79_code 3 (.boolean) q_12_isNone Z n C [jr Z 345, jI v1, jI v2] (fun x C9 => C9 = C ∧ post x) := by
  have hn := hw0.2.2.1
  unfold wp_12_isNone at h
  refine jCi_of (lv0 := [(0, jr Z 345), (1, jI v1), (2, jI v2)]) (by decide) (Nat.le_of_ble_eq_true rfl) rfl ?_
  intro p e s m args below meth c A sz X hAe hr hlocks
  refine jg_iload_n (pc := 0) X d_12_isNone_0 2 rfl ?_
  refine jg_ldk (pc := 1) (-1000000) X kw_1617 (by decide) d_12_isNone_1 ?_
  refine jg_icmp_eq (tgt := 19) (pc := 3) X d_12_isNone_3 (by decide) rv2 (⟨by decide, by decide⟩ : jRng (-1000000)) h (fun c1 h => ?_) (fun c1 h => ?_)
  · refine jg_iconst (pc := 19) X d_12_isNone_19 ?_
    exact jg_ireturn (pc := 20) X hAe hlocks hr d_12_isNone_20 ⟨(Nat.le_of_ble_eq_true rfl), (Nat.le_of_ble_eq_true rfl)⟩ rfl (⟨by decide, by decide⟩ : jRng 0) hw0 ⟨rfl, h⟩
  · refine jg_aload_n (pc := 6) X d_12_isNone_6 0 rfl ?_
    refine jg_iload_n (pc := 7) X d_12_isNone_7 1 rfl ?_
    refine jg_iload_n (pc := 8) X d_12_isNone_8 2 rfl ?_
    refine jg_pcallVi (pc := 9) X (m_12_isValue rv1 rv2 hw0 h) jM_12_isValue kw_1806 (jl_345_12 hn) rfl rfl rfl rfl rfl (Nat.le_of_ble_eq_true rfl) d_12_isNone_9 ⟨(Nat.le_of_ble_eq_true rfl), (Nat.le_of_ble_eq_true rfl)⟩ ⟨(Nat.le_of_ble_eq_true rfl), (Nat.le_of_ble_eq_true rfl)⟩ (fun x2 r4 h => ?_)
    refine jg_if_ne (tgt := 19) (pc := 12) X d_12_isNone_12 (by decide) r4 h (fun c6 h => ?_) (fun c6 h => ?_)
    · refine jg_iconst (pc := 15) X d_12_isNone_15 ?_
      refine jg_goto (tgt := 20) (pc := 16) X d_12_isNone_16 (by decide) ?_
      exact jg_ireturn (pc := 20) X hAe hlocks hr d_12_isNone_20 ⟨(Nat.le_of_ble_eq_true rfl), (Nat.le_of_ble_eq_true rfl)⟩ rfl (⟨by decide, by decide⟩ : jRng 1) hw0 ⟨rfl, h⟩
    · refine jg_iconst (pc := 19) X d_12_isNone_19 ?_
      exact jg_ireturn (pc := 20) X hAe hlocks hr d_12_isNone_20 ⟨(Nat.le_of_ble_eq_true rfl), (Nat.le_of_ble_eq_true rfl)⟩ rfl (⟨by decide, by decide⟩ : jRng 0) hw0 ⟨rfl, h⟩
set_option maxHeartbeats 4000000 in
set_option maxRecDepth 100000 in
theorem m_12_valueAt {l : Launch} {Z : jE} {n : Nat} {C : jC} {v1 : Int} {v2 : Int} {v3 : Int} {post : Int → Prop} (rv1 : jRng v1) (rv2 : jRng v2) (rv3 : jRng v3) (hw0 : jWF n C) (h : wp_12_valueAt v1 v2 v3 C post) : jCi l y_12_valueAt prog_14_method_114_code 4 (.int) q_12_valueAt Z n C [jr Z 345, jI v1, jI v2, jI v3] (fun x C9 => C9 = C ∧ post x) := by
  have hn := hw0.2.2.1
  unfold wp_12_valueAt at h
  refine jCi_of (lv0 := [(0, jr Z 345), (1, jI v1), (2, jI v2), (3, jI v3)]) (by decide) (Nat.le_of_ble_eq_true rfl) rfl ?_
  intro p e s m args below meth c A sz X hAe hr hlocks
  refine jg_aload_n (pc := 0) X d_12_valueAt_0 0 rfl ?_
  refine jg_aload_n (pc := 1) X d_12_valueAt_1 0 rfl ?_
  refine jg_iload_n (pc := 2) X d_12_valueAt_2 1 rfl ?_
  refine jg_pcallSi (pc := 3) X (m_12_listOf rv1 hw0 h) jM_12_listOf kw_1686 rfl rfl (Nat.le_of_ble_eq_true rfl) d_12_valueAt_3 ⟨(Nat.le_of_ble_eq_true rfl), (Nat.le_of_ble_eq_true rfl)⟩ ⟨(Nat.le_of_ble_eq_true rfl), (Nat.le_of_ble_eq_true rfl)⟩ (fun x1 r3 h => ?_)
  refine jg_iload_n (pc := 6) X d_12_valueAt_6 2 rfl ?_
  refine jg_pcallVi (pc := 7) X (m_12_keyAt r3 rv2 hw0 h) jM_12_keyAt kw_1766 (jl_345_12 hn) rfl rfl rfl rfl rfl (Nat.le_of_ble_eq_true rfl) d_12_valueAt_7 ⟨(Nat.le_of_ble_eq_true rfl), (Nat.le_of_ble_eq_true rfl)⟩ ⟨(Nat.le_of_ble_eq_true rfl), (Nat.le_of_ble_eq_true rfl)⟩ (fun x5 r7 h => ?_)
  refine jg_iload_n (pc := 10) X d_12_valueAt_10 3 rfl ?_
  refine jg_pcallVi (pc := 11) X (m_12_cellOf r7 rv3 hw0 h) jM_12_cellOf kw_1671 (jl_345_12 hn) rfl rfl rfl rfl rfl (Nat.le_of_ble_eq_true rfl) d_12_valueAt_11 ⟨(Nat.le_of_ble_eq_true rfl), (Nat.le_of_ble_eq_true rfl)⟩ ⟨(Nat.le_of_ble_eq_true rfl), (Nat.le_of_ble_eq_true rfl)⟩ (fun x9 r11 h => ?_)
  exact jg_ireturn (pc := 14) X hAe hlocks hr d_12_valueAt_14 ⟨(Nat.le_of_ble_eq_true rfl), (Nat.le_of_ble_eq_true rfl)⟩ rfl r11 hw0 ⟨rfl, h⟩
set_option maxHeartbeats 4000000 in
set_option maxRecDepth 100000 in
theorem m_12_replace {l : Launch} {Z : jE} {n : Nat} {C : jC} {v1 : Int} {v2 : Int} {v3 : Int} {v4 : Int} {post : Int → jC → Prop} (rv1 : jRng v1) (rv2 : jRng v2) (rv3 : jRng v3) (rv4 : jRng v4) (hw0 : jWF n C) (h : wp_12_replace v1 v2 v3 v4 C post) : jCi l y_12_replace prog_14_method_80_code 6 (.int) q_12_replace Z n C [jr Z 345, jI v1, jI v2, jI v3, jI v4] post := by
  have hn := hw0.2.2.1
  unfold wp_12_replace at h
  refine jCi_of (lv0 := [(0, jr Z 345), (1, jI v1), (2, jI v2), (3, jI v3), (4, jI v4)]) (by decide) (Nat.le_of_ble_eq_true rfl) rfl ?_
  intro p e s m args below meth c A sz X hAe hr hlocks
  have jb67 : ∀ (v1 : Int) (v2 : Int) (v3 : Int) (v4 : Int) (C : jC) (rv1 : jRng v1) (rv2 : jRng v2) (rv3 : jRng v3) (rv4 : jRng v4) (hw : jWF n C), wp_12_replace_67 v1 v2 v3 v4 C post → jG p l e q_12_replace s m args below meth c 6 Z A (jws Z n C) 0 0 (MQ below (jQi Z n sz post) args s q_12_replace.cells q_12_replace.slots (jA Z n sz)) 67 [(0, jr Z 345), (1, jI v1), (2, jI v2), (3, jI v3), (4, jI v4)] [jr Z 345] := by
    intro v1 v2 v3 v4 C rv1 rv2 rv3 rv4 hw h
    unfold wp_12_replace_67 at h
    refine jg_iconst (pc := 67) X d_12_replace_67 ?_
    refine jg_goto (tgt := 72) (pc := 68) X d_12_replace_68 (by decide) ?_
    refine jg_iconst (pc := 72) X d_12_replace_72 ?_
    refine jg_callVi (pc := 73) X (m_12_throwsIf (⟨by decide, by decide⟩ : jRng 1) (⟨by decide, by decide⟩ : jRng 3) hw h) jM_12_throwsIf kw_1697 (jl_345_12 hn) rfl rfl rfl rfl rfl (Nat.le_of_ble_eq_true rfl) d_12_replace_73 ⟨(Nat.le_of_ble_eq_true rfl), (Nat.le_of_ble_eq_true rfl)⟩ ⟨(Nat.le_of_ble_eq_true rfl), (Nat.le_of_ble_eq_true rfl)⟩ (fun x1 C2 r3 w4 h => ?_)
    refine jg_if_eq (tgt := 81) (pc := 76) X d_12_replace_76 (by decide) r3 h (fun c5 h => ?_) (fun c5 h => ?_)
    · refine jg_aload_n (pc := 81) X d_12_replace_81 0 rfl ?_
      refine jgf_12_14 (pc := 82) X (jl_345_12 hn) kw_1487 d_12_replace_82 ?_
      refine jg_iconst (pc := 85) X d_12_replace_85 ?_
      refine jg_iconst (pc := 86) X d_12_replace_86 ?_
      refine jg_iastore (len := 241) (pc := 87) X d_12_replace_87 (jl_352_1241 hn) (fun _ => rfl) (by decide) (by decide) (by decide) ?_
      have w8 := jWF.u (k := 0) (v := 0) w4 (jl_352_1241 hn) (by decide) (⟨by decide, by decide⟩ : jRng 0)
      refine jg_iconst (pc := 88) X d_12_replace_88 ?_
      refine jg_istore (pc := 89) X [(5, jI 0), (0, jr Z 345), (1, jI v1), (2, jI v2), (3, jI v3), (4, jI v4)] d_12_replace_89 (by decide) rfl ?_
      have jl91 : ∀  (N : Nat) (v5 : Int) (C : jC) (rv5 : jRng v5) (hw : jWF n C), jI2 (wp_12_replace_91 v1 v2 v3 v4 post) N v5 C → jG p l e q_12_replace s m args below meth c 6 Z A (jws Z n C) 0 0 (MQ below (jQi Z n sz post) args s q_12_replace.cells q_12_replace.slots (jA Z n sz)) 91 [(0, jr Z 345), (1, jI v1), (2, jI v2), (3, jI v3), (4, jI v4), (5, jI v5)] [] := by
        intro   N
        have hn := hw0.2.2.1
        induction N with
        | zero => intro v5 C rv5 hw h; exact h.elim
        | succ N ih91 =>
          intro v5 C rv5 hw h
          have h : wp_12_replace_91 v1 v2 v3 v4 post (jI2 (wp_12_replace_91 v1 v2 v3 v4 post) N) v5 C := h
          generalize jI2 (wp_12_replace_91 v1 v2 v3 v4 post) N = k91 at h ih91
          unfold wp_12_replace_91 at h
          refine jg_iload (pc := 91) X d_12_replace_91 5 rfl ?_
          refine jg_aload_n (pc := 93) X d_12_replace_93 0 rfl ?_
          refine jg_iload_n (pc := 94) X d_12_replace_94 1 rfl ?_
          refine jg_pcallSi (pc := 95) X (m_12_listOf rv1 hw h) jM_12_listOf kw_1686 rfl rfl (Nat.le_of_ble_eq_true rfl) d_12_replace_95 ⟨(Nat.le_of_ble_eq_true rfl), (Nat.le_of_ble_eq_true rfl)⟩ ⟨(Nat.le_of_ble_eq_true rfl), (Nat.le_of_ble_eq_true rfl)⟩ (fun x9 r11 h => ?_)
          refine jg_pcallVi (pc := 98) X (m_12_size r11 hw h) jM_12_size kw_1609 (jl_345_12 hn) rfl rfl rfl rfl rfl (Nat.le_of_ble_eq_true rfl) d_12_replace_98 ⟨(Nat.le_of_ble_eq_true rfl), (Nat.le_of_ble_eq_true rfl)⟩ ⟨(Nat.le_of_ble_eq_true rfl), (Nat.le_of_ble_eq_true rfl)⟩ (fun x13 r15 h => ?_)
          refine jg_icmp_ge (tgt := 140) (pc := 101) X d_12_replace_101 (by decide) rv5 r15 h (fun c17 h => ?_) (fun c17 h => ?_)
          · refine jg_aload_n (pc := 140) X d_12_replace_140 0 rfl ?_
            refine jg_iload_n (pc := 141) X d_12_replace_141 1 rfl ?_
            refine jg_callVi (pc := 142) X (m_12_isEdit rv1 hw h) jM_12_isEdit kw_1820 (jl_345_12 hn) rfl rfl rfl rfl rfl (Nat.le_of_ble_eq_true rfl) d_12_replace_142 ⟨(Nat.le_of_ble_eq_true rfl), (Nat.le_of_ble_eq_true rfl)⟩ ⟨(Nat.le_of_ble_eq_true rfl), (Nat.le_of_ble_eq_true rfl)⟩ (fun x18 C19 r20 w21 h => ?_)
            exact jg_ireturn (pc := 145) X hAe hlocks hr d_12_replace_145 ⟨(Nat.le_of_ble_eq_true rfl), (Nat.le_of_ble_eq_true rfl)⟩ rfl r20 w21 h
          · refine jg_aload_n (pc := 104) X d_12_replace_104 0 rfl ?_
            refine jg_iload_n (pc := 105) X d_12_replace_105 1 rfl ?_
            refine jg_iload (pc := 106) X d_12_replace_106 5 rfl ?_
            refine jg_iload_n (pc := 108) X d_12_replace_108 2 rfl ?_
            refine jg_pcallVi (pc := 109) X (m_12_valueAt rv1 rv5 rv2 hw h) jM_12_valueAt kw_1843 (jl_345_12 hn) rfl rfl rfl rfl rfl (Nat.le_of_ble_eq_true rfl) d_12_replace_109 ⟨(Nat.le_of_ble_eq_true rfl), (Nat.le_of_ble_eq_true rfl)⟩ ⟨(Nat.le_of_ble_eq_true rfl), (Nat.le_of_ble_eq_true rfl)⟩ (fun x22 r24 h => ?_)
            refine jg_iload_n (pc := 112) X d_12_replace_112 3 rfl ?_
            refine jg_icmp_ne (tgt := 134) (pc := 113) X d_12_replace_113 (by decide) r24 rv3 h (fun c26 h => ?_) (fun c26 h => ?_)
            · refine jg_aload_n (pc := 116) X d_12_replace_116 0 rfl ?_
              refine jg_iload_n (pc := 117) X d_12_replace_117 1 rfl ?_
              refine jg_aload_n (pc := 118) X d_12_replace_118 0 rfl ?_
              refine jg_iload_n (pc := 119) X d_12_replace_119 1 rfl ?_
              refine jg_pcallSi (pc := 120) X (m_12_listOf rv1 hw h) jM_12_listOf kw_1686 rfl rfl (Nat.le_of_ble_eq_true rfl) d_12_replace_120 ⟨(Nat.le_of_ble_eq_true rfl), (Nat.le_of_ble_eq_true rfl)⟩ ⟨(Nat.le_of_ble_eq_true rfl), (Nat.le_of_ble_eq_true rfl)⟩ (fun x27 r29 h => ?_)
              refine jg_iload (pc := 123) X d_12_replace_123 5 rfl ?_
              refine jg_pcallVi (pc := 125) X (m_12_keyAt r29 rv5 hw h) jM_12_keyAt kw_1766 (jl_345_12 hn) rfl rfl rfl rfl rfl (Nat.le_of_ble_eq_true rfl) d_12_replace_125 ⟨(Nat.le_of_ble_eq_true rfl), (Nat.le_of_ble_eq_true rfl)⟩ ⟨(Nat.le_of_ble_eq_true rfl), (Nat.le_of_ble_eq_true rfl)⟩ (fun x31 r33 h => ?_)
              refine jg_iload_n (pc := 128) X d_12_replace_128 2 rfl ?_
              refine jg_iload (pc := 129) X d_12_replace_129 4 rfl ?_
              refine jg_callVv (pc := 131) X (m_12_alters rv1 r33 rv2 rv4 hw h) jM_12_alters kw_1811 (jl_345_12 hn) rfl rfl rfl rfl rfl (Nat.le_of_ble_eq_true rfl) d_12_replace_131 ⟨(Nat.le_of_ble_eq_true rfl), (Nat.le_of_ble_eq_true rfl)⟩ ⟨(Nat.le_of_ble_eq_true rfl), (Nat.le_of_ble_eq_true rfl)⟩ (fun C36 w38 h => ?_)
              refine jg_iinc (pc := 134) X [(5, jI (v5 + 1)), (0, jr Z 345), (1, jI v1), (2, jI v2), (3, jI v3), (4, jI v4)] d_12_replace_134 5 rfl (by decide) rfl ?_
              refine jg_goto (tgt := 91) (pc := 137) X d_12_replace_137 (by decide) ?_
              have r39 : jRng (v5 + 1) := by (unfold jRng; exact ⟨by (have z0 : jRng v5 := rv5; have z1 : jRng x13 := r15; unfold jRng at z0 z1; omega), by (have z0 : jRng v5 := rv5; have z1 : jRng x13 := r15; unfold jRng at z0 z1; omega)⟩)
              refine jg_sub [1, 2, 3, 4, 5, 0] rfl ?_
              exact ih91 _ _ r39 w38 h
            · refine jg_iinc (pc := 134) X [(5, jI (v5 + 1)), (0, jr Z 345), (1, jI v1), (2, jI v2), (3, jI v3), (4, jI v4)] d_12_replace_134 5 rfl (by decide) rfl ?_
              refine jg_goto (tgt := 91) (pc := 137) X d_12_replace_137 (by decide) ?_
              have r40 : jRng (v5 + 1) := by (unfold jRng; exact ⟨by (have z0 : jRng v5 := rv5; have z1 : jRng x13 := r15; unfold jRng at z0 z1; omega), by (have z0 : jRng v5 := rv5; have z1 : jRng x13 := r15; unfold jRng at z0 z1; omega)⟩)
              refine jg_sub [1, 2, 3, 4, 5, 0] rfl ?_
              exact ih91 _ _ r40 hw h
      obtain ⟨N, h⟩ := h
      refine jg_sub [1, 2, 3, 4, 5, 0] rfl ?_
      exact jl91   N _ _ (⟨by decide, by decide⟩ : jRng 0) w8 h
    · refine jg_iconst (pc := 79) X d_12_replace_79 ?_
      exact jg_ireturn (pc := 80) X hAe hlocks hr d_12_replace_80 ⟨(Nat.le_of_ble_eq_true rfl), (Nat.le_of_ble_eq_true rfl)⟩ rfl (⟨by decide, by decide⟩ : jRng 0) w4 h
  have jb26 : ∀ (s0 : Int) (v1 : Int) (v2 : Int) (v3 : Int) (v4 : Int) (C : jC) (rs0 : jRng s0) (rv1 : jRng v1) (rv2 : jRng v2) (rv3 : jRng v3) (rv4 : jRng v4) (hw : jWF n C), wp_12_replace_26 s0 v1 v2 v3 v4 C post → jG p l e q_12_replace s m args below meth c 6 Z A (jws Z n C) 0 0 (MQ below (jQi Z n sz post) args s q_12_replace.cells q_12_replace.slots (jA Z n sz)) 26 [(0, jr Z 345), (1, jI v1), (2, jI v2), (3, jI v3), (4, jI v4)] [jI s0, jr Z 345] := by
    intro s0 v1 v2 v3 v4 C rs0 rv1 rv2 rv3 rv4 hw h
    unfold wp_12_replace_26 at h
    refine jg_iconst (pc := 26) X d_12_replace_26 ?_
    refine jg_callVi (pc := 27) X (m_12_throwsIf rs0 (⟨by decide, by decide⟩ : jRng 1) hw h) jM_12_throwsIf kw_1697 (jl_345_12 hn) rfl rfl rfl rfl rfl (Nat.le_of_ble_eq_true rfl) d_12_replace_27 ⟨(Nat.le_of_ble_eq_true rfl), (Nat.le_of_ble_eq_true rfl)⟩ ⟨(Nat.le_of_ble_eq_true rfl), (Nat.le_of_ble_eq_true rfl)⟩ (fun x41 C42 r43 w44 h => ?_)
    refine jg_if_ne (tgt := 79) (pc := 30) X d_12_replace_30 (by decide) r43 h (fun c45 h => ?_) (fun c45 h => ?_)
    · refine jg_aload_n (pc := 33) X d_12_replace_33 0 rfl ?_
      refine jg_aload_n (pc := 34) X d_12_replace_34 0 rfl ?_
      refine jg_iload_n (pc := 35) X d_12_replace_35 1 rfl ?_
      refine jg_iload_n (pc := 36) X d_12_replace_36 2 rfl ?_
      refine jg_pcallVi (pc := 37) X (m_12_isHidden rv1 rv2 w44 h) jM_12_isHidden kw_1802 (jl_345_12 hn) rfl rfl rfl rfl rfl (Nat.le_of_ble_eq_true rfl) d_12_replace_37 ⟨(Nat.le_of_ble_eq_true rfl), (Nat.le_of_ble_eq_true rfl)⟩ ⟨(Nat.le_of_ble_eq_true rfl), (Nat.le_of_ble_eq_true rfl)⟩ (fun x46 r48 h => ?_)
      refine jg_iconst (pc := 40) X d_12_replace_40 ?_
      refine jg_callVi (pc := 41) X (m_12_throwsIf r48 (⟨by decide, by decide⟩ : jRng 2) w44 h) jM_12_throwsIf kw_1697 (jl_345_12 hn) rfl rfl rfl rfl rfl (Nat.le_of_ble_eq_true rfl) d_12_replace_41 ⟨(Nat.le_of_ble_eq_true rfl), (Nat.le_of_ble_eq_true rfl)⟩ ⟨(Nat.le_of_ble_eq_true rfl), (Nat.le_of_ble_eq_true rfl)⟩ (fun x50 C51 r52 w53 h => ?_)
      refine jg_if_ne (tgt := 79) (pc := 44) X d_12_replace_44 (by decide) r52 h (fun c54 h => ?_) (fun c54 h => ?_)
      · refine jg_aload_n (pc := 47) X d_12_replace_47 0 rfl ?_
        refine jg_aload_n (pc := 48) X d_12_replace_48 0 rfl ?_
        refine jg_iload_n (pc := 49) X d_12_replace_49 2 rfl ?_
        refine jg_iload_n (pc := 50) X d_12_replace_50 3 rfl ?_
        refine jg_pcallVi (pc := 51) X (m_12_isNone rv2 rv3 w53 h) jM_12_isNone kw_1839 (jl_345_12 hn) rfl rfl rfl rfl rfl (Nat.le_of_ble_eq_true rfl) d_12_replace_51 ⟨(Nat.le_of_ble_eq_true rfl), (Nat.le_of_ble_eq_true rfl)⟩ ⟨(Nat.le_of_ble_eq_true rfl), (Nat.le_of_ble_eq_true rfl)⟩ (fun x55 r57 h => ?_)
        refine jg_if_ne (tgt := 67) (pc := 54) X d_12_replace_54 (by decide) r57 h (fun c59 h => ?_) (fun c59 h => ?_)
        · refine jg_aload_n (pc := 57) X d_12_replace_57 0 rfl ?_
          refine jg_iload_n (pc := 58) X d_12_replace_58 2 rfl ?_
          refine jg_iload (pc := 59) X d_12_replace_59 4 rfl ?_
          refine jg_pcallVi (pc := 61) X (m_12_isNone rv2 rv4 w53 h) jM_12_isNone kw_1839 (jl_345_12 hn) rfl rfl rfl rfl rfl (Nat.le_of_ble_eq_true rfl) d_12_replace_61 ⟨(Nat.le_of_ble_eq_true rfl), (Nat.le_of_ble_eq_true rfl)⟩ ⟨(Nat.le_of_ble_eq_true rfl), (Nat.le_of_ble_eq_true rfl)⟩ (fun x60 r62 h => ?_)
          refine jg_if_eq (tgt := 71) (pc := 64) X d_12_replace_64 (by decide) r62 h (fun c64 h => ?_) (fun c64 h => ?_)
          · refine jg_iconst (pc := 71) X d_12_replace_71 ?_
            refine jg_iconst (pc := 72) X d_12_replace_72 ?_
            refine jg_callVi (pc := 73) X (m_12_throwsIf (⟨by decide, by decide⟩ : jRng 0) (⟨by decide, by decide⟩ : jRng 3) w53 h) jM_12_throwsIf kw_1697 (jl_345_12 hn) rfl rfl rfl rfl rfl (Nat.le_of_ble_eq_true rfl) d_12_replace_73 ⟨(Nat.le_of_ble_eq_true rfl), (Nat.le_of_ble_eq_true rfl)⟩ ⟨(Nat.le_of_ble_eq_true rfl), (Nat.le_of_ble_eq_true rfl)⟩ (fun x65 C66 r67 w68 h => ?_)
            refine jg_if_eq (tgt := 81) (pc := 76) X d_12_replace_76 (by decide) r67 h (fun c69 h => ?_) (fun c69 h => ?_)
            · refine jg_aload_n (pc := 81) X d_12_replace_81 0 rfl ?_
              refine jgf_12_14 (pc := 82) X (jl_345_12 hn) kw_1487 d_12_replace_82 ?_
              refine jg_iconst (pc := 85) X d_12_replace_85 ?_
              refine jg_iconst (pc := 86) X d_12_replace_86 ?_
              refine jg_iastore (len := 241) (pc := 87) X d_12_replace_87 (jl_352_1241 hn) (fun _ => rfl) (by decide) (by decide) (by decide) ?_
              have w72 := jWF.u (k := 0) (v := 0) w68 (jl_352_1241 hn) (by decide) (⟨by decide, by decide⟩ : jRng 0)
              refine jg_iconst (pc := 88) X d_12_replace_88 ?_
              refine jg_istore (pc := 89) X [(5, jI 0), (0, jr Z 345), (1, jI v1), (2, jI v2), (3, jI v3), (4, jI v4)] d_12_replace_89 (by decide) rfl ?_
              have jl91 : ∀  (N : Nat) (v5 : Int) (C : jC) (rv5 : jRng v5) (hw : jWF n C), jI2 (wp_12_replace_91 v1 v2 v3 v4 post) N v5 C → jG p l e q_12_replace s m args below meth c 6 Z A (jws Z n C) 0 0 (MQ below (jQi Z n sz post) args s q_12_replace.cells q_12_replace.slots (jA Z n sz)) 91 [(0, jr Z 345), (1, jI v1), (2, jI v2), (3, jI v3), (4, jI v4), (5, jI v5)] [] := by
                intro   N
                have hn := hw0.2.2.1
                induction N with
                | zero => intro v5 C rv5 hw h; exact h.elim
                | succ N ih91 =>
                  intro v5 C rv5 hw h
                  have h : wp_12_replace_91 v1 v2 v3 v4 post (jI2 (wp_12_replace_91 v1 v2 v3 v4 post) N) v5 C := h
                  generalize jI2 (wp_12_replace_91 v1 v2 v3 v4 post) N = k91 at h ih91
                  unfold wp_12_replace_91 at h
                  refine jg_iload (pc := 91) X d_12_replace_91 5 rfl ?_
                  refine jg_aload_n (pc := 93) X d_12_replace_93 0 rfl ?_
                  refine jg_iload_n (pc := 94) X d_12_replace_94 1 rfl ?_
                  refine jg_pcallSi (pc := 95) X (m_12_listOf rv1 hw h) jM_12_listOf kw_1686 rfl rfl (Nat.le_of_ble_eq_true rfl) d_12_replace_95 ⟨(Nat.le_of_ble_eq_true rfl), (Nat.le_of_ble_eq_true rfl)⟩ ⟨(Nat.le_of_ble_eq_true rfl), (Nat.le_of_ble_eq_true rfl)⟩ (fun x73 r75 h => ?_)
                  refine jg_pcallVi (pc := 98) X (m_12_size r75 hw h) jM_12_size kw_1609 (jl_345_12 hn) rfl rfl rfl rfl rfl (Nat.le_of_ble_eq_true rfl) d_12_replace_98 ⟨(Nat.le_of_ble_eq_true rfl), (Nat.le_of_ble_eq_true rfl)⟩ ⟨(Nat.le_of_ble_eq_true rfl), (Nat.le_of_ble_eq_true rfl)⟩ (fun x77 r79 h => ?_)
                  refine jg_icmp_ge (tgt := 140) (pc := 101) X d_12_replace_101 (by decide) rv5 r79 h (fun c81 h => ?_) (fun c81 h => ?_)
                  · refine jg_aload_n (pc := 140) X d_12_replace_140 0 rfl ?_
                    refine jg_iload_n (pc := 141) X d_12_replace_141 1 rfl ?_
                    refine jg_callVi (pc := 142) X (m_12_isEdit rv1 hw h) jM_12_isEdit kw_1820 (jl_345_12 hn) rfl rfl rfl rfl rfl (Nat.le_of_ble_eq_true rfl) d_12_replace_142 ⟨(Nat.le_of_ble_eq_true rfl), (Nat.le_of_ble_eq_true rfl)⟩ ⟨(Nat.le_of_ble_eq_true rfl), (Nat.le_of_ble_eq_true rfl)⟩ (fun x82 C83 r84 w85 h => ?_)
                    exact jg_ireturn (pc := 145) X hAe hlocks hr d_12_replace_145 ⟨(Nat.le_of_ble_eq_true rfl), (Nat.le_of_ble_eq_true rfl)⟩ rfl r84 w85 h
                  · refine jg_aload_n (pc := 104) X d_12_replace_104 0 rfl ?_
                    refine jg_iload_n (pc := 105) X d_12_replace_105 1 rfl ?_
                    refine jg_iload (pc := 106) X d_12_replace_106 5 rfl ?_
                    refine jg_iload_n (pc := 108) X d_12_replace_108 2 rfl ?_
                    refine jg_pcallVi (pc := 109) X (m_12_valueAt rv1 rv5 rv2 hw h) jM_12_valueAt kw_1843 (jl_345_12 hn) rfl rfl rfl rfl rfl (Nat.le_of_ble_eq_true rfl) d_12_replace_109 ⟨(Nat.le_of_ble_eq_true rfl), (Nat.le_of_ble_eq_true rfl)⟩ ⟨(Nat.le_of_ble_eq_true rfl), (Nat.le_of_ble_eq_true rfl)⟩ (fun x86 r88 h => ?_)
                    refine jg_iload_n (pc := 112) X d_12_replace_112 3 rfl ?_
                    refine jg_icmp_ne (tgt := 134) (pc := 113) X d_12_replace_113 (by decide) r88 rv3 h (fun c90 h => ?_) (fun c90 h => ?_)
                    · refine jg_aload_n (pc := 116) X d_12_replace_116 0 rfl ?_
                      refine jg_iload_n (pc := 117) X d_12_replace_117 1 rfl ?_
                      refine jg_aload_n (pc := 118) X d_12_replace_118 0 rfl ?_
                      refine jg_iload_n (pc := 119) X d_12_replace_119 1 rfl ?_
                      refine jg_pcallSi (pc := 120) X (m_12_listOf rv1 hw h) jM_12_listOf kw_1686 rfl rfl (Nat.le_of_ble_eq_true rfl) d_12_replace_120 ⟨(Nat.le_of_ble_eq_true rfl), (Nat.le_of_ble_eq_true rfl)⟩ ⟨(Nat.le_of_ble_eq_true rfl), (Nat.le_of_ble_eq_true rfl)⟩ (fun x91 r93 h => ?_)
                      refine jg_iload (pc := 123) X d_12_replace_123 5 rfl ?_
                      refine jg_pcallVi (pc := 125) X (m_12_keyAt r93 rv5 hw h) jM_12_keyAt kw_1766 (jl_345_12 hn) rfl rfl rfl rfl rfl (Nat.le_of_ble_eq_true rfl) d_12_replace_125 ⟨(Nat.le_of_ble_eq_true rfl), (Nat.le_of_ble_eq_true rfl)⟩ ⟨(Nat.le_of_ble_eq_true rfl), (Nat.le_of_ble_eq_true rfl)⟩ (fun x95 r97 h => ?_)
                      refine jg_iload_n (pc := 128) X d_12_replace_128 2 rfl ?_
                      refine jg_iload (pc := 129) X d_12_replace_129 4 rfl ?_
                      refine jg_callVv (pc := 131) X (m_12_alters rv1 r97 rv2 rv4 hw h) jM_12_alters kw_1811 (jl_345_12 hn) rfl rfl rfl rfl rfl (Nat.le_of_ble_eq_true rfl) d_12_replace_131 ⟨(Nat.le_of_ble_eq_true rfl), (Nat.le_of_ble_eq_true rfl)⟩ ⟨(Nat.le_of_ble_eq_true rfl), (Nat.le_of_ble_eq_true rfl)⟩ (fun C100 w102 h => ?_)
                      refine jg_iinc (pc := 134) X [(5, jI (v5 + 1)), (0, jr Z 345), (1, jI v1), (2, jI v2), (3, jI v3), (4, jI v4)] d_12_replace_134 5 rfl (by decide) rfl ?_
                      refine jg_goto (tgt := 91) (pc := 137) X d_12_replace_137 (by decide) ?_
                      have r103 : jRng (v5 + 1) := by (unfold jRng; exact ⟨by (have z0 : jRng v5 := rv5; have z1 : jRng x77 := r79; unfold jRng at z0 z1; omega), by (have z0 : jRng v5 := rv5; have z1 : jRng x77 := r79; unfold jRng at z0 z1; omega)⟩)
                      refine jg_sub [1, 2, 3, 4, 5, 0] rfl ?_
                      exact ih91 _ _ r103 w102 h
                    · refine jg_iinc (pc := 134) X [(5, jI (v5 + 1)), (0, jr Z 345), (1, jI v1), (2, jI v2), (3, jI v3), (4, jI v4)] d_12_replace_134 5 rfl (by decide) rfl ?_
                      refine jg_goto (tgt := 91) (pc := 137) X d_12_replace_137 (by decide) ?_
                      have r104 : jRng (v5 + 1) := by (unfold jRng; exact ⟨by (have z0 : jRng v5 := rv5; have z1 : jRng x77 := r79; unfold jRng at z0 z1; omega), by (have z0 : jRng v5 := rv5; have z1 : jRng x77 := r79; unfold jRng at z0 z1; omega)⟩)
                      refine jg_sub [1, 2, 3, 4, 5, 0] rfl ?_
                      exact ih91 _ _ r104 hw h
              obtain ⟨N, h⟩ := h
              refine jg_sub [1, 2, 3, 4, 5, 0] rfl ?_
              exact jl91   N _ _ (⟨by decide, by decide⟩ : jRng 0) w72 h
            · refine jg_iconst (pc := 79) X d_12_replace_79 ?_
              exact jg_ireturn (pc := 80) X hAe hlocks hr d_12_replace_80 ⟨(Nat.le_of_ble_eq_true rfl), (Nat.le_of_ble_eq_true rfl)⟩ rfl (⟨by decide, by decide⟩ : jRng 0) w68 h
          · refine jg_sub [0, 1, 2, 3, 4] rfl ?_
            exact jb67 _ _ _ _ _ rv1 rv2 rv3 rv4 w53 h
        · refine jg_sub [0, 1, 2, 3, 4] rfl ?_
          exact jb67 _ _ _ _ _ rv1 rv2 rv3 rv4 w53 h
      · refine jg_iconst (pc := 79) X d_12_replace_79 ?_
        exact jg_ireturn (pc := 80) X hAe hlocks hr d_12_replace_80 ⟨(Nat.le_of_ble_eq_true rfl), (Nat.le_of_ble_eq_true rfl)⟩ rfl (⟨by decide, by decide⟩ : jRng 0) w53 h
    · refine jg_iconst (pc := 79) X d_12_replace_79 ?_
      exact jg_ireturn (pc := 80) X hAe hlocks hr d_12_replace_80 ⟨(Nat.le_of_ble_eq_true rfl), (Nat.le_of_ble_eq_true rfl)⟩ rfl (⟨by decide, by decide⟩ : jRng 0) w44 h
  refine jg_aload_n (pc := 0) X d_12_replace_0 0 rfl ?_
  refine jg_iconst (pc := 1) X d_12_replace_1 ?_
  refine jgp_12_0 (pc := 2) X (jl_345_12 hn) kw_1473 d_12_replace_2 ?_
  have w105 := jWF.u (k := 0) (v := 0) hw0 (jl_345_12 hn) (by decide) (⟨by decide, by decide⟩ : jRng 0)
  refine jg_aload_n (pc := 5) X d_12_replace_5 0 rfl ?_
  refine jg_iload_n (pc := 6) X d_12_replace_6 1 rfl ?_
  refine jg_pcallSi (pc := 7) X (m_12_noView rv1 w105 h) jM_12_noView kw_1705 rfl rfl (Nat.le_of_ble_eq_true rfl) d_12_replace_7 ⟨(Nat.le_of_ble_eq_true rfl), (Nat.le_of_ble_eq_true rfl)⟩ ⟨(Nat.le_of_ble_eq_true rfl), (Nat.le_of_ble_eq_true rfl)⟩ (fun x106 r108 h => ?_)
  refine jg_if_ne (tgt := 21) (pc := 10) X d_12_replace_10 (by decide) r108 h (fun c110 h => ?_) (fun c110 h => ?_)
  · refine jg_aload_n (pc := 13) X d_12_replace_13 0 rfl ?_
    refine jg_iload_n (pc := 14) X d_12_replace_14 2 rfl ?_
    refine jg_pcallVi (pc := 15) X (m_12_noColumn rv2 w105 h) jM_12_noColumn kw_1798 (jl_345_12 hn) rfl rfl rfl rfl rfl (Nat.le_of_ble_eq_true rfl) d_12_replace_15 ⟨(Nat.le_of_ble_eq_true rfl), (Nat.le_of_ble_eq_true rfl)⟩ ⟨(Nat.le_of_ble_eq_true rfl), (Nat.le_of_ble_eq_true rfl)⟩ (fun x111 r113 h => ?_)
    refine jg_if_eq (tgt := 25) (pc := 18) X d_12_replace_18 (by decide) r113 h (fun c115 h => ?_) (fun c115 h => ?_)
    · refine jg_iconst (pc := 25) X d_12_replace_25 ?_
      refine jg_sub [0, 1, 2, 3, 4] rfl ?_
      exact jb26 _ _ _ _ _ _ (⟨by decide, by decide⟩ : jRng 0) rv1 rv2 rv3 rv4 w105 h
    · refine jg_iconst (pc := 21) X d_12_replace_21 ?_
      refine jg_goto (tgt := 26) (pc := 22) X d_12_replace_22 (by decide) ?_
      refine jg_sub [0, 1, 2, 3, 4] rfl ?_
      exact jb26 _ _ _ _ _ _ (⟨by decide, by decide⟩ : jRng 1) rv1 rv2 rv3 rv4 w105 h
  · refine jg_iconst (pc := 21) X d_12_replace_21 ?_
    refine jg_goto (tgt := 26) (pc := 22) X d_12_replace_22 (by decide) ?_
    refine jg_sub [0, 1, 2, 3, 4] rfl ?_
    exact jb26 _ _ _ _ _ _ (⟨by decide, by decide⟩ : jRng 1) rv1 rv2 rv3 rv4 w105 h
set_option maxHeartbeats 4000000 in
set_option maxRecDepth 100000 in
theorem m_12_swap {l : Launch} {Z : jE} {n : Nat} {C : jC} {v1 : Int} {v2 : Int} {v3 : Int} {v4 : Int} {post : Int → jC → Prop} (rv1 : jRng v1) (rv2 : jRng v2) (rv3 : jRng v3) (rv4 : jRng v4) (hw0 : jWF n C) (h : wp_12_swap v1 v2 v3 v4 C post) : jCi l y_12_swap prog_14_method_81_code 7 (.int) q_12_swap Z n C [jr Z 345, jI v1, jI v2, jI v3, jI v4] post := by
  have hn := hw0.2.2.1
  unfold wp_12_swap at h
  refine jCi_of (lv0 := [(0, jr Z 345), (1, jI v1), (2, jI v2), (3, jI v3), (4, jI v4)]) (by decide) (Nat.le_of_ble_eq_true rfl) rfl ?_
  intro p e s m args below meth c A sz X hAe hr hlocks
  have jb41 : ∀ (s0 : Int) (v1 : Int) (v2 : Int) (v3 : Int) (v4 : Int) (C : jC) (rs0 : jRng s0) (rv1 : jRng v1) (rv2 : jRng v2) (rv3 : jRng v3) (rv4 : jRng v4) (hw : jWF n C), wp_12_swap_41 s0 v1 v2 v3 v4 C post → jG p l e q_12_swap s m args below meth c 7 Z A (jws Z n C) 0 0 (MQ below (jQi Z n sz post) args s q_12_swap.cells q_12_swap.slots (jA Z n sz)) 41 [(0, jr Z 345), (1, jI v1), (2, jI v2), (3, jI v3), (4, jI v4)] [jI s0, jr Z 345] := by
    intro s0 v1 v2 v3 v4 C rs0 rv1 rv2 rv3 rv4 hw h
    unfold wp_12_swap_41 at h
    refine jg_iconst (pc := 41) X d_12_swap_41 ?_
    refine jg_callVi (pc := 42) X (m_12_throwsIf rs0 (⟨by decide, by decide⟩ : jRng 2) hw h) jM_12_throwsIf kw_1697 (jl_345_12 hn) rfl rfl rfl rfl rfl (Nat.le_of_ble_eq_true rfl) d_12_swap_42 ⟨(Nat.le_of_ble_eq_true rfl), (Nat.le_of_ble_eq_true rfl)⟩ ⟨(Nat.le_of_ble_eq_true rfl), (Nat.le_of_ble_eq_true rfl)⟩ (fun x1 C2 r3 w4 h => ?_)
    refine jg_if_ne (tgt := 63) (pc := 45) X d_12_swap_45 (by decide) r3 h (fun c5 h => ?_) (fun c5 h => ?_)
    · refine jg_aload_n (pc := 48) X d_12_swap_48 0 rfl ?_
      refine jg_aload_n (pc := 49) X d_12_swap_49 0 rfl ?_
      refine jg_iload_n (pc := 50) X d_12_swap_50 1 rfl ?_
      refine jg_iload (pc := 51) X d_12_swap_51 4 rfl ?_
      refine jg_pcallVi (pc := 53) X (m_12_isHidden rv1 rv4 w4 h) jM_12_isHidden kw_1802 (jl_345_12 hn) rfl rfl rfl rfl rfl (Nat.le_of_ble_eq_true rfl) d_12_swap_53 ⟨(Nat.le_of_ble_eq_true rfl), (Nat.le_of_ble_eq_true rfl)⟩ ⟨(Nat.le_of_ble_eq_true rfl), (Nat.le_of_ble_eq_true rfl)⟩ (fun x6 r8 h => ?_)
      refine jg_iconst (pc := 56) X d_12_swap_56 ?_
      refine jg_callVi (pc := 57) X (m_12_throwsIf r8 (⟨by decide, by decide⟩ : jRng 3) w4 h) jM_12_throwsIf kw_1697 (jl_345_12 hn) rfl rfl rfl rfl rfl (Nat.le_of_ble_eq_true rfl) d_12_swap_57 ⟨(Nat.le_of_ble_eq_true rfl), (Nat.le_of_ble_eq_true rfl)⟩ ⟨(Nat.le_of_ble_eq_true rfl), (Nat.le_of_ble_eq_true rfl)⟩ (fun x10 C11 r12 w13 h => ?_)
      refine jg_if_eq (tgt := 65) (pc := 60) X d_12_swap_60 (by decide) r12 h (fun c14 h => ?_) (fun c14 h => ?_)
      · refine jg_aload_n (pc := 65) X d_12_swap_65 0 rfl ?_
        refine jgf_12_14 (pc := 66) X (jl_345_12 hn) kw_1487 d_12_swap_66 ?_
        refine jg_iconst (pc := 69) X d_12_swap_69 ?_
        refine jg_iconst (pc := 70) X d_12_swap_70 ?_
        refine jg_iastore (len := 241) (pc := 71) X d_12_swap_71 (jl_352_1241 hn) (fun _ => rfl) (by decide) (by decide) (by decide) ?_
        have w17 := jWF.u (k := 0) (v := 0) w13 (jl_352_1241 hn) (by decide) (⟨by decide, by decide⟩ : jRng 0)
        refine jg_aload_n (pc := 72) X d_12_swap_72 0 rfl ?_
        refine jg_iload_n (pc := 73) X d_12_swap_73 1 rfl ?_
        refine jg_iload_n (pc := 74) X d_12_swap_74 2 rfl ?_
        refine jg_iload (pc := 75) X d_12_swap_75 4 rfl ?_
        refine jg_pcallVi (pc := 77) X (m_12_valueAt rv1 rv2 rv4 w17 h) jM_12_valueAt kw_1843 (jl_345_12 hn) rfl rfl rfl rfl rfl (Nat.le_of_ble_eq_true rfl) d_12_swap_77 ⟨(Nat.le_of_ble_eq_true rfl), (Nat.le_of_ble_eq_true rfl)⟩ ⟨(Nat.le_of_ble_eq_true rfl), (Nat.le_of_ble_eq_true rfl)⟩ (fun x18 r20 h => ?_)
        refine jg_istore (pc := 80) X [(5, jI x18), (0, jr Z 345), (1, jI v1), (2, jI v2), (3, jI v3), (4, jI v4)] d_12_swap_80 (by decide) rfl ?_
        refine jg_aload_n (pc := 82) X d_12_swap_82 1 rfl ?_
        refine jg_iload_n (pc := 83) X d_12_swap_83 2 rfl ?_
        refine jg_iload_n (pc := 84) X d_12_swap_84 4 rfl ?_
        refine jg_iload (pc := 85) X d_12_swap_85 5 rfl ?_
        refine jg_pcallVi (pc := 87) X (m_12_valueAt rv1 rv3 rv4 w17 h) jM_12_valueAt kw_1843 (jl_345_12 hn) rfl rfl rfl rfl rfl (Nat.le_of_ble_eq_true rfl) d_12_swap_87 ⟨(Nat.le_of_ble_eq_true rfl), (Nat.le_of_ble_eq_true rfl)⟩ ⟨(Nat.le_of_ble_eq_true rfl), (Nat.le_of_ble_eq_true rfl)⟩ (fun x22 r24 h => ?_)
        refine jg_istore (pc := 90) X [(6, jI x22), (5, jI x18), (0, jr Z 345), (1, jI v1), (2, jI v2), (3, jI v3), (4, jI v4)] d_12_swap_90 (by decide) rfl ?_
        refine jg_aload_n (pc := 92) X d_12_swap_92 2 rfl ?_
        refine jg_iload_n (pc := 93) X d_12_swap_93 3 rfl ?_
        refine jg_aload_n (pc := 94) X d_12_swap_94 2 rfl ?_
        refine jg_iload_n (pc := 95) X d_12_swap_95 3 rfl ?_
        refine jg_pcallSi (pc := 96) X (m_12_listOf rv1 w17 h) jM_12_listOf kw_1686 rfl rfl (Nat.le_of_ble_eq_true rfl) d_12_swap_96 ⟨(Nat.le_of_ble_eq_true rfl), (Nat.le_of_ble_eq_true rfl)⟩ ⟨(Nat.le_of_ble_eq_true rfl), (Nat.le_of_ble_eq_true rfl)⟩ (fun x26 r28 h => ?_)
        refine jg_iload_n (pc := 99) X d_12_swap_99 4 rfl ?_
        refine jg_pcallVi (pc := 100) X (m_12_keyAt r28 rv2 w17 h) jM_12_keyAt kw_1766 (jl_345_12 hn) rfl rfl rfl rfl rfl (Nat.le_of_ble_eq_true rfl) d_12_swap_100 ⟨(Nat.le_of_ble_eq_true rfl), (Nat.le_of_ble_eq_true rfl)⟩ ⟨(Nat.le_of_ble_eq_true rfl), (Nat.le_of_ble_eq_true rfl)⟩ (fun x30 r32 h => ?_)
        refine jg_iload (pc := 103) X d_12_swap_103 6 rfl ?_
        refine jg_iload (pc := 105) X d_12_swap_105 0 rfl ?_
        refine jg_callVv (pc := 107) X (m_12_alters rv1 r32 rv4 r24 w17 h) jM_12_alters kw_1811 (jl_345_12 hn) rfl rfl rfl rfl rfl (Nat.le_of_ble_eq_true rfl) d_12_swap_107 ⟨(Nat.le_of_ble_eq_true rfl), (Nat.le_of_ble_eq_true rfl)⟩ ⟨(Nat.le_of_ble_eq_true rfl), (Nat.le_of_ble_eq_true rfl)⟩ (fun C35 w37 h => ?_)
        refine jg_aload_n (pc := 110) X d_12_swap_110 2 rfl ?_
        refine jg_iload_n (pc := 111) X d_12_swap_111 3 rfl ?_
        refine jg_aload_n (pc := 112) X d_12_swap_112 2 rfl ?_
        refine jg_iload_n (pc := 113) X d_12_swap_113 3 rfl ?_
        refine jg_pcallSi (pc := 114) X (m_12_listOf rv1 w37 h) jM_12_listOf kw_1686 rfl rfl (Nat.le_of_ble_eq_true rfl) d_12_swap_114 ⟨(Nat.le_of_ble_eq_true rfl), (Nat.le_of_ble_eq_true rfl)⟩ ⟨(Nat.le_of_ble_eq_true rfl), (Nat.le_of_ble_eq_true rfl)⟩ (fun x38 r40 h => ?_)
        refine jg_iload_n (pc := 117) X d_12_swap_117 5 rfl ?_
        refine jg_pcallVi (pc := 118) X (m_12_keyAt r40 rv3 w37 h) jM_12_keyAt kw_1766 (jl_345_12 hn) rfl rfl rfl rfl rfl (Nat.le_of_ble_eq_true rfl) d_12_swap_118 ⟨(Nat.le_of_ble_eq_true rfl), (Nat.le_of_ble_eq_true rfl)⟩ ⟨(Nat.le_of_ble_eq_true rfl), (Nat.le_of_ble_eq_true rfl)⟩ (fun x42 r44 h => ?_)
        refine jg_iload (pc := 121) X d_12_swap_121 6 rfl ?_
        refine jg_iload (pc := 123) X d_12_swap_123 1 rfl ?_
        refine jg_callVv (pc := 125) X (m_12_alters rv1 r44 rv4 r20 w37 h) jM_12_alters kw_1811 (jl_345_12 hn) rfl rfl rfl rfl rfl (Nat.le_of_ble_eq_true rfl) d_12_swap_125 ⟨(Nat.le_of_ble_eq_true rfl), (Nat.le_of_ble_eq_true rfl)⟩ ⟨(Nat.le_of_ble_eq_true rfl), (Nat.le_of_ble_eq_true rfl)⟩ (fun C47 w49 h => ?_)
        refine jg_aload_n (pc := 128) X d_12_swap_128 2 rfl ?_
        refine jg_iload_n (pc := 129) X d_12_swap_129 3 rfl ?_
        refine jg_callVi (pc := 130) X (m_12_isEdit rv1 w49 h) jM_12_isEdit kw_1820 (jl_345_12 hn) rfl rfl rfl rfl rfl (Nat.le_of_ble_eq_true rfl) d_12_swap_130 ⟨(Nat.le_of_ble_eq_true rfl), (Nat.le_of_ble_eq_true rfl)⟩ ⟨(Nat.le_of_ble_eq_true rfl), (Nat.le_of_ble_eq_true rfl)⟩ (fun x50 C51 r52 w53 h => ?_)
        exact jg_ireturn (pc := 133) X hAe hlocks hr d_12_swap_133 ⟨(Nat.le_of_ble_eq_true rfl), (Nat.le_of_ble_eq_true rfl)⟩ rfl r52 w53 h
      · refine jg_iconst (pc := 63) X d_12_swap_63 ?_
        exact jg_ireturn (pc := 64) X hAe hlocks hr d_12_swap_64 ⟨(Nat.le_of_ble_eq_true rfl), (Nat.le_of_ble_eq_true rfl)⟩ rfl (⟨by decide, by decide⟩ : jRng 0) w13 h
    · refine jg_iconst (pc := 63) X d_12_swap_63 ?_
      exact jg_ireturn (pc := 64) X hAe hlocks hr d_12_swap_64 ⟨(Nat.le_of_ble_eq_true rfl), (Nat.le_of_ble_eq_true rfl)⟩ rfl (⟨by decide, by decide⟩ : jRng 0) w4 h
  refine jg_aload_n (pc := 0) X d_12_swap_0 0 rfl ?_
  refine jg_iconst (pc := 1) X d_12_swap_1 ?_
  refine jgp_12_0 (pc := 2) X (jl_345_12 hn) kw_1473 d_12_swap_2 ?_
  have w54 := jWF.u (k := 0) (v := 0) hw0 (jl_345_12 hn) (by decide) (⟨by decide, by decide⟩ : jRng 0)
  refine jg_aload_n (pc := 5) X d_12_swap_5 0 rfl ?_
  refine jg_iload_n (pc := 6) X d_12_swap_6 1 rfl ?_
  refine jg_iload_n (pc := 7) X d_12_swap_7 2 rfl ?_
  refine jg_iload (pc := 8) X d_12_swap_8 4 rfl ?_
  refine jg_callVi (pc := 10) X (m_12_noCell rv1 rv2 rv4 w54 h) jM_12_noCell kw_1790 (jl_345_12 hn) rfl rfl rfl rfl rfl (Nat.le_of_ble_eq_true rfl) d_12_swap_10 ⟨(Nat.le_of_ble_eq_true rfl), (Nat.le_of_ble_eq_true rfl)⟩ ⟨(Nat.le_of_ble_eq_true rfl), (Nat.le_of_ble_eq_true rfl)⟩ (fun x55 C56 r57 w58 h => ?_)
  refine jg_if_ne (tgt := 63) (pc := 13) X d_12_swap_13 (by decide) r57 h (fun c59 h => ?_) (fun c59 h => ?_)
  · refine jg_aload_n (pc := 16) X d_12_swap_16 0 rfl ?_
    refine jg_aload_n (pc := 17) X d_12_swap_17 0 rfl ?_
    refine jg_iload_n (pc := 18) X d_12_swap_18 1 rfl ?_
    refine jg_iload_n (pc := 19) X d_12_swap_19 3 rfl ?_
    refine jg_pcallVi (pc := 20) X (m_12_noPlace rv1 rv3 w58 h) jM_12_noPlace kw_1794 (jl_345_12 hn) rfl rfl rfl rfl rfl (Nat.le_of_ble_eq_true rfl) d_12_swap_20 ⟨(Nat.le_of_ble_eq_true rfl), (Nat.le_of_ble_eq_true rfl)⟩ ⟨(Nat.le_of_ble_eq_true rfl), (Nat.le_of_ble_eq_true rfl)⟩ (fun x60 r62 h => ?_)
    refine jg_iconst (pc := 23) X d_12_swap_23 ?_
    refine jg_callVi (pc := 24) X (m_12_throwsIf r62 (⟨by decide, by decide⟩ : jRng 1) w58 h) jM_12_throwsIf kw_1697 (jl_345_12 hn) rfl rfl rfl rfl rfl (Nat.le_of_ble_eq_true rfl) d_12_swap_24 ⟨(Nat.le_of_ble_eq_true rfl), (Nat.le_of_ble_eq_true rfl)⟩ ⟨(Nat.le_of_ble_eq_true rfl), (Nat.le_of_ble_eq_true rfl)⟩ (fun x64 C65 r66 w67 h => ?_)
    refine jg_if_ne (tgt := 63) (pc := 27) X d_12_swap_27 (by decide) r66 h (fun c68 h => ?_) (fun c68 h => ?_)
    · refine jg_aload_n (pc := 30) X d_12_swap_30 0 rfl ?_
      refine jg_iload_n (pc := 31) X d_12_swap_31 2 rfl ?_
      refine jg_iload_n (pc := 32) X d_12_swap_32 3 rfl ?_
      refine jg_icmp_ne (tgt := 40) (pc := 33) X d_12_swap_33 (by decide) rv2 rv3 h (fun c69 h => ?_) (fun c69 h => ?_)
      · refine jg_iconst (pc := 36) X d_12_swap_36 ?_
        refine jg_goto (tgt := 41) (pc := 37) X d_12_swap_37 (by decide) ?_
        refine jg_sub [0, 1, 2, 3, 4] rfl ?_
        exact jb41 _ _ _ _ _ _ (⟨by decide, by decide⟩ : jRng 1) rv1 rv2 rv3 rv4 w67 h
      · refine jg_iconst (pc := 40) X d_12_swap_40 ?_
        refine jg_sub [0, 1, 2, 3, 4] rfl ?_
        exact jb41 _ _ _ _ _ _ (⟨by decide, by decide⟩ : jRng 0) rv1 rv2 rv3 rv4 w67 h
    · refine jg_iconst (pc := 63) X d_12_swap_63 ?_
      exact jg_ireturn (pc := 64) X hAe hlocks hr d_12_swap_64 ⟨(Nat.le_of_ble_eq_true rfl), (Nat.le_of_ble_eq_true rfl)⟩ rfl (⟨by decide, by decide⟩ : jRng 0) w67 h
  · refine jg_iconst (pc := 63) X d_12_swap_63 ?_
    exact jg_ireturn (pc := 64) X hAe hlocks hr d_12_swap_64 ⟨(Nat.le_of_ble_eq_true rfl), (Nat.le_of_ble_eq_true rfl)⟩ rfl (⟨by decide, by decide⟩ : jRng 0) w58 h
set_option maxHeartbeats 4000000 in
set_option maxRecDepth 100000 in
theorem m_12_seenFrom {l : Launch} {Z : jE} {n : Nat} {C : jC} {v1 : Int} {v2 : Int} {post : Int → Prop} (rv1 : jRng v1) (rv2 : jRng v2) (hw0 : jWF n C) (h : wp_12_seenFrom v1 v2 C post) : jCi l y_12_seenFrom prog_14_method_82_code 4 (.int) q_12_seenFrom Z n C [jr Z 345, jI v1, jI v2] (fun x C9 => C9 = C ∧ post x) := by
  have hn := hw0.2.2.1
  unfold wp_12_seenFrom at h
  refine jCi_of (lv0 := [(0, jr Z 345), (1, jI v1), (2, jI v2)]) (by decide) (Nat.le_of_ble_eq_true rfl) rfl ?_
  intro p e s m args below meth c A sz X hAe hr hlocks
  refine jg_iload_n (pc := 0) X d_12_seenFrom_0 2 rfl ?_
  refine jg_istore_n (pc := 1) X [(3, jI v2), (0, jr Z 345), (1, jI v1), (2, jI v2)] d_12_seenFrom_1 (by decide) rfl ?_
  have hw : jWF n C := hw0
  have jl2 : ∀  (N : Nat) (v3 : Int) (rv3 : jRng v3), jI1 (wp_12_seenFrom_2 v1 C post) N v3 → jG p l e q_12_seenFrom s m args below meth c 4 Z A (jws Z n C) 0 0 (MQ below (jQi Z n sz (fun x C9 => C9 = C ∧ post x)) args s q_12_seenFrom.cells q_12_seenFrom.slots (jA Z n sz)) 2 [(0, jr Z 345), (1, jI v1), (3, jI v3)] [] := by
    intro   N
    have hn := hw0.2.2.1
    induction N with
    | zero => intro v3 rv3 h; exact h.elim
    | succ N ih2 =>
      intro v3 rv3 h
      have h : wp_12_seenFrom_2 v1 C post (jI1 (wp_12_seenFrom_2 v1 C post) N) v3 := h
      generalize jI1 (wp_12_seenFrom_2 v1 C post) N = k2 at h ih2
      unfold wp_12_seenFrom_2 at h
      refine jg_iload_n (pc := 2) X d_12_seenFrom_2 2 rfl ?_
      refine jg_aload_n (pc := 3) X d_12_seenFrom_3 0 rfl ?_
      refine jg_pcallVi (pc := 4) X (m_12_columns hw h) jM_12_columns kw_1590 (jl_345_12 hn) rfl rfl rfl rfl rfl (Nat.le_of_ble_eq_true rfl) d_12_seenFrom_4 ⟨(Nat.le_of_ble_eq_true rfl), (Nat.le_of_ble_eq_true rfl)⟩ ⟨(Nat.le_of_ble_eq_true rfl), (Nat.le_of_ble_eq_true rfl)⟩ (fun x1 r3 h => ?_)
      refine jg_icmp_ge (tgt := 25) (pc := 7) X d_12_seenFrom_7 (by decide) rv3 r3 h (fun c5 h => ?_) (fun c5 h => ?_)
      · refine jg_iload_n (pc := 25) X d_12_seenFrom_25 2 rfl ?_
        exact jg_ireturn (pc := 26) X hAe hlocks hr d_12_seenFrom_26 ⟨(Nat.le_of_ble_eq_true rfl), (Nat.le_of_ble_eq_true rfl)⟩ rfl rv3 hw ⟨rfl, h⟩
      · refine jg_aload_n (pc := 10) X d_12_seenFrom_10 0 rfl ?_
        refine jg_iload_n (pc := 11) X d_12_seenFrom_11 1 rfl ?_
        refine jg_iload_n (pc := 12) X d_12_seenFrom_12 2 rfl ?_
        refine jg_pcallVi (pc := 13) X (m_12_isHidden rv1 rv3 hw h) jM_12_isHidden kw_1802 (jl_345_12 hn) rfl rfl rfl rfl rfl (Nat.le_of_ble_eq_true rfl) d_12_seenFrom_13 ⟨(Nat.le_of_ble_eq_true rfl), (Nat.le_of_ble_eq_true rfl)⟩ ⟨(Nat.le_of_ble_eq_true rfl), (Nat.le_of_ble_eq_true rfl)⟩ (fun x6 r8 h => ?_)
        refine jg_if_eq (tgt := 25) (pc := 16) X d_12_seenFrom_16 (by decide) r8 h (fun c10 h => ?_) (fun c10 h => ?_)
        · refine jg_iload_n (pc := 25) X d_12_seenFrom_25 2 rfl ?_
          exact jg_ireturn (pc := 26) X hAe hlocks hr d_12_seenFrom_26 ⟨(Nat.le_of_ble_eq_true rfl), (Nat.le_of_ble_eq_true rfl)⟩ rfl rv3 hw ⟨rfl, h⟩
        · refine jg_iinc (pc := 19) X [(3, jI (v3 + 1)), (0, jr Z 345), (1, jI v1)] d_12_seenFrom_19 2 rfl (by decide) rfl ?_
          refine jg_goto (tgt := 2) (pc := 22) X d_12_seenFrom_22 (by decide) ?_
          have r11 : jRng (v3 + 1) := by (unfold jRng; exact ⟨by (have z0 : jRng v3 := rv3; have z1 : jRng x1 := r3; unfold jRng at z0 z1; omega), by (have z0 : jRng v3 := rv3; have z1 : jRng x1 := r3; unfold jRng at z0 z1; omega)⟩)
          refine jg_sub [1, 2, 0] rfl ?_
          exact ih2 _ r11 h
  obtain ⟨N, h⟩ := h
  refine jg_sub [1, 2, 0] rfl ?_
  exact jl2   N _ rv2 h
set_option maxHeartbeats 4000000 in
set_option maxRecDepth 100000 in
theorem m_12_readGrid {l : Launch} {Z : jE} {n : Nat} {C : jC} {v1 : Int} {v2 : Int} {post : Int → jC → Prop} (rv1 : jRng v1) (rv2 : jRng v2) (hw0 : jWF n C) (h : wp_12_readGrid v1 v2 C post) : jCi l y_12_readGrid prog_14_method_83_code 6 (.boolean) q_12_readGrid Z n C [jr Z 345, jI v1, jI v2] post := by
  have hn := hw0.2.2.1
  unfold wp_12_readGrid at h
  refine jCi_of (lv0 := [(0, jr Z 345), (1, jI v1), (2, jI v2)]) (by decide) (Nat.le_of_ble_eq_true rfl) rfl ?_
  intro p e s m args below meth c A sz X hAe hr hlocks
  refine jg_bipush (pc := 0) X d_12_readGrid_0 rfl ?_
  refine jg_aload_n (pc := 2) X d_12_readGrid_2 0 rfl ?_
  refine jgf_12_16 (pc := 3) X (jl_345_12 hn) kw_1489 d_12_readGrid_3 ?_
  refine jg_imul (pc := 6) X d_12_readGrid_6 ?_
  refine jg_istore_n (pc := 7) X [(3, jI (6 * (C 345 16))), (0, jr Z 345), (1, jI v1), (2, jI v2)] d_12_readGrid_7 (by decide) rfl ?_
  refine jg_iconst (pc := 8) X d_12_readGrid_8 ?_
  refine jg_istore (pc := 9) X [(4, jI 0), (3, jI (6 * (C 345 16))), (0, jr Z 345), (1, jI v1), (2, jI v2)] d_12_readGrid_9 (by decide) rfl ?_
  refine jg_iload_n (pc := 11) X d_12_readGrid_11 4 rfl ?_
  refine jg_istore (pc := 12) X [(5, jI v2), (4, jI 0), (3, jI (6 * (C 345 16))), (0, jr Z 345), (1, jI v1), (2, jI v2)] d_12_readGrid_12 (by decide) rfl ?_
  obtain ⟨r1, h⟩ := h
  have jl14 : ∀ (v3 : Int) (rv3 : jRng v3) (N : Nat) (v4 : Int) (v5 : Int) (C : jC) (rv4 : jRng v4) (rv5 : jRng v5) (hw : jWF n C), jI3 (wp_12_readGrid_14 v1 v3 post) N v4 v5 C → jG p l e q_12_readGrid s m args below meth c 6 Z A (jws Z n C) 0 0 (MQ below (jQi Z n sz post) args s q_12_readGrid.cells q_12_readGrid.slots (jA Z n sz)) 14 [(0, jr Z 345), (1, jI v1), (3, jI v3), (4, jI v4), (5, jI v5)] [] := by
    intro v3 rv3 N
    have hn := hw0.2.2.1
    induction N with
    | zero => intro v4 v5 C rv4 rv5 hw h; exact h.elim
    | succ N ih14 =>
      intro v4 v5 C rv4 rv5 hw h
      have h : wp_12_readGrid_14 v1 v3 post (jI3 (wp_12_readGrid_14 v1 v3 post) N) v4 v5 C := h
      generalize jI3 (wp_12_readGrid_14 v1 v3 post) N = k14 at h ih14
      unfold wp_12_readGrid_14 at h
      refine jg_aload_n (pc := 14) X d_12_readGrid_14 0 rfl ?_
      refine jg_callVv (pc := 15) X (m_12_blanks hw h) jM_12_blanks kw_1567 (jl_345_12 hn) rfl rfl rfl rfl rfl (Nat.le_of_ble_eq_true rfl) d_12_readGrid_15 ⟨(Nat.le_of_ble_eq_true rfl), (Nat.le_of_ble_eq_true rfl)⟩ ⟨(Nat.le_of_ble_eq_true rfl), (Nat.le_of_ble_eq_true rfl)⟩ (fun C3 w5 h => ?_)
      refine jg_iload (pc := 18) X d_12_readGrid_18 4 rfl ?_
      refine jg_aload_n (pc := 20) X d_12_readGrid_20 0 rfl ?_
      refine jg_pcallVi (pc := 21) X (m_12_columns w5 h) jM_12_columns kw_1590 (jl_345_12 hn) rfl rfl rfl rfl rfl (Nat.le_of_ble_eq_true rfl) d_12_readGrid_21 ⟨(Nat.le_of_ble_eq_true rfl), (Nat.le_of_ble_eq_true rfl)⟩ ⟨(Nat.le_of_ble_eq_true rfl), (Nat.le_of_ble_eq_true rfl)⟩ (fun x6 r8 h => ?_)
      refine jg_icmp_ge (tgt := 36) (pc := 24) X d_12_readGrid_24 (by decide) rv5 r8 h (fun c10 h => ?_) (fun c10 h => ?_)
      · refine jg_iconst (pc := 36) X d_12_readGrid_36 ?_
        exact jg_ireturn (pc := 37) X hAe hlocks hr d_12_readGrid_37 ⟨(Nat.le_of_ble_eq_true rfl), (Nat.le_of_ble_eq_true rfl)⟩ rfl (⟨by decide, by decide⟩ : jRng 0) w5 h
      · refine jg_aload_n (pc := 27) X d_12_readGrid_27 0 rfl ?_
        refine jg_iload (pc := 28) X d_12_readGrid_28 4 rfl ?_
        refine jg_callVi (pc := 30) X (m_12_aValue rv5 w5 h) jM_12_aValue kw_1618 (jl_345_12 hn) rfl rfl rfl rfl rfl (Nat.le_of_ble_eq_true rfl) d_12_readGrid_30 ⟨(Nat.le_of_ble_eq_true rfl), (Nat.le_of_ble_eq_true rfl)⟩ ⟨(Nat.le_of_ble_eq_true rfl), (Nat.le_of_ble_eq_true rfl)⟩ (fun x11 C12 r13 w14 h => ?_)
        refine jg_if_ne (tgt := 38) (pc := 33) X d_12_readGrid_33 (by decide) r13 h (fun c15 h => ?_) (fun c15 h => ?_)
        · refine jg_iconst (pc := 36) X d_12_readGrid_36 ?_
          exact jg_ireturn (pc := 37) X hAe hlocks hr d_12_readGrid_37 ⟨(Nat.le_of_ble_eq_true rfl), (Nat.le_of_ble_eq_true rfl)⟩ rfl (⟨by decide, by decide⟩ : jRng 0) w14 h
        · refine jg_aload_n (pc := 38) X d_12_readGrid_38 0 rfl ?_
          refine jgf_12_15 (pc := 39) X (jl_345_12 hn) kw_1488 d_12_readGrid_39 ?_
          refine jg_iload_n (pc := 42) X d_12_readGrid_42 2 rfl ?_
          refine jg_iconst (pc := 43) X d_12_readGrid_43 ?_
          refine jg_iadd (pc := 44) X d_12_readGrid_44 ?_
          refine jg_iload (pc := 45) X d_12_readGrid_45 3 rfl ?_
          refine jg_iadd (pc := 47) X d_12_readGrid_47 ?_
          refine jg_aload_n (pc := 48) X d_12_readGrid_48 0 rfl ?_
          refine jgf_12_10 (pc := 49) X (jl_345_12 hn) kw_1483 d_12_readGrid_49 ?_
          obtain ⟨b16, b17, h⟩ := h
          refine jg_iastore (len := 72) (pc := 52) X d_12_readGrid_52 (jl_353_1072 hn) (fun _ => rfl) (by decide) b16 b17 ?_
          have w18 := jWF.u (k := ((v3 + 1) + v4)) (v := (C12 345 10)) w14 (jl_353_1072 hn) (by decide) (w14.1 _ _)
          refine jg_iinc (pc := 53) X [(4, jI (v4 + 1)), (0, jr Z 345), (1, jI v1), (3, jI v3), (5, jI v5)] d_12_readGrid_53 3 rfl (by decide) rfl ?_
          refine jg_aload_n (pc := 56) X d_12_readGrid_56 1 rfl ?_
          refine jg_iload_n (pc := 57) X d_12_readGrid_57 2 rfl ?_
          refine jg_iload (pc := 58) X d_12_readGrid_58 4 rfl ?_
          refine jg_iconst (pc := 60) X d_12_readGrid_60 ?_
          refine jg_iadd (pc := 61) X d_12_readGrid_61 ?_
          have r19 : jRng (v5 + 1) := by (unfold jRng; exact ⟨by (have z0 : jRng v5 := rv5; have z1 : jRng x6 := r8; unfold jRng at z0 z1; omega), by (have z0 : jRng v5 := rv5; have z1 : jRng x6 := r8; unfold jRng at z0 z1; omega)⟩)
          refine jg_pcallVi (pc := 62) X (m_12_seenFrom rv1 r19 w18 h) jM_12_seenFrom kw_1863 (jl_345_12 hn) rfl rfl rfl rfl rfl (Nat.le_of_ble_eq_true rfl) d_12_readGrid_62 ⟨(Nat.le_of_ble_eq_true rfl), (Nat.le_of_ble_eq_true rfl)⟩ ⟨(Nat.le_of_ble_eq_true rfl), (Nat.le_of_ble_eq_true rfl)⟩ (fun x20 r22 h => ?_)
          refine jg_istore (pc := 65) X [(5, jI x20), (4, jI (v4 + 1)), (0, jr Z 345), (1, jI v1), (3, jI v3)] d_12_readGrid_65 (by decide) rfl ?_
          refine jg_aload_n (pc := 67) X d_12_readGrid_67 2 rfl ?_
          refine jg_bipush (pc := 68) X d_12_readGrid_68 rfl ?_
          refine jg_callVi (pc := 70) X (m_12_sign (⟨by decide, by decide⟩ : jRng 44) w18 h) jM_12_sign kw_1622 (jl_345_12 hn) rfl rfl rfl rfl rfl (Nat.le_of_ble_eq_true rfl) d_12_readGrid_70 ⟨(Nat.le_of_ble_eq_true rfl), (Nat.le_of_ble_eq_true rfl)⟩ ⟨(Nat.le_of_ble_eq_true rfl), (Nat.le_of_ble_eq_true rfl)⟩ (fun x24 C25 r26 w27 h => ?_)
          refine jg_if_ne (tgt := 14) (pc := 73) X d_12_readGrid_73 (by decide) r26 h (fun c28 h => ?_) (fun c28 h => ?_)
          · refine jg_aload_n (pc := 76) X d_12_readGrid_76 2 rfl ?_
            refine jgf_12_15 (pc := 77) X (jl_345_12 hn) kw_1488 d_12_readGrid_77 ?_
            refine jg_iload_n (pc := 80) X d_12_readGrid_80 4 rfl ?_
            refine jg_iload (pc := 81) X d_12_readGrid_81 1 rfl ?_
            obtain ⟨b29, b30, r31, h⟩ := h
            refine jg_iastore (len := 72) (pc := 83) X d_12_readGrid_83 (jl_353_1072 hn) (fun _ => rfl) (by decide) b29 b30 ?_
            have w32 := jWF.u (k := v3) (v := (v4 + 1)) w27 (jl_353_1072 hn) (by decide) r31
            refine jg_aload_n (pc := 84) X d_12_readGrid_84 2 rfl ?_
            refine jg_dup (pc := 85) X d_12_readGrid_85 rfl ?_
            refine jgf_12_16 (pc := 86) X (jl_345_12 hn) kw_1489 d_12_readGrid_86 ?_
            refine jg_iconst (pc := 89) X d_12_readGrid_89 ?_
            refine jg_iadd (pc := 90) X d_12_readGrid_90 ?_
            obtain ⟨r33, h⟩ := h
            refine jgp_12_16 (pc := 91) X (jl_345_12 hn) kw_1489 d_12_readGrid_91 ?_
            have w34 := jWF.u (k := 16) (v := (((jU C25 353 v3 (v4 + 1)) 345 16) + 1)) w32 (jl_345_12 hn) (by decide) r33
            refine jg_iconst (pc := 94) X d_12_readGrid_94 ?_
            exact jg_ireturn (pc := 95) X hAe hlocks hr d_12_readGrid_95 ⟨(Nat.le_of_ble_eq_true rfl), (Nat.le_of_ble_eq_true rfl)⟩ rfl (⟨by decide, by decide⟩ : jRng 1) w34 h
          · obtain ⟨r35, h⟩ := h
            refine jg_sub [2, 3, 4, 1, 0] rfl ?_
            exact ih14 _ _ _ r35 r22 w27 h
  obtain ⟨N, h⟩ := h
  refine jg_sub [3, 4, 2, 1, 0] rfl ?_
  exact jl14 _ r1 N _ _ _ (⟨by decide, by decide⟩ : jRng 0) rv2 hw0 h
set_option maxHeartbeats 4000000 in
set_option maxRecDepth 100000 in
theorem m_12_readGrids {l : Launch} {Z : jE} {n : Nat} {C : jC} {v1 : Int} {v2 : Int} {post : Int → jC → Prop} (rv1 : jRng v1) (rv2 : jRng v2) (hw0 : jWF n C) (h : wp_12_readGrids v1 v2 C post) : jCi l y_12_readGrids prog_14_method_84_code 3 (.boolean) q_12_readGrids Z n C [jr Z 345, jI v1, jI v2] post := by
  have hn := hw0.2.2.1
  unfold wp_12_readGrids at h
  refine jCi_of (lv0 := [(0, jr Z 345), (1, jI v1), (2, jI v2)]) (by decide) (Nat.le_of_ble_eq_true rfl) rfl ?_
  intro p e s m args below meth c A sz X hAe hr hlocks
  refine jg_aload_n (pc := 0) X d_12_readGrids_0 0 rfl ?_
  refine jg_iconst (pc := 1) X d_12_readGrids_1 ?_
  refine jgp_12_16 (pc := 2) X (jl_345_12 hn) kw_1489 d_12_readGrids_2 ?_
  have w1 := jWF.u (k := 16) (v := 0) hw0 (jl_345_12 hn) (by decide) (⟨by decide, by decide⟩ : jRng 0)
  have jl5 : ∀  (N : Nat) (C : jC) (hw : jWF n C), jI1 (wp_12_readGrids_5 v1 v2 post) N C → jG p l e q_12_readGrids s m args below meth c 3 Z A (jws Z n C) 0 0 (MQ below (jQi Z n sz post) args s q_12_readGrids.cells q_12_readGrids.slots (jA Z n sz)) 5 [(0, jr Z 345), (1, jI v1), (2, jI v2)] [] := by
    intro   N
    have hn := hw0.2.2.1
    induction N with
    | zero => intro C hw h; exact h.elim
    | succ N ih5 =>
      intro C hw h
      have h : wp_12_readGrids_5 v1 v2 post (jI1 (wp_12_readGrids_5 v1 v2 post) N) C := h
      generalize jI1 (wp_12_readGrids_5 v1 v2 post) N = k5 at h ih5
      unfold wp_12_readGrids_5 at h
      refine jg_aload_n (pc := 5) X d_12_readGrids_5 0 rfl ?_
      refine jg_callVv (pc := 6) X (m_12_blanks hw h) jM_12_blanks kw_1567 (jl_345_12 hn) rfl rfl rfl rfl rfl (Nat.le_of_ble_eq_true rfl) d_12_readGrids_6 ⟨(Nat.le_of_ble_eq_true rfl), (Nat.le_of_ble_eq_true rfl)⟩ ⟨(Nat.le_of_ble_eq_true rfl), (Nat.le_of_ble_eq_true rfl)⟩ (fun C3 w5 h => ?_)
      refine jg_aload_n (pc := 9) X d_12_readGrids_9 0 rfl ?_
      refine jgf_12_16 (pc := 10) X (jl_345_12 hn) kw_1489 d_12_readGrids_10 ?_
      refine jg_bipush (pc := 13) X d_12_readGrids_13 rfl ?_
      refine jg_icmp_eq (tgt := 27) (pc := 15) X d_12_readGrids_15 (by decide) (w5.1 _ _) (⟨by decide, by decide⟩ : jRng 12) h (fun c6 h => ?_) (fun c6 h => ?_)
      · have c6 : (C3 345 16) = 12 := c6
        refine jg_iconst (pc := 27) X d_12_readGrids_27 ?_
        exact jg_ireturn (pc := 28) X hAe hlocks hr d_12_readGrids_28 ⟨(Nat.le_of_ble_eq_true rfl), (Nat.le_of_ble_eq_true rfl)⟩ rfl (⟨by decide, by decide⟩ : jRng 0) w5 h
      · have c6 : ¬ ((C3 345 16) = 12) := c6
        refine jg_aload_n (pc := 18) X d_12_readGrids_18 0 rfl ?_
        refine jg_iload_n (pc := 19) X d_12_readGrids_19 1 rfl ?_
        refine jg_iload_n (pc := 20) X d_12_readGrids_20 2 rfl ?_
        refine jg_callVi (pc := 21) X (m_12_readGrid rv1 rv2 w5 h) jM_12_readGrid kw_1859 (jl_345_12 hn) rfl rfl rfl rfl rfl (Nat.le_of_ble_eq_true rfl) d_12_readGrids_21 ⟨(Nat.le_of_ble_eq_true rfl), (Nat.le_of_ble_eq_true rfl)⟩ ⟨(Nat.le_of_ble_eq_true rfl), (Nat.le_of_ble_eq_true rfl)⟩ (fun x7 C8 r9 w10 h => ?_)
        refine jg_if_ne (tgt := 29) (pc := 24) X d_12_readGrids_24 (by decide) r9 h (fun c11 h => ?_) (fun c11 h => ?_)
        · refine jg_iconst (pc := 27) X d_12_readGrids_27 ?_
          exact jg_ireturn (pc := 28) X hAe hlocks hr d_12_readGrids_28 ⟨(Nat.le_of_ble_eq_true rfl), (Nat.le_of_ble_eq_true rfl)⟩ rfl (⟨by decide, by decide⟩ : jRng 0) w10 h
        · refine jg_aload_n (pc := 29) X d_12_readGrids_29 0 rfl ?_
          refine jg_bipush (pc := 30) X d_12_readGrids_30 rfl ?_
          refine jg_callVi (pc := 32) X (m_12_sign (⟨by decide, by decide⟩ : jRng 59) w10 h) jM_12_sign kw_1622 (jl_345_12 hn) rfl rfl rfl rfl rfl (Nat.le_of_ble_eq_true rfl) d_12_readGrids_32 ⟨(Nat.le_of_ble_eq_true rfl), (Nat.le_of_ble_eq_true rfl)⟩ ⟨(Nat.le_of_ble_eq_true rfl), (Nat.le_of_ble_eq_true rfl)⟩ (fun x12 C13 r14 w15 h => ?_)
          refine jg_if_ne (tgt := 5) (pc := 35) X d_12_readGrids_35 (by decide) r14 h (fun c16 h => ?_) (fun c16 h => ?_)
          · refine jg_aload_n (pc := 38) X d_12_readGrids_38 0 rfl ?_
            refine jgf_12_7 (pc := 39) X (jl_345_12 hn) kw_1480 d_12_readGrids_39 ?_
            refine jg_aload_n (pc := 42) X d_12_readGrids_42 0 rfl ?_
            refine jgf_12_8 (pc := 43) X (jl_345_12 hn) kw_1481 d_12_readGrids_43 ?_
            refine jg_icmp_ne (tgt := 53) (pc := 46) X d_12_readGrids_46 (by decide) (w15.1 _ _) (w15.1 _ _) h (fun c17 h => ?_) (fun c17 h => ?_)
            · have c17 : (C13 345 7) = (C13 345 8) := c17
              refine jg_iconst (pc := 49) X d_12_readGrids_49 ?_
              refine jg_goto (tgt := 54) (pc := 50) X d_12_readGrids_50 (by decide) ?_
              exact jg_ireturn (pc := 54) X hAe hlocks hr d_12_readGrids_54 ⟨(Nat.le_of_ble_eq_true rfl), (Nat.le_of_ble_eq_true rfl)⟩ rfl (⟨by decide, by decide⟩ : jRng 1) w15 h
            · have c17 : ¬ ((C13 345 7) = (C13 345 8)) := c17
              refine jg_iconst (pc := 53) X d_12_readGrids_53 ?_
              exact jg_ireturn (pc := 54) X hAe hlocks hr d_12_readGrids_54 ⟨(Nat.le_of_ble_eq_true rfl), (Nat.le_of_ble_eq_true rfl)⟩ rfl (⟨by decide, by decide⟩ : jRng 0) w15 h
          · refine jg_sub [0, 1, 2] rfl ?_
            exact ih5 _ w15 h
  obtain ⟨N, h⟩ := h
  refine jg_sub [0, 1, 2] rfl ?_
  exact jl5   N _ w1 h
set_option maxHeartbeats 4000000 in
set_option maxRecDepth 100000 in
theorem m_12_isPasted {l : Launch} {Z : jE} {n : Nat} {C : jC} {v1 : Int} {v2 : Int} {v3 : Int} {v4 : Int} {post : jC → Prop} (rv1 : jRng v1) (rv2 : jRng v2) (rv3 : jRng v3) (rv4 : jRng v4) (hw0 : jWF n C) (h : wp_12_isPasted v1 v2 v3 v4 C post) : jCv l y_12_isPasted prog_14_method_85_code 7 q_12_isPasted Z n C [jr Z 345, jI v1, jI v2, jI v3, jI v4] post := by
  have hn := hw0.2.2.1
  unfold wp_12_isPasted at h
  refine jCv_of (lv0 := [(0, jr Z 345), (1, jI v1), (2, jI v2), (3, jI v3), (4, jI v4)]) (by decide) (Nat.le_of_ble_eq_true rfl) rfl ?_
  intro p e s m args below meth c A sz X hAe hr hlocks
  refine jg_iload_n (pc := 0) X d_12_isPasted_0 3 rfl ?_
  refine jg_istore (pc := 1) X [(5, jI v3), (0, jr Z 345), (1, jI v1), (2, jI v2), (3, jI v3), (4, jI v4)] d_12_isPasted_1 (by decide) rfl ?_
  refine jg_iconst (pc := 3) X d_12_isPasted_3 ?_
  refine jg_istore (pc := 4) X [(6, jI 0), (5, jI v3), (0, jr Z 345), (1, jI v1), (2, jI v2), (3, jI v3), (4, jI v4)] d_12_isPasted_4 (by decide) rfl ?_
  have jl6 : ∀  (N : Nat) (v5 : Int) (v6 : Int) (C : jC) (rv5 : jRng v5) (rv6 : jRng v6) (hw : jWF n C), jI3 (wp_12_isPasted_6 v1 v2 v4 post) N v5 v6 C → jG p l e q_12_isPasted s m args below meth c 7 Z A (jws Z n C) 0 0 (MQ below (jQv Z n sz post) args s q_12_isPasted.cells q_12_isPasted.slots (jA Z n sz)) 6 [(0, jr Z 345), (1, jI v1), (2, jI v2), (4, jI v4), (5, jI v5), (6, jI v6)] [] := by
    intro   N
    have hn := hw0.2.2.1
    induction N with
    | zero => intro v5 v6 C rv5 rv6 hw h; exact h.elim
    | succ N ih6 =>
      intro v5 v6 C rv5 rv6 hw h
      have h : wp_12_isPasted_6 v1 v2 v4 post (jI3 (wp_12_isPasted_6 v1 v2 v4 post) N) v5 v6 C := h
      generalize jI3 (wp_12_isPasted_6 v1 v2 v4 post) N = k6 at h ih6
      unfold wp_12_isPasted_6 at h
      refine jg_iload (pc := 6) X d_12_isPasted_6 5 rfl ?_
      refine jg_aload_n (pc := 8) X d_12_isPasted_8 0 rfl ?_
      refine jgf_12_15 (pc := 9) X (jl_345_12 hn) kw_1488 d_12_isPasted_9 ?_
      refine jg_bipush (pc := 12) X d_12_isPasted_12 rfl ?_
      refine jg_iload (pc := 14) X d_12_isPasted_14 3 rfl ?_
      refine jg_imul (pc := 16) X d_12_isPasted_16 ?_
      obtain ⟨b1, b2, h⟩ := h
      refine jg_iaload (len := 72) (pc := 17) X d_12_isPasted_17 (jl_353_1072 hn) (fun _ => rfl) (by decide) b1 b2 ?_
      refine jg_icmp_ge (tgt := 61) (pc := 18) X d_12_isPasted_18 (by decide) rv6 (hw.1 _ _) h (fun c3 h => ?_) (fun c3 h => ?_)
      · have c3 : (C 353 (6 * v4)) ≤ v6 := c3
        exact jg_return (pc := 61) X hAe hlocks hr d_12_isPasted_61 ⟨(Nat.le_of_ble_eq_true rfl), (Nat.le_of_ble_eq_true rfl)⟩ hw h
      · have c3 : ¬ ((C 353 (6 * v4)) ≤ v6) := c3
        refine jg_aload_n (pc := 21) X d_12_isPasted_21 0 rfl ?_
        refine jg_iload_n (pc := 22) X d_12_isPasted_22 1 rfl ?_
        refine jg_iload_n (pc := 23) X d_12_isPasted_23 2 rfl ?_
        refine jg_iload (pc := 24) X d_12_isPasted_24 4 rfl ?_
        refine jg_aload_n (pc := 26) X d_12_isPasted_26 0 rfl ?_
        refine jgf_12_15 (pc := 27) X (jl_345_12 hn) kw_1488 d_12_isPasted_27 ?_
        refine jg_bipush (pc := 30) X d_12_isPasted_30 rfl ?_
        refine jg_iload (pc := 32) X d_12_isPasted_32 3 rfl ?_
        refine jg_imul (pc := 34) X d_12_isPasted_34 ?_
        refine jg_iconst (pc := 35) X d_12_isPasted_35 ?_
        refine jg_iadd (pc := 36) X d_12_isPasted_36 ?_
        refine jg_iload (pc := 37) X d_12_isPasted_37 5 rfl ?_
        refine jg_iadd (pc := 39) X d_12_isPasted_39 ?_
        obtain ⟨b4, b5, h⟩ := h
        refine jg_iaload (len := 72) (pc := 40) X d_12_isPasted_40 (jl_353_1072 hn) (fun _ => rfl) (by decide) b4 b5 ?_
        refine jg_callVv (pc := 41) X (m_12_alters rv1 rv2 rv5 (hw.1 _ _) hw h) jM_12_alters kw_1811 (jl_345_12 hn) rfl rfl rfl rfl rfl (Nat.le_of_ble_eq_true rfl) d_12_isPasted_41 ⟨(Nat.le_of_ble_eq_true rfl), (Nat.le_of_ble_eq_true rfl)⟩ ⟨(Nat.le_of_ble_eq_true rfl), (Nat.le_of_ble_eq_true rfl)⟩ (fun C7 w9 h => ?_)
        refine jg_aload_n (pc := 44) X d_12_isPasted_44 0 rfl ?_
        refine jg_iload_n (pc := 45) X d_12_isPasted_45 1 rfl ?_
        refine jg_iload (pc := 46) X d_12_isPasted_46 4 rfl ?_
        refine jg_iconst (pc := 48) X d_12_isPasted_48 ?_
        refine jg_iadd (pc := 49) X d_12_isPasted_49 ?_
        obtain ⟨r10, h⟩ := h
        refine jg_pcallVi (pc := 50) X (m_12_seenFrom rv1 r10 w9 h) jM_12_seenFrom kw_1863 (jl_345_12 hn) rfl rfl rfl rfl rfl (Nat.le_of_ble_eq_true rfl) d_12_isPasted_50 ⟨(Nat.le_of_ble_eq_true rfl), (Nat.le_of_ble_eq_true rfl)⟩ ⟨(Nat.le_of_ble_eq_true rfl), (Nat.le_of_ble_eq_true rfl)⟩ (fun x11 r13 h => ?_)
        refine jg_istore (pc := 53) X [(5, jI x11), (0, jr Z 345), (1, jI v1), (2, jI v2), (4, jI v4), (6, jI v6)] d_12_isPasted_53 (by decide) rfl ?_
        refine jg_iinc (pc := 55) X [(6, jI (v6 + 1)), (5, jI x11), (0, jr Z 345), (1, jI v1), (2, jI v2), (4, jI v4)] d_12_isPasted_55 5 rfl (by decide) rfl ?_
        refine jg_goto (tgt := 6) (pc := 58) X d_12_isPasted_58 (by decide) ?_
        have r15 : jRng (v6 + 1) := by (unfold jRng; exact ⟨by (have z0 : jRng v6 := rv6; have z1 : jRng (C 353 (6 * v4)) := (hw.1 _ _); unfold jRng at z0 z1; omega), by (have z0 : jRng v6 := rv6; have z1 : jRng (C 353 (6 * v4)) := (hw.1 _ _); unfold jRng at z0 z1; omega)⟩)
        refine jg_sub [2, 3, 4, 5, 1, 0] rfl ?_
        exact ih6 _ _ _ r13 r15 w9 h
  obtain ⟨N, h⟩ := h
  refine jg_sub [2, 3, 4, 6, 1, 0] rfl ?_
  exact jl6   N _ _ _ rv3 (⟨by decide, by decide⟩ : jRng 0) hw0 h
set_option maxHeartbeats 4000000 in
set_option maxRecDepth 100000 in
theorem m_12_paste {l : Launch} {Z : jE} {n : Nat} {C : jC} {v1 : Int} {v2 : Int} {v3 : Int} {post : Int → jC → Prop} (rv1 : jRng v1) (rv2 : jRng v2) (rv3 : jRng v3) (hw0 : jWF n C) (h : wp_12_paste v1 v2 v3 C post) : jCi l y_12_paste prog_14_method_86_code 9 (.int) q_12_paste Z n C [jr Z 345, jI v1, jI v2, jI v3] post := by
  have hn := hw0.2.2.1
  unfold wp_12_paste at h
  refine jCi_of (lv0 := [(0, jr Z 345), (1, jI v1), (2, jI v2), (3, jI v3)]) (by decide) (Nat.le_of_ble_eq_true rfl) rfl ?_
  intro p e s m args below meth c A sz X hAe hr hlocks
  have jb112 : ∀ (s0 : Int) (v1 : Int) (v2 : Int) (v3 : Int) (v5 : Int) (C : jC) (rs0 : jRng s0) (rv1 : jRng v1) (rv2 : jRng v2) (rv3 : jRng v3) (rv5 : jRng v5) (hw : jWF n C), wp_12_paste_112 s0 v1 v2 v3 v5 C post → jG p l e q_12_paste s m args below meth c 9 Z A (jws Z n C) 0 0 (MQ below (jQi Z n sz post) args s q_12_paste.cells q_12_paste.slots (jA Z n sz)) 112 [(0, jr Z 345), (1, jI v1), (2, jI v2), (3, jI v3), (5, jI v5)] [jI s0, jr Z 345] := by
    intro s0 v1 v2 v3 v5 C rs0 rv1 rv2 rv3 rv5 hw h
    unfold wp_12_paste_112 at h
    refine jg_iconst (pc := 112) X d_12_paste_112 ?_
    refine jg_callVi (pc := 113) X (m_12_throwsIf rs0 (⟨by decide, by decide⟩ : jRng 4) hw h) jM_12_throwsIf kw_1697 (jl_345_12 hn) rfl rfl rfl rfl rfl (Nat.le_of_ble_eq_true rfl) d_12_paste_113 ⟨(Nat.le_of_ble_eq_true rfl), (Nat.le_of_ble_eq_true rfl)⟩ ⟨(Nat.le_of_ble_eq_true rfl), (Nat.le_of_ble_eq_true rfl)⟩ (fun x1 C2 r3 w4 h => ?_)
    refine jg_if_eq (tgt := 121) (pc := 116) X d_12_paste_116 (by decide) r3 h (fun c5 h => ?_) (fun c5 h => ?_)
    · refine jg_aload_n (pc := 121) X d_12_paste_121 0 rfl ?_
      refine jgf_12_14 (pc := 122) X (jl_345_12 hn) kw_1487 d_12_paste_122 ?_
      refine jg_iconst (pc := 125) X d_12_paste_125 ?_
      refine jg_iconst (pc := 126) X d_12_paste_126 ?_
      refine jg_iastore (len := 241) (pc := 127) X d_12_paste_127 (jl_352_1241 hn) (fun _ => rfl) (by decide) (by decide) (by decide) ?_
      have w8 := jWF.u (k := 0) (v := 0) w4 (jl_352_1241 hn) (by decide) (⟨by decide, by decide⟩ : jRng 0)
      refine jg_aload_n (pc := 128) X d_12_paste_128 0 rfl ?_
      refine jgf_12_1 (pc := 129) X (jl_345_12 hn) kw_1474 d_12_paste_129 ?_
      refine jg_iconst (pc := 132) X d_12_paste_132 ?_
      refine jg_iaload (len := 8954) (pc := 133) X d_12_paste_133 (jl_346_9954 hn) (fun _ => rfl) (by decide) (by decide) (by decide) ?_
      refine jg_istore (pc := 134) X [(6, jI ((jU C2 352 0 0) 346 2)), (0, jr Z 345), (1, jI v1), (2, jI v2), (3, jI v3), (5, jI v5)] d_12_paste_134 (by decide) rfl ?_
      refine jg_iconst (pc := 136) X d_12_paste_136 ?_
      refine jg_istore (pc := 137) X [(7, jI 0), (6, jI ((jU C2 352 0 0) 346 2)), (0, jr Z 345), (1, jI v1), (2, jI v2), (3, jI v3), (5, jI v5)] d_12_paste_137 (by decide) rfl ?_
      have jl139 : ∀ (v6 : Int) (rv6 : jRng v6) (N : Nat) (v7 : Int) (C : jC) (rv7 : jRng v7) (hw : jWF n C), jI2 (wp_12_paste_139 v1 v2 v3 v5 v6 post) N v7 C → jG p l e q_12_paste s m args below meth c 9 Z A (jws Z n C) 0 0 (MQ below (jQi Z n sz post) args s q_12_paste.cells q_12_paste.slots (jA Z n sz)) 139 [(0, jr Z 345), (1, jI v1), (2, jI v2), (3, jI v3), (5, jI v5), (6, jI v6), (7, jI v7)] [] := by
        intro v6 rv6 N
        have hn := hw0.2.2.1
        induction N with
        | zero => intro v7 C rv7 hw h; exact h.elim
        | succ N ih139 =>
          intro v7 C rv7 hw h
          have h : wp_12_paste_139 v1 v2 v3 v5 v6 post (jI2 (wp_12_paste_139 v1 v2 v3 v5 v6 post) N) v7 C := h
          generalize jI2 (wp_12_paste_139 v1 v2 v3 v5 v6 post) N = k139 at h ih139
          unfold wp_12_paste_139 at h
          have jb182 : ∀ (v7 : Int) (C : jC) (rv7 : jRng v7) (hw : jWF n C), wp_12_paste_182 v1 v2 v3 v5 v6 v7 C post k139 → jG p l e q_12_paste s m args below meth c 9 Z A (jws Z n C) 0 0 (MQ below (jQi Z n sz post) args s q_12_paste.cells q_12_paste.slots (jA Z n sz)) 182 [(0, jr Z 345), (1, jI v1), (2, jI v2), (3, jI v3), (5, jI v5), (6, jI v6), (7, jI v7)] [] := by
            intro v7 C rv7 hw h
            unfold wp_12_paste_182 at h
            refine jg_aload_n (pc := 182) X d_12_paste_182 0 rfl ?_
            refine jg_iload_n (pc := 183) X d_12_paste_183 1 rfl ?_
            refine jg_aload_n (pc := 184) X d_12_paste_184 0 rfl ?_
            refine jg_iload_n (pc := 185) X d_12_paste_185 1 rfl ?_
            refine jg_pcallSi (pc := 186) X (m_12_listOf rv1 hw h) jM_12_listOf kw_1686 rfl rfl (Nat.le_of_ble_eq_true rfl) d_12_paste_186 ⟨(Nat.le_of_ble_eq_true rfl), (Nat.le_of_ble_eq_true rfl)⟩ ⟨(Nat.le_of_ble_eq_true rfl), (Nat.le_of_ble_eq_true rfl)⟩ (fun x11 r13 h => ?_)
            refine jg_iload_n (pc := 189) X d_12_paste_189 2 rfl ?_
            refine jg_iload (pc := 190) X d_12_paste_190 6 rfl ?_
            refine jg_iadd (pc := 192) X d_12_paste_192 ?_
            obtain ⟨r15, h⟩ := h
            refine jg_pcallVi (pc := 193) X (m_12_keyAt r13 r15 hw h) jM_12_keyAt kw_1766 (jl_345_12 hn) rfl rfl rfl rfl rfl (Nat.le_of_ble_eq_true rfl) d_12_paste_193 ⟨(Nat.le_of_ble_eq_true rfl), (Nat.le_of_ble_eq_true rfl)⟩ ⟨(Nat.le_of_ble_eq_true rfl), (Nat.le_of_ble_eq_true rfl)⟩ (fun x16 r18 h => ?_)
            refine jg_iload_n (pc := 196) X d_12_paste_196 3 rfl ?_
            refine jg_iload (pc := 197) X d_12_paste_197 6 rfl ?_
            refine jg_callVv (pc := 199) X (m_12_isPasted rv1 r18 rv3 rv7 hw h) jM_12_isPasted kw_1868 (jl_345_12 hn) rfl rfl rfl rfl rfl (Nat.le_of_ble_eq_true rfl) d_12_paste_199 ⟨(Nat.le_of_ble_eq_true rfl), (Nat.le_of_ble_eq_true rfl)⟩ ⟨(Nat.le_of_ble_eq_true rfl), (Nat.le_of_ble_eq_true rfl)⟩ (fun C21 w23 h => ?_)
            refine jg_iinc (pc := 202) X [(7, jI (v7 + 1)), (0, jr Z 345), (1, jI v1), (2, jI v2), (3, jI v3), (5, jI v5), (6, jI v6)] d_12_paste_202 6 rfl (by decide) rfl ?_
            refine jg_goto (tgt := 139) (pc := 205) X d_12_paste_205 (by decide) ?_
            obtain ⟨r24, h⟩ := h
            refine jg_sub [1, 2, 3, 4, 5, 6, 0] rfl ?_
            exact ih139 _ _ r24 w23 h
          refine jg_iload (pc := 139) X d_12_paste_139 6 rfl ?_
          refine jg_aload_n (pc := 141) X d_12_paste_141 0 rfl ?_
          refine jgf_12_16 (pc := 142) X (jl_345_12 hn) kw_1489 d_12_paste_142 ?_
          refine jg_icmp_ge (tgt := 208) (pc := 145) X d_12_paste_145 (by decide) rv7 (hw.1 _ _) h (fun c25 h => ?_) (fun c25 h => ?_)
          · have c25 : (C 345 16) ≤ v7 := c25
            refine jg_iload (pc := 208) X d_12_paste_208 5 rfl ?_
            refine jg_istore (pc := 210) X [(7, jI v6), (0, jr Z 345), (1, jI v1), (2, jI v2), (3, jI v3), (5, jI v5), (6, jI v6)] d_12_paste_210 (by decide) rfl ?_
            have jl212 : ∀  (N : Nat) (v7 : Int) (C : jC) (rv7 : jRng v7) (hw : jWF n C), jI2 (wp_12_paste_212 v1 post) N v7 C → jG p l e q_12_paste s m args below meth c 9 Z A (jws Z n C) 0 0 (MQ below (jQi Z n sz post) args s q_12_paste.cells q_12_paste.slots (jA Z n sz)) 212 [(0, jr Z 345), (1, jI v1), (7, jI v7)] [] := by
              intro   N
              have hn := hw0.2.2.1
              induction N with
              | zero => intro v7 C rv7 hw h; exact h.elim
              | succ N ih212 =>
                intro v7 C rv7 hw h
                have h : wp_12_paste_212 v1 post (jI2 (wp_12_paste_212 v1 post) N) v7 C := h
                generalize jI2 (wp_12_paste_212 v1 post) N = k212 at h ih212
                unfold wp_12_paste_212 at h
                refine jg_iload (pc := 212) X d_12_paste_212 2 rfl ?_
                refine jg_aload_n (pc := 214) X d_12_paste_214 0 rfl ?_
                refine jgf_12_1 (pc := 215) X (jl_345_12 hn) kw_1474 d_12_paste_215 ?_
                refine jg_iconst (pc := 218) X d_12_paste_218 ?_
                refine jg_iaload (len := 8954) (pc := 219) X d_12_paste_219 (jl_346_9954 hn) (fun _ => rfl) (by decide) (by decide) (by decide) ?_
                refine jg_icmp_ge (tgt := 272) (pc := 220) X d_12_paste_220 (by decide) rv7 (hw.1 _ _) h (fun c28 h => ?_) (fun c28 h => ?_)
                · have c28 : (C 346 2) ≤ v7 := c28
                  refine jg_aload_n (pc := 272) X d_12_paste_272 0 rfl ?_
                  refine jg_iload_n (pc := 273) X d_12_paste_273 1 rfl ?_
                  refine jg_callVi (pc := 274) X (m_12_isEdit rv1 hw h) jM_12_isEdit kw_1820 (jl_345_12 hn) rfl rfl rfl rfl rfl (Nat.le_of_ble_eq_true rfl) d_12_paste_274 ⟨(Nat.le_of_ble_eq_true rfl), (Nat.le_of_ble_eq_true rfl)⟩ ⟨(Nat.le_of_ble_eq_true rfl), (Nat.le_of_ble_eq_true rfl)⟩ (fun x29 C30 r31 w32 h => ?_)
                  exact jg_ireturn (pc := 277) X hAe hlocks hr d_12_paste_277 ⟨(Nat.le_of_ble_eq_true rfl), (Nat.le_of_ble_eq_true rfl)⟩ rfl r31 w32 h
                · have c28 : ¬ ((C 346 2) ≤ v7) := c28
                  refine jg_iconst (pc := 223) X d_12_paste_223 ?_
                  refine jg_istore (pc := 224) X [(8, jI 0), (0, jr Z 345), (1, jI v1), (7, jI v7)] d_12_paste_224 (by decide) rfl ?_
                  have jl226 : ∀  (N : Nat) (v8 : Int) (C : jC) (rv8 : jRng v8) (hw : jWF n C), jI2 (wp_12_paste_226 v1 v7 post k212) N v8 C → jG p l e q_12_paste s m args below meth c 9 Z A (jws Z n C) 0 0 (MQ below (jQi Z n sz post) args s q_12_paste.cells q_12_paste.slots (jA Z n sz)) 226 [(0, jr Z 345), (1, jI v1), (7, jI v7), (8, jI v8)] [] := by
                    intro   N
                    have hn := hw0.2.2.1
                    induction N with
                    | zero => intro v8 C rv8 hw h; exact h.elim
                    | succ N ih226 =>
                      intro v8 C rv8 hw h
                      have h : wp_12_paste_226 v1 v7 post k212 (jI2 (wp_12_paste_226 v1 v7 post k212) N) v8 C := h
                      generalize jI2 (wp_12_paste_226 v1 v7 post k212) N = k226 at h ih226
                      unfold wp_12_paste_226 at h
                      refine jg_iload (pc := 226) X d_12_paste_226 3 rfl ?_
                      refine jg_iconst (pc := 228) X d_12_paste_228 ?_
                      refine jg_icmp_ge (tgt := 266) (pc := 229) X d_12_paste_229 (by decide) rv8 (⟨by decide, by decide⟩ : jRng 4) h (fun c33 h => ?_) (fun c33 h => ?_)
                      · refine jg_iinc (pc := 266) X [(7, jI (v7 + 1)), (0, jr Z 345), (1, jI v1), (8, jI v8)] d_12_paste_266 2 rfl (by decide) rfl ?_
                        refine jg_goto (tgt := 212) (pc := 269) X d_12_paste_269 (by decide) ?_
                        obtain ⟨r34, h⟩ := h
                        refine jg_sub [1, 2, 0] rfl ?_
                        exact ih212 _ _ r34 hw h
                      · refine jg_iload (pc := 232) X d_12_paste_232 3 rfl ?_
                        refine jg_iload_n (pc := 234) X d_12_paste_234 1 rfl ?_
                        refine jg_icmp_eq (tgt := 260) (pc := 235) X d_12_paste_235 (by decide) rv8 rv1 h (fun c35 h => ?_) (fun c35 h => ?_)
                        · refine jg_iinc (pc := 260) X [(8, jI (v8 + 1)), (0, jr Z 345), (1, jI v1), (7, jI v7)] d_12_paste_260 3 rfl (by decide) rfl ?_
                          refine jg_goto (tgt := 226) (pc := 263) X d_12_paste_263 (by decide) ?_
                          have r36 : jRng (v8 + 1) := by (unfold jRng; exact ⟨by (have z0 : jRng v8 := rv8; have z1 : jRng v1 := rv1; unfold jRng at z0 z1; omega), by (have z0 : jRng v8 := rv8; have z1 : jRng v1 := rv1; unfold jRng at z0 z1; omega)⟩)
                          refine jg_sub [1, 2, 3, 0] rfl ?_
                          exact ih226 _ _ r36 hw h
                        · refine jg_aload_n (pc := 238) X d_12_paste_238 0 rfl ?_
                          refine jg_iload (pc := 239) X d_12_paste_239 3 rfl ?_
                          refine jg_iload (pc := 241) X d_12_paste_241 2 rfl ?_
                          refine jg_pcallVi (pc := 243) X (m_12_isFit rv8 rv7 hw h) jM_12_isFit kw_1653 (jl_345_12 hn) rfl rfl rfl rfl rfl (Nat.le_of_ble_eq_true rfl) d_12_paste_243 ⟨(Nat.le_of_ble_eq_true rfl), (Nat.le_of_ble_eq_true rfl)⟩ ⟨(Nat.le_of_ble_eq_true rfl), (Nat.le_of_ble_eq_true rfl)⟩ (fun x37 r39 h => ?_)
                          refine jg_if_eq (tgt := 260) (pc := 246) X d_12_paste_246 (by decide) r39 h (fun c41 h => ?_) (fun c41 h => ?_)
                          · refine jg_iinc (pc := 260) X [(8, jI (v8 + 1)), (0, jr Z 345), (1, jI v1), (7, jI v7)] d_12_paste_260 3 rfl (by decide) rfl ?_
                            refine jg_goto (tgt := 226) (pc := 263) X d_12_paste_263 (by decide) ?_
                            have r42 : jRng (v8 + 1) := by (unfold jRng; exact ⟨by (have z0 : jRng v8 := rv8; unfold jRng at z0; omega), by (have z0 : jRng v8 := rv8; unfold jRng at z0; omega)⟩)
                            refine jg_sub [1, 2, 3, 0] rfl ?_
                            exact ih226 _ _ r42 hw h
                          · refine jg_aload_n (pc := 249) X d_12_paste_249 0 rfl ?_
                            refine jg_iload (pc := 250) X d_12_paste_250 3 rfl ?_
                            refine jg_pcallSi (pc := 252) X (m_12_listOf rv8 hw h) jM_12_listOf kw_1686 rfl rfl (Nat.le_of_ble_eq_true rfl) d_12_paste_252 ⟨(Nat.le_of_ble_eq_true rfl), (Nat.le_of_ble_eq_true rfl)⟩ ⟨(Nat.le_of_ble_eq_true rfl), (Nat.le_of_ble_eq_true rfl)⟩ (fun x43 r45 h => ?_)
                            refine jg_iload (pc := 255) X d_12_paste_255 2 rfl ?_
                            refine jg_callVv (pc := 257) X (m_12_putsLast r45 rv7 hw h) jM_12_putsLast kw_1645 (jl_345_12 hn) rfl rfl rfl rfl rfl (Nat.le_of_ble_eq_true rfl) d_12_paste_257 ⟨(Nat.le_of_ble_eq_true rfl), (Nat.le_of_ble_eq_true rfl)⟩ ⟨(Nat.le_of_ble_eq_true rfl), (Nat.le_of_ble_eq_true rfl)⟩ (fun C48 w50 h => ?_)
                            refine jg_iinc (pc := 260) X [(8, jI (v8 + 1)), (0, jr Z 345), (1, jI v1), (7, jI v7)] d_12_paste_260 3 rfl (by decide) rfl ?_
                            refine jg_goto (tgt := 226) (pc := 263) X d_12_paste_263 (by decide) ?_
                            have r51 : jRng (v8 + 1) := by (unfold jRng; exact ⟨by (have z0 : jRng v8 := rv8; unfold jRng at z0; omega), by (have z0 : jRng v8 := rv8; unfold jRng at z0; omega)⟩)
                            refine jg_sub [1, 2, 3, 0] rfl ?_
                            exact ih226 _ _ r51 w50 h
                  obtain ⟨N, h⟩ := h
                  refine jg_sub [1, 2, 3, 0] rfl ?_
                  exact jl226   N _ _ (⟨by decide, by decide⟩ : jRng 0) hw h
            obtain ⟨N, h⟩ := h
            refine jg_sub [1, 2, 0] rfl ?_
            exact jl212   N _ _ rv6 hw h
          · have c25 : ¬ ((C 345 16) ≤ v7) := c25
            refine jg_iload_n (pc := 148) X d_12_paste_148 2 rfl ?_
            refine jg_iload (pc := 149) X d_12_paste_149 6 rfl ?_
            refine jg_iadd (pc := 151) X d_12_paste_151 ?_
            refine jg_iload (pc := 152) X d_12_paste_152 4 rfl ?_
            obtain ⟨r52, h⟩ := h
            refine jg_icmp_lt (tgt := 182) (pc := 154) X d_12_paste_154 (by decide) r52 rv5 h (fun c53 h => ?_) (fun c53 h => ?_)
            · refine jg_sub [0, 1, 2, 3, 4, 5, 6] rfl ?_
              exact jb182 _ _ rv7 hw h
            · refine jg_aload_n (pc := 157) X d_12_paste_157 0 rfl ?_
              refine jg_callVi (pc := 158) X (m_12_comes hw h) jM_12_comes kw_1613 (jl_345_12 hn) rfl rfl rfl rfl rfl (Nat.le_of_ble_eq_true rfl) d_12_paste_158 ⟨(Nat.le_of_ble_eq_true rfl), (Nat.le_of_ble_eq_true rfl)⟩ ⟨(Nat.le_of_ble_eq_true rfl), (Nat.le_of_ble_eq_true rfl)⟩ (fun x54 C55 r56 w57 h => ?_)
              refine jg_istore (pc := 161) X [(8, jI x54), (0, jr Z 345), (1, jI v1), (2, jI v2), (3, jI v3), (5, jI v5), (6, jI v6), (7, jI v7)] d_12_paste_161 (by decide) rfl ?_
              refine jg_aload_n (pc := 163) X d_12_paste_163 1 rfl ?_
              refine jg_sipush (pc := 164) X d_12_paste_164 rfl ?_
              refine jg_iload (pc := 167) X d_12_paste_167 0 rfl ?_
              refine jg_callVv (pc := 169) X (m_12_putsLast (⟨by decide, by decide⟩ : jRng 273) r56 w57 h) jM_12_putsLast kw_1645 (jl_345_12 hn) rfl rfl rfl rfl rfl (Nat.le_of_ble_eq_true rfl) d_12_paste_169 ⟨(Nat.le_of_ble_eq_true rfl), (Nat.le_of_ble_eq_true rfl)⟩ ⟨(Nat.le_of_ble_eq_true rfl), (Nat.le_of_ble_eq_true rfl)⟩ (fun C59 w61 h => ?_)
              refine jg_aload_n (pc := 172) X d_12_paste_172 1 rfl ?_
              refine jg_iload_n (pc := 173) X d_12_paste_173 2 rfl ?_
              refine jg_pcallSi (pc := 174) X (m_12_listOf rv1 w61 h) jM_12_listOf kw_1686 rfl rfl (Nat.le_of_ble_eq_true rfl) d_12_paste_174 ⟨(Nat.le_of_ble_eq_true rfl), (Nat.le_of_ble_eq_true rfl)⟩ ⟨(Nat.le_of_ble_eq_true rfl), (Nat.le_of_ble_eq_true rfl)⟩ (fun x62 r64 h => ?_)
              refine jg_iload (pc := 177) X d_12_paste_177 0 rfl ?_
              refine jg_callVv (pc := 179) X (m_12_putsLast r64 r56 w61 h) jM_12_putsLast kw_1645 (jl_345_12 hn) rfl rfl rfl rfl rfl (Nat.le_of_ble_eq_true rfl) d_12_paste_179 ⟨(Nat.le_of_ble_eq_true rfl), (Nat.le_of_ble_eq_true rfl)⟩ ⟨(Nat.le_of_ble_eq_true rfl), (Nat.le_of_ble_eq_true rfl)⟩ (fun C67 w69 h => ?_)
              refine jg_sub [1, 2, 3, 4, 5, 6, 7] rfl ?_
              exact jb182 _ _ rv7 w69 h
      obtain ⟨N, h⟩ := h
      refine jg_sub [2, 3, 4, 5, 6, 1, 0] rfl ?_
      exact jl139 _ (w8.1 _ _) N _ _ (⟨by decide, by decide⟩ : jRng 0) w8 h
    · refine jg_iconst (pc := 119) X d_12_paste_119 ?_
      exact jg_ireturn (pc := 120) X hAe hlocks hr d_12_paste_120 ⟨(Nat.le_of_ble_eq_true rfl), (Nat.le_of_ble_eq_true rfl)⟩ rfl (⟨by decide, by decide⟩ : jRng 0) w4 h
  have jb76 : ∀ (s0 : Int) (v1 : Int) (v2 : Int) (v3 : Int) (v5 : Int) (C : jC) (rs0 : jRng s0) (rv1 : jRng v1) (rv2 : jRng v2) (rv3 : jRng v3) (rv5 : jRng v5) (hw : jWF n C), wp_12_paste_76 s0 v1 v2 v3 v5 C post → jG p l e q_12_paste s m args below meth c 9 Z A (jws Z n C) 0 0 (MQ below (jQi Z n sz post) args s q_12_paste.cells q_12_paste.slots (jA Z n sz)) 76 [(0, jr Z 345), (1, jI v1), (2, jI v2), (3, jI v3), (5, jI v5)] [jI s0, jr Z 345] := by
    intro s0 v1 v2 v3 v5 C rs0 rv1 rv2 rv3 rv5 hw h
    unfold wp_12_paste_76 at h
    refine jg_iconst (pc := 76) X d_12_paste_76 ?_
    refine jg_callVi (pc := 77) X (m_12_throwsIf rs0 (⟨by decide, by decide⟩ : jRng 3) hw h) jM_12_throwsIf kw_1697 (jl_345_12 hn) rfl rfl rfl rfl rfl (Nat.le_of_ble_eq_true rfl) d_12_paste_77 ⟨(Nat.le_of_ble_eq_true rfl), (Nat.le_of_ble_eq_true rfl)⟩ ⟨(Nat.le_of_ble_eq_true rfl), (Nat.le_of_ble_eq_true rfl)⟩ (fun x70 C71 r72 w73 h => ?_)
    refine jg_if_ne (tgt := 119) (pc := 80) X d_12_paste_80 (by decide) r72 h (fun c74 h => ?_) (fun c74 h => ?_)
    · refine jg_aload_n (pc := 83) X d_12_paste_83 0 rfl ?_
      refine jg_aload_n (pc := 84) X d_12_paste_84 0 rfl ?_
      refine jg_pcallVi (pc := 85) X (m_12_rows w73 h) jM_12_rows kw_1605 (jl_345_12 hn) rfl rfl rfl rfl rfl (Nat.le_of_ble_eq_true rfl) d_12_paste_85 ⟨(Nat.le_of_ble_eq_true rfl), (Nat.le_of_ble_eq_true rfl)⟩ ⟨(Nat.le_of_ble_eq_true rfl), (Nat.le_of_ble_eq_true rfl)⟩ (fun x75 r77 h => ?_)
      refine jg_iconst (pc := 88) X d_12_paste_88 ?_
      refine jg_iload_n (pc := 89) X d_12_paste_89 2 rfl ?_
      refine jg_aload_n (pc := 90) X d_12_paste_90 0 rfl ?_
      refine jgf_12_16 (pc := 91) X (jl_345_12 hn) kw_1489 d_12_paste_91 ?_
      refine jg_iadd (pc := 94) X d_12_paste_94 ?_
      refine jg_iload (pc := 95) X d_12_paste_95 4 rfl ?_
      refine jg_isub (pc := 97) X d_12_paste_97 ?_
      obtain ⟨r79, h⟩ := h
      have r80 : jRng (max 0 ((v2 + (C71 345 16)) - v5)) := jrng_max (⟨by decide, by decide⟩ : jRng 0) r79
      refine jg_max (pc := 98) X kw_1867 d_12_paste_98 kw_max1 kw_ma kw_max2 ⟨(Nat.le_of_ble_eq_true rfl), (Nat.le_of_ble_eq_true rfl), (Nat.le_of_ble_eq_true rfl), (Nat.le_of_ble_eq_true rfl)⟩ (⟨by decide, by decide⟩ : jRng 0) r79 ?_
      refine jg_iadd (pc := 101) X d_12_paste_101 ?_
      refine jg_bipush (pc := 102) X d_12_paste_102 rfl ?_
      obtain ⟨r81, h⟩ := h
      refine jg_icmp_le (tgt := 111) (pc := 104) X d_12_paste_104 (by decide) r81 (⟨by decide, by decide⟩ : jRng 24) h (fun c82 h => ?_) (fun c82 h => ?_)
      · have c82 : (x75 + (max 0 ((v2 + (C71 345 16)) - v5))) ≤ 24 := c82
        refine jg_iconst (pc := 111) X d_12_paste_111 ?_
        refine jg_sub [0, 1, 2, 3, 4] rfl ?_
        exact jb112 _ _ _ _ _ _ (⟨by decide, by decide⟩ : jRng 0) rv1 rv2 rv3 rv5 w73 h
      · have c82 : ¬ ((x75 + (max 0 ((v2 + (C71 345 16)) - v5))) ≤ 24) := c82
        refine jg_iconst (pc := 107) X d_12_paste_107 ?_
        refine jg_goto (tgt := 112) (pc := 108) X d_12_paste_108 (by decide) ?_
        refine jg_sub [0, 1, 2, 3, 4] rfl ?_
        exact jb112 _ _ _ _ _ _ (⟨by decide, by decide⟩ : jRng 1) rv1 rv2 rv3 rv5 w73 h
    · refine jg_iconst (pc := 119) X d_12_paste_119 ?_
      exact jg_ireturn (pc := 120) X hAe hlocks hr d_12_paste_120 ⟨(Nat.le_of_ble_eq_true rfl), (Nat.le_of_ble_eq_true rfl)⟩ rfl (⟨by decide, by decide⟩ : jRng 0) w73 h
  refine jg_aload_n (pc := 0) X d_12_paste_0 0 rfl ?_
  refine jg_callVv (pc := 1) X (m_12_uses hw0 h) jM_12_uses kw_1555 (jl_345_12 hn) rfl rfl rfl rfl rfl (Nat.le_of_ble_eq_true rfl) d_12_paste_1 ⟨(Nat.le_of_ble_eq_true rfl), (Nat.le_of_ble_eq_true rfl)⟩ ⟨(Nat.le_of_ble_eq_true rfl), (Nat.le_of_ble_eq_true rfl)⟩ (fun C84 w86 h => ?_)
  refine jg_aload_n (pc := 4) X d_12_paste_4 0 rfl ?_
  refine jg_iload_n (pc := 5) X d_12_paste_5 1 rfl ?_
  refine jg_iload_n (pc := 6) X d_12_paste_6 2 rfl ?_
  refine jg_iload_n (pc := 7) X d_12_paste_7 3 rfl ?_
  refine jg_callVi (pc := 8) X (m_12_noCell rv1 rv2 rv3 w86 h) jM_12_noCell kw_1790 (jl_345_12 hn) rfl rfl rfl rfl rfl (Nat.le_of_ble_eq_true rfl) d_12_paste_8 ⟨(Nat.le_of_ble_eq_true rfl), (Nat.le_of_ble_eq_true rfl)⟩ ⟨(Nat.le_of_ble_eq_true rfl), (Nat.le_of_ble_eq_true rfl)⟩ (fun x87 C88 r89 w90 h => ?_)
  refine jg_if_ne (tgt := 28) (pc := 11) X d_12_paste_11 (by decide) r89 h (fun c91 h => ?_) (fun c91 h => ?_)
  · refine jg_aload_n (pc := 14) X d_12_paste_14 0 rfl ?_
    refine jg_aload_n (pc := 15) X d_12_paste_15 0 rfl ?_
    refine jg_iload_n (pc := 16) X d_12_paste_16 1 rfl ?_
    refine jg_iload_n (pc := 17) X d_12_paste_17 3 rfl ?_
    refine jg_pcallVi (pc := 18) X (m_12_isHidden rv1 rv3 w90 h) jM_12_isHidden kw_1802 (jl_345_12 hn) rfl rfl rfl rfl rfl (Nat.le_of_ble_eq_true rfl) d_12_paste_18 ⟨(Nat.le_of_ble_eq_true rfl), (Nat.le_of_ble_eq_true rfl)⟩ ⟨(Nat.le_of_ble_eq_true rfl), (Nat.le_of_ble_eq_true rfl)⟩ (fun x92 r94 h => ?_)
    refine jg_iconst (pc := 21) X d_12_paste_21 ?_
    refine jg_callVi (pc := 22) X (m_12_throwsIf r94 (⟨by decide, by decide⟩ : jRng 2) w90 h) jM_12_throwsIf kw_1697 (jl_345_12 hn) rfl rfl rfl rfl rfl (Nat.le_of_ble_eq_true rfl) d_12_paste_22 ⟨(Nat.le_of_ble_eq_true rfl), (Nat.le_of_ble_eq_true rfl)⟩ ⟨(Nat.le_of_ble_eq_true rfl), (Nat.le_of_ble_eq_true rfl)⟩ (fun x96 C97 r98 w99 h => ?_)
    refine jg_if_eq (tgt := 30) (pc := 25) X d_12_paste_25 (by decide) r98 h (fun c100 h => ?_) (fun c100 h => ?_)
    · refine jg_aload_n (pc := 30) X d_12_paste_30 0 rfl ?_
      refine jg_iload_n (pc := 31) X d_12_paste_31 1 rfl ?_
      refine jg_iload_n (pc := 32) X d_12_paste_32 3 rfl ?_
      refine jg_callVi (pc := 33) X (m_12_readGrids rv1 rv3 w99 h) jM_12_readGrids kw_1855 (jl_345_12 hn) rfl rfl rfl rfl rfl (Nat.le_of_ble_eq_true rfl) d_12_paste_33 ⟨(Nat.le_of_ble_eq_true rfl), (Nat.le_of_ble_eq_true rfl)⟩ ⟨(Nat.le_of_ble_eq_true rfl), (Nat.le_of_ble_eq_true rfl)⟩ (fun x101 C102 r103 w104 h => ?_)
      refine jg_istore (pc := 36) X [(4, jI x101), (0, jr Z 345), (1, jI v1), (2, jI v2), (3, jI v3)] d_12_paste_36 (by decide) rfl ?_
      refine jg_aload_n (pc := 38) X d_12_paste_38 1 rfl ?_
      refine jg_iload (pc := 39) X d_12_paste_39 0 rfl ?_
      refine jg_if_eq (tgt := 48) (pc := 41) X d_12_paste_41 (by decide) r103 h (fun c105 h => ?_) (fun c105 h => ?_)
      · refine jg_aload_n (pc := 48) X d_12_paste_48 1 rfl ?_
        refine jgf_12_9 (pc := 49) X (jl_345_12 hn) kw_1482 d_12_paste_49 ?_
        refine jgp_12_11 (pc := 52) X (jl_345_12 hn) kw_1484 d_12_paste_52 ?_
        have w106 := jWF.u (k := 11) (v := (C102 345 9)) w104 (jl_345_12 hn) (by decide) (w104.1 _ _)
        refine jg_aload_n (pc := 55) X d_12_paste_55 1 rfl ?_
        refine jg_iload_n (pc := 56) X d_12_paste_56 2 rfl ?_
        refine jg_pcallSi (pc := 57) X (m_12_listOf rv1 w106 h) jM_12_listOf kw_1686 rfl rfl (Nat.le_of_ble_eq_true rfl) d_12_paste_57 ⟨(Nat.le_of_ble_eq_true rfl), (Nat.le_of_ble_eq_true rfl)⟩ ⟨(Nat.le_of_ble_eq_true rfl), (Nat.le_of_ble_eq_true rfl)⟩ (fun x107 r109 h => ?_)
        refine jg_pcallVi (pc := 60) X (m_12_size r109 w106 h) jM_12_size kw_1609 (jl_345_12 hn) rfl rfl rfl rfl rfl (Nat.le_of_ble_eq_true rfl) d_12_paste_60 ⟨(Nat.le_of_ble_eq_true rfl), (Nat.le_of_ble_eq_true rfl)⟩ ⟨(Nat.le_of_ble_eq_true rfl), (Nat.le_of_ble_eq_true rfl)⟩ (fun x111 r113 h => ?_)
        refine jg_istore (pc := 63) X [(5, jI x111), (4, jI x101), (0, jr Z 345), (1, jI v1), (2, jI v2), (3, jI v3)] d_12_paste_63 (by decide) rfl ?_
        refine jg_aload_n (pc := 65) X d_12_paste_65 2 rfl ?_
        refine jg_iload (pc := 66) X d_12_paste_66 1 rfl ?_
        refine jg_if_ne (tgt := 75) (pc := 68) X d_12_paste_68 (by decide) r103 h (fun c115 h => ?_) (fun c115 h => ?_)
        · refine jg_iconst (pc := 71) X d_12_paste_71 ?_
          refine jg_goto (tgt := 76) (pc := 72) X d_12_paste_72 (by decide) ?_
          refine jg_sub [2, 3, 4, 5, 0] rfl ?_
          exact jb76 _ _ _ _ _ _ (⟨by decide, by decide⟩ : jRng 1) rv1 rv2 rv3 r113 w106 h
        · refine jg_iconst (pc := 75) X d_12_paste_75 ?_
          refine jg_sub [2, 3, 4, 5, 0] rfl ?_
          exact jb76 _ _ _ _ _ _ (⟨by decide, by decide⟩ : jRng 0) rv1 rv2 rv3 r113 w106 h
      · refine jg_iconst (pc := 44) X d_12_paste_44 ?_
        refine jg_goto (tgt := 52) (pc := 45) X d_12_paste_45 (by decide) ?_
        refine jgp_12_11 (pc := 52) X (jl_345_12 hn) kw_1484 d_12_paste_52 ?_
        have w116 := jWF.u (k := 11) (v := (-1)) w104 (jl_345_12 hn) (by decide) (⟨by decide, by decide⟩ : jRng (-1))
        refine jg_aload_n (pc := 55) X d_12_paste_55 1 rfl ?_
        refine jg_iload_n (pc := 56) X d_12_paste_56 2 rfl ?_
        refine jg_pcallSi (pc := 57) X (m_12_listOf rv1 w116 h) jM_12_listOf kw_1686 rfl rfl (Nat.le_of_ble_eq_true rfl) d_12_paste_57 ⟨(Nat.le_of_ble_eq_true rfl), (Nat.le_of_ble_eq_true rfl)⟩ ⟨(Nat.le_of_ble_eq_true rfl), (Nat.le_of_ble_eq_true rfl)⟩ (fun x117 r119 h => ?_)
        refine jg_pcallVi (pc := 60) X (m_12_size r119 w116 h) jM_12_size kw_1609 (jl_345_12 hn) rfl rfl rfl rfl rfl (Nat.le_of_ble_eq_true rfl) d_12_paste_60 ⟨(Nat.le_of_ble_eq_true rfl), (Nat.le_of_ble_eq_true rfl)⟩ ⟨(Nat.le_of_ble_eq_true rfl), (Nat.le_of_ble_eq_true rfl)⟩ (fun x121 r123 h => ?_)
        refine jg_istore (pc := 63) X [(5, jI x121), (4, jI x101), (0, jr Z 345), (1, jI v1), (2, jI v2), (3, jI v3)] d_12_paste_63 (by decide) rfl ?_
        refine jg_aload_n (pc := 65) X d_12_paste_65 2 rfl ?_
        refine jg_iload (pc := 66) X d_12_paste_66 1 rfl ?_
        refine jg_if_ne (tgt := 75) (pc := 68) X d_12_paste_68 (by decide) r103 h (fun c125 h => ?_) (fun c125 h => ?_)
        · refine jg_iconst (pc := 71) X d_12_paste_71 ?_
          refine jg_goto (tgt := 76) (pc := 72) X d_12_paste_72 (by decide) ?_
          refine jg_sub [2, 3, 4, 5, 0] rfl ?_
          exact jb76 _ _ _ _ _ _ (⟨by decide, by decide⟩ : jRng 1) rv1 rv2 rv3 r123 w116 h
        · refine jg_iconst (pc := 75) X d_12_paste_75 ?_
          refine jg_sub [2, 3, 4, 5, 0] rfl ?_
          exact jb76 _ _ _ _ _ _ (⟨by decide, by decide⟩ : jRng 0) rv1 rv2 rv3 r123 w116 h
    · refine jg_iconst (pc := 28) X d_12_paste_28 ?_
      exact jg_ireturn (pc := 29) X hAe hlocks hr d_12_paste_29 ⟨(Nat.le_of_ble_eq_true rfl), (Nat.le_of_ble_eq_true rfl)⟩ rfl (⟨by decide, by decide⟩ : jRng 0) w99 h
  · refine jg_iconst (pc := 28) X d_12_paste_28 ?_
    exact jg_ireturn (pc := 29) X hAe hlocks hr d_12_paste_29 ⟨(Nat.le_of_ble_eq_true rfl), (Nat.le_of_ble_eq_true rfl)⟩ rfl (⟨by decide, by decide⟩ : jRng 0) w90 h
set_option maxHeartbeats 4000000 in
set_option maxRecDepth 100000 in
theorem m_12_stands {l : Launch} {Z : jE} {n : Nat} {C : jC} {v1 : Int} {post : Int → Prop} (rv1 : jRng v1) (hw0 : jWF n C) (h : wp_12_stands v1 C post) : jCi l y_12_stands prog_14_method_87_code 3 (.boolean) q_12_stands Z n C [jr Z 345, jI v1] (fun x C9 => C9 = C ∧ post x) := by
  have hn := hw0.2.2.1
  unfold wp_12_stands at h
  refine jCi_of (lv0 := [(0, jr Z 345), (1, jI v1)]) (by decide) (Nat.le_of_ble_eq_true rfl) rfl ?_
  intro p e s m args below meth c A sz X hAe hr hlocks
  refine jg_aload_n (pc := 0) X d_12_stands_0 0 rfl ?_
  refine jg_aload_n (pc := 1) X d_12_stands_1 0 rfl ?_
  refine jgf_12_1 (pc := 2) X (jl_345_12 hn) kw_1474 d_12_stands_2 ?_
  refine jg_iload_n (pc := 5) X d_12_stands_5 1 rfl ?_
  obtain ⟨b1, b2, h⟩ := h
  refine jg_iaload (len := 8954) (pc := 6) X d_12_stands_6 (jl_346_9954 hn) (fun _ => rfl) (by decide) b1 b2 ?_
  refine jg_pcallVi (pc := 7) X (m_12_rowOf (hw0.1 _ _) hw0 h) jM_12_rowOf kw_1641 (jl_345_12 hn) rfl rfl rfl rfl rfl (Nat.le_of_ble_eq_true rfl) d_12_stands_7 ⟨(Nat.le_of_ble_eq_true rfl), (Nat.le_of_ble_eq_true rfl)⟩ ⟨(Nat.le_of_ble_eq_true rfl), (Nat.le_of_ble_eq_true rfl)⟩ (fun x3 r5 h => ?_)
  refine jg_istore_n (pc := 10) X [(2, jI x3), (0, jr Z 345), (1, jI v1)] d_12_stands_10 (by decide) rfl ?_
  refine jg_iload_n (pc := 11) X d_12_stands_11 0 rfl ?_
  refine jg_iconst (pc := 12) X d_12_stands_12 ?_
  refine jg_icmp_eq (tgt := 48) (pc := 13) X d_12_stands_13 (by decide) r5 (⟨by decide, by decide⟩ : jRng (-1)) h (fun c7 h => ?_) (fun c7 h => ?_)
  · refine jg_iconst (pc := 48) X d_12_stands_48 ?_
    exact jg_ireturn (pc := 49) X hAe hlocks hr d_12_stands_49 ⟨(Nat.le_of_ble_eq_true rfl), (Nat.le_of_ble_eq_true rfl)⟩ rfl (⟨by decide, by decide⟩ : jRng 0) hw0 ⟨rfl, h⟩
  · refine jg_aload_n (pc := 16) X d_12_stands_16 1 rfl ?_
    refine jgf_12_1 (pc := 17) X (jl_345_12 hn) kw_1474 d_12_stands_17 ?_
    refine jg_iload_n (pc := 20) X d_12_stands_20 0 rfl ?_
    refine jg_iconst (pc := 21) X d_12_stands_21 ?_
    refine jg_iadd (pc := 22) X d_12_stands_22 ?_
    refine jg_aload_n (pc := 23) X d_12_stands_23 1 rfl ?_
    refine jgf_12_1 (pc := 24) X (jl_345_12 hn) kw_1474 d_12_stands_24 ?_
    refine jg_iload_n (pc := 27) X d_12_stands_27 2 rfl ?_
    refine jg_iconst (pc := 28) X d_12_stands_28 ?_
    refine jg_iadd (pc := 29) X d_12_stands_29 ?_
    obtain ⟨b9, h⟩ := h
    have b8 : 0 ≤ (v1 + 1) := by (have z0 : jRng v1 := rv1; unfold jRng at z0; omega)
    refine jg_iaload (len := 8954) (pc := 30) X d_12_stands_30 (jl_346_9954 hn) (fun _ => rfl) (by decide) b8 b9 ?_
    refine jg_iadd (pc := 31) X d_12_stands_31 ?_
    obtain ⟨b10, b11, h⟩ := h
    refine jg_iaload (len := 8954) (pc := 32) X d_12_stands_32 (jl_346_9954 hn) (fun _ => rfl) (by decide) b10 b11 ?_
    refine jg_aload_n (pc := 33) X d_12_stands_33 1 rfl ?_
    refine jgf_12_1 (pc := 34) X (jl_345_12 hn) kw_1474 d_12_stands_34 ?_
    refine jg_iload_n (pc := 37) X d_12_stands_37 2 rfl ?_
    refine jg_iconst (pc := 38) X d_12_stands_38 ?_
    refine jg_iadd (pc := 39) X d_12_stands_39 ?_
    obtain ⟨b13, h⟩ := h
    have b12 : 0 ≤ (v1 + 3) := by (have z0 : jRng v1 := rv1; unfold jRng at z0; omega)
    refine jg_iaload (len := 8954) (pc := 40) X d_12_stands_40 (jl_346_9954 hn) (fun _ => rfl) (by decide) b12 b13 ?_
    refine jg_icmp_ne (tgt := 48) (pc := 41) X d_12_stands_41 (by decide) (hw0.1 _ _) (hw0.1 _ _) h (fun c14 h => ?_) (fun c14 h => ?_)
    · have c14 : (C 346 ((x3 + 1) + (C 346 (v1 + 1)))) = (C 346 (v1 + 3)) := c14
      refine jg_iconst (pc := 44) X d_12_stands_44 ?_
      refine jg_goto (tgt := 49) (pc := 45) X d_12_stands_45 (by decide) ?_
      exact jg_ireturn (pc := 49) X hAe hlocks hr d_12_stands_49 ⟨(Nat.le_of_ble_eq_true rfl), (Nat.le_of_ble_eq_true rfl)⟩ rfl (⟨by decide, by decide⟩ : jRng 1) hw0 ⟨rfl, h⟩
    · have c14 : ¬ ((C 346 ((x3 + 1) + (C 346 (v1 + 1)))) = (C 346 (v1 + 3))) := c14
      refine jg_iconst (pc := 48) X d_12_stands_48 ?_
      exact jg_ireturn (pc := 49) X hAe hlocks hr d_12_stands_49 ⟨(Nat.le_of_ble_eq_true rfl), (Nat.le_of_ble_eq_true rfl)⟩ rfl (⟨by decide, by decide⟩ : jRng 0) hw0 ⟨rfl, h⟩
set_option maxHeartbeats 4000000 in
set_option maxRecDepth 100000 in
theorem m_12_firstBar {l : Launch} {Z : jE} {n : Nat} {C : jC} {v1 : Int} {post : Int → Prop} (rv1 : jRng v1) (hw0 : jWF n C) (h : wp_12_firstBar v1 C post) : jCi l y_12_firstBar prog_14_method_88_code 3 (.int) q_12_firstBar Z n C [jr Z 345, jI v1] (fun x C9 => C9 = C ∧ post x) := by
  have hn := hw0.2.2.1
  unfold wp_12_firstBar at h
  refine jCi_of (lv0 := [(0, jr Z 345), (1, jI v1)]) (by decide) (Nat.le_of_ble_eq_true rfl) rfl ?_
  intro p e s m args below meth c A sz X hAe hr hlocks
  have jb32 : ∀ (v1 : Int) (v2 : Int) (rv1 : jRng v1) (rv2 : jRng v2), wp_12_firstBar_32 v1 v2 C post → jG p l e q_12_firstBar s m args below meth c 3 Z A (jws Z n C) 0 0 (MQ below (jQi Z n sz (fun x C9 => C9 = C ∧ post x)) args s q_12_firstBar.cells q_12_firstBar.slots (jA Z n sz)) 32 [(0, jr Z 345), (1, jI v1), (2, jI v2)] [] := by
    intro v1 v2 rv1 rv2 h
    unfold wp_12_firstBar_32 at h
    refine jg_iload_n (pc := 32) X d_12_firstBar_32 2 rfl ?_
    refine jg_aload_n (pc := 33) X d_12_firstBar_33 0 rfl ?_
    refine jgf_12_1 (pc := 34) X (jl_345_12 hn) kw_1474 d_12_firstBar_34 ?_
    refine jg_iload_n (pc := 37) X d_12_firstBar_37 1 rfl ?_
    obtain ⟨b1, b2, h⟩ := h
    refine jg_iaload (len := 8954) (pc := 38) X d_12_firstBar_38 (jl_346_9954 hn) (fun _ => rfl) (by decide) b1 b2 ?_
    refine jg_icmp_ge (tgt := 52) (pc := 39) X d_12_firstBar_39 (by decide) rv2 (hw0.1 _ _) h (fun c3 h => ?_) (fun c3 h => ?_)
    · have c3 : (C 346 v1) ≤ v2 := c3
      refine jg_iconst (pc := 52) X d_12_firstBar_52 ?_
      exact jg_ireturn (pc := 53) X hAe hlocks hr d_12_firstBar_53 ⟨(Nat.le_of_ble_eq_true rfl), (Nat.le_of_ble_eq_true rfl)⟩ rfl (⟨by decide, by decide⟩ : jRng (-1)) hw0 ⟨rfl, h⟩
    · have c3 : ¬ ((C 346 v1) ≤ v2) := c3
      refine jg_iload_n (pc := 42) X d_12_firstBar_42 1 rfl ?_
      refine jg_iconst (pc := 43) X d_12_firstBar_43 ?_
      refine jg_iadd (pc := 44) X d_12_firstBar_44 ?_
      refine jg_iconst (pc := 45) X d_12_firstBar_45 ?_
      refine jg_iload_n (pc := 46) X d_12_firstBar_46 2 rfl ?_
      refine jg_imul (pc := 47) X d_12_firstBar_47 ?_
      refine jg_iadd (pc := 48) X d_12_firstBar_48 ?_
      refine jg_goto (tgt := 53) (pc := 49) X d_12_firstBar_49 (by decide) ?_
      obtain ⟨r4, h⟩ := h
      exact jg_ireturn (pc := 53) X hAe hlocks hr d_12_firstBar_53 ⟨(Nat.le_of_ble_eq_true rfl), (Nat.le_of_ble_eq_true rfl)⟩ rfl r4 hw0 ⟨rfl, h⟩
  refine jg_iconst (pc := 0) X d_12_firstBar_0 ?_
  refine jg_istore_n (pc := 1) X [(2, jI 0), (0, jr Z 345), (1, jI v1)] d_12_firstBar_1 (by decide) rfl ?_
  have hw : jWF n C := hw0
  have jl2 : ∀  (N : Nat) (v2 : Int) (rv2 : jRng v2), jI1 (wp_12_firstBar_2 v1 C post) N v2 → jG p l e q_12_firstBar s m args below meth c 3 Z A (jws Z n C) 0 0 (MQ below (jQi Z n sz (fun x C9 => C9 = C ∧ post x)) args s q_12_firstBar.cells q_12_firstBar.slots (jA Z n sz)) 2 [(0, jr Z 345), (1, jI v1), (2, jI v2)] [] := by
    intro   N
    have hn := hw0.2.2.1
    induction N with
    | zero => intro v2 rv2 h; exact h.elim
    | succ N ih2 =>
      intro v2 rv2 h
      have h : wp_12_firstBar_2 v1 C post (jI1 (wp_12_firstBar_2 v1 C post) N) v2 := h
      generalize jI1 (wp_12_firstBar_2 v1 C post) N = k2 at h ih2
      unfold wp_12_firstBar_2 at h
      refine jg_iload_n (pc := 2) X d_12_firstBar_2 2 rfl ?_
      refine jg_aload_n (pc := 3) X d_12_firstBar_3 0 rfl ?_
      refine jgf_12_1 (pc := 4) X (jl_345_12 hn) kw_1474 d_12_firstBar_4 ?_
      refine jg_iload_n (pc := 7) X d_12_firstBar_7 1 rfl ?_
      obtain ⟨b5, b6, h⟩ := h
      refine jg_iaload (len := 8954) (pc := 8) X d_12_firstBar_8 (jl_346_9954 hn) (fun _ => rfl) (by decide) b5 b6 ?_
      refine jg_icmp_ge (tgt := 32) (pc := 9) X d_12_firstBar_9 (by decide) rv2 (hw.1 _ _) h (fun c7 h => ?_) (fun c7 h => ?_)
      · have c7 : (C 346 v1) ≤ v2 := c7
        refine jg_sub [0, 1, 2] rfl ?_
        exact jb32 _ _ rv1 rv2 h
      · have c7 : ¬ ((C 346 v1) ≤ v2) := c7
        refine jg_aload_n (pc := 12) X d_12_firstBar_12 0 rfl ?_
        refine jg_iload_n (pc := 13) X d_12_firstBar_13 1 rfl ?_
        refine jg_iconst (pc := 14) X d_12_firstBar_14 ?_
        refine jg_iadd (pc := 15) X d_12_firstBar_15 ?_
        refine jg_iconst (pc := 16) X d_12_firstBar_16 ?_
        refine jg_iload_n (pc := 17) X d_12_firstBar_17 2 rfl ?_
        refine jg_imul (pc := 18) X d_12_firstBar_18 ?_
        refine jg_iadd (pc := 19) X d_12_firstBar_19 ?_
        obtain ⟨r8, h⟩ := h
        refine jg_pcallVi (pc := 20) X (m_12_stands r8 hw h) jM_12_stands kw_1880 (jl_345_12 hn) rfl rfl rfl rfl rfl (Nat.le_of_ble_eq_true rfl) d_12_firstBar_20 ⟨(Nat.le_of_ble_eq_true rfl), (Nat.le_of_ble_eq_true rfl)⟩ ⟨(Nat.le_of_ble_eq_true rfl), (Nat.le_of_ble_eq_true rfl)⟩ (fun x9 r11 h => ?_)
        refine jg_if_eq (tgt := 32) (pc := 23) X d_12_firstBar_23 (by decide) r11 h (fun c13 h => ?_) (fun c13 h => ?_)
        · refine jg_sub [0, 1, 2] rfl ?_
          exact jb32 _ _ rv1 rv2 h
        · refine jg_iinc (pc := 26) X [(2, jI (v2 + 1)), (0, jr Z 345), (1, jI v1)] d_12_firstBar_26 2 rfl (by decide) rfl ?_
          refine jg_goto (tgt := 2) (pc := 29) X d_12_firstBar_29 (by decide) ?_
          have r14 : jRng (v2 + 1) := by (unfold jRng; exact ⟨by (have z0 : jRng v2 := rv2; have z1 : jRng (C 346 v1) := (hw.1 _ _); unfold jRng at z0 z1; omega), by (have z0 : jRng v2 := rv2; have z1 : jRng (C 346 v1) := (hw.1 _ _); unfold jRng at z0 z1; omega)⟩)
          refine jg_sub [1, 2, 0] rfl ?_
          exact ih2 _ r14 h
  obtain ⟨N, h⟩ := h
  refine jg_sub [1, 2, 0] rfl ?_
  exact jl2   N _ (⟨by decide, by decide⟩ : jRng 0) h
set_option maxHeartbeats 4000000 in
set_option maxRecDepth 100000 in
theorem m_12_barred {l : Launch} {Z : jE} {n : Nat} {C : jC} {v1 : Int} {post : Int → jC → Prop} (rv1 : jRng v1) (hw0 : jWF n C) (h : wp_12_barred v1 C post) : jCi l y_12_barred prog_14_method_89_code 4 (.int) q_12_barred Z n C [jr Z 345, jI v1] post := by
  have hn := hw0.2.2.1
  unfold wp_12_barred at h
  refine jCi_of (lv0 := [(0, jr Z 345), (1, jI v1)]) (by decide) (Nat.le_of_ble_eq_true rfl) rfl ?_
  intro p e s m args below meth c A sz X hAe hr hlocks
  refine jg_aload_n (pc := 0) X d_12_barred_0 0 rfl ?_
  refine jg_iconst (pc := 1) X d_12_barred_1 ?_
  refine jgp_12_0 (pc := 2) X (jl_345_12 hn) kw_1473 d_12_barred_2 ?_
  have w1 := jWF.u (k := 0) (v := 0) hw0 (jl_345_12 hn) (by decide) (⟨by decide, by decide⟩ : jRng 0)
  refine jg_aload_n (pc := 5) X d_12_barred_5 0 rfl ?_
  refine jg_iload_n (pc := 6) X d_12_barred_6 1 rfl ?_
  refine jg_pcallSi (pc := 7) X (m_12_noView rv1 w1 h) jM_12_noView kw_1705 rfl rfl (Nat.le_of_ble_eq_true rfl) d_12_barred_7 ⟨(Nat.le_of_ble_eq_true rfl), (Nat.le_of_ble_eq_true rfl)⟩ ⟨(Nat.le_of_ble_eq_true rfl), (Nat.le_of_ble_eq_true rfl)⟩ (fun x2 r4 h => ?_)
  refine jg_iconst (pc := 10) X d_12_barred_10 ?_
  refine jg_callVi (pc := 11) X (m_12_throwsIf r4 (⟨by decide, by decide⟩ : jRng 1) w1 h) jM_12_throwsIf kw_1697 (jl_345_12 hn) rfl rfl rfl rfl rfl (Nat.le_of_ble_eq_true rfl) d_12_barred_11 ⟨(Nat.le_of_ble_eq_true rfl), (Nat.le_of_ble_eq_true rfl)⟩ ⟨(Nat.le_of_ble_eq_true rfl), (Nat.le_of_ble_eq_true rfl)⟩ (fun x6 C7 r8 w9 h => ?_)
  refine jg_if_eq (tgt := 19) (pc := 14) X d_12_barred_14 (by decide) r8 h (fun c10 h => ?_) (fun c10 h => ?_)
  · refine jg_aload_n (pc := 19) X d_12_barred_19 0 rfl ?_
    refine jgf_12_1 (pc := 20) X (jl_345_12 hn) kw_1474 d_12_barred_20 ?_
    refine jg_iload_n (pc := 23) X d_12_barred_23 1 rfl ?_
    refine jg_sipush (pc := 24) X d_12_barred_24 rfl ?_
    refine jg_pcallSi (pc := 27) X (m_12_viewAt rv1 (⟨by decide, by decide⟩ : jRng 185) w9 h) jM_12_viewAt kw_1668 rfl rfl (Nat.le_of_ble_eq_true rfl) d_12_barred_27 ⟨(Nat.le_of_ble_eq_true rfl), (Nat.le_of_ble_eq_true rfl)⟩ ⟨(Nat.le_of_ble_eq_true rfl), (Nat.le_of_ble_eq_true rfl)⟩ (fun x11 r13 h => ?_)
    obtain ⟨b15, b16, h⟩ := h
    refine jg_iaload (len := 8954) (pc := 30) X d_12_barred_30 (jl_346_9954 hn) (fun _ => rfl) (by decide) b15 b16 ?_
    refine jg_istore_n (pc := 31) X [(2, jI (C7 346 x11)), (0, jr Z 345), (1, jI v1)] d_12_barred_31 (by decide) rfl ?_
    refine jg_iload_n (pc := 32) X d_12_barred_32 0 rfl ?_
    refine jg_if_ne (tgt := 40) (pc := 33) X d_12_barred_33 (by decide) (w9.1 _ _) h (fun c17 h => ?_) (fun c17 h => ?_)
    · have c17 : (C7 346 x11) = 0 := c17
      refine jg_iconst (pc := 36) X d_12_barred_36 ?_
      refine jg_goto (tgt := 51) (pc := 37) X d_12_barred_37 (by decide) ?_
      refine jg_istore_n (pc := 51) X [(3, jI (-1)), (2, jI (C7 346 x11)), (0, jr Z 345), (1, jI v1)] d_12_barred_51 (by decide) rfl ?_
      refine jg_iload_n (pc := 52) X d_12_barred_52 0 rfl ?_
      refine jg_iconst (pc := 53) X d_12_barred_53 ?_
      refine jg_icmp_ne (T := True) (F := False) (tgt := 61) (pc := 54) X d_12_barred_54 (by decide) (⟨by decide, by decide⟩ : jRng (-1)) (⟨by decide, by decide⟩ : jRng (-1)) (by rw [if_pos (by decide)]; trivial) (fun _ _ => ?_) (fun _ h => h.elim)
      refine jg_iconst (pc := 57) X d_12_barred_57 ?_
      refine jg_goto (tgt := 67) (pc := 58) X d_12_barred_58 (by decide) ?_
      exact jg_ireturn (pc := 67) X hAe hlocks hr d_12_barred_67 ⟨(Nat.le_of_ble_eq_true rfl), (Nat.le_of_ble_eq_true rfl)⟩ rfl (⟨by decide, by decide⟩ : jRng (-1)) w9 h
    · have c17 : ¬ ((C7 346 x11) = 0) := c17
      refine jg_aload_n (pc := 40) X d_12_barred_40 1 rfl ?_
      refine jg_iload_n (pc := 41) X d_12_barred_41 2 rfl ?_
      refine jg_iload_n (pc := 42) X d_12_barred_42 0 rfl ?_
      refine jg_iconst (pc := 43) X d_12_barred_43 ?_
      refine jg_isub (pc := 44) X d_12_barred_44 ?_
      obtain ⟨r19, h⟩ := h
      refine jg_pcallSi (pc := 45) X (m_12_editAt rv1 r19 w9 h) jM_12_editAt kw_1824 rfl rfl (Nat.le_of_ble_eq_true rfl) d_12_barred_45 ⟨(Nat.le_of_ble_eq_true rfl), (Nat.le_of_ble_eq_true rfl)⟩ ⟨(Nat.le_of_ble_eq_true rfl), (Nat.le_of_ble_eq_true rfl)⟩ (fun x20 r22 h => ?_)
      refine jg_pcallVi (pc := 48) X (m_12_firstBar r22 w9 h) jM_12_firstBar kw_1876 (jl_345_12 hn) rfl rfl rfl rfl rfl (Nat.le_of_ble_eq_true rfl) d_12_barred_48 ⟨(Nat.le_of_ble_eq_true rfl), (Nat.le_of_ble_eq_true rfl)⟩ ⟨(Nat.le_of_ble_eq_true rfl), (Nat.le_of_ble_eq_true rfl)⟩ (fun x24 r26 h => ?_)
      refine jg_istore_n (pc := 51) X [(3, jI x24), (2, jI (C7 346 x11)), (0, jr Z 345), (1, jI v1)] d_12_barred_51 (by decide) rfl ?_
      refine jg_iload_n (pc := 52) X d_12_barred_52 0 rfl ?_
      refine jg_iconst (pc := 53) X d_12_barred_53 ?_
      refine jg_icmp_ne (tgt := 61) (pc := 54) X d_12_barred_54 (by decide) r26 (⟨by decide, by decide⟩ : jRng (-1)) h (fun c28 h => ?_) (fun c28 h => ?_)
      · refine jg_iconst (pc := 57) X d_12_barred_57 ?_
        refine jg_goto (tgt := 67) (pc := 58) X d_12_barred_58 (by decide) ?_
        exact jg_ireturn (pc := 67) X hAe hlocks hr d_12_barred_67 ⟨(Nat.le_of_ble_eq_true rfl), (Nat.le_of_ble_eq_true rfl)⟩ rfl (⟨by decide, by decide⟩ : jRng (-1)) w9 h
      · refine jg_aload_n (pc := 61) X d_12_barred_61 2 rfl ?_
        refine jgf_12_1 (pc := 62) X (jl_345_12 hn) kw_1474 d_12_barred_62 ?_
        refine jg_iload_n (pc := 65) X d_12_barred_65 0 rfl ?_
        obtain ⟨b29, b30, h⟩ := h
        refine jg_iaload (len := 8954) (pc := 66) X d_12_barred_66 (jl_346_9954 hn) (fun _ => rfl) (by decide) b29 b30 ?_
        exact jg_ireturn (pc := 67) X hAe hlocks hr d_12_barred_67 ⟨(Nat.le_of_ble_eq_true rfl), (Nat.le_of_ble_eq_true rfl)⟩ rfl (w9.1 _ _) w9 h
  · refine jg_iconst (pc := 17) X d_12_barred_17 ?_
    exact jg_ireturn (pc := 18) X hAe hlocks hr d_12_barred_18 ⟨(Nat.le_of_ble_eq_true rfl), (Nat.le_of_ble_eq_true rfl)⟩ rfl (⟨by decide, by decide⟩ : jRng 0) w9 h
set_option maxHeartbeats 4000000 in
set_option maxRecDepth 100000 in
theorem m_12_undo {l : Launch} {Z : jE} {n : Nat} {C : jC} {v1 : Int} {post : Int → jC → Prop} (rv1 : jRng v1) (hw0 : jWF n C) (h : wp_12_undo v1 C post) : jCi l y_12_undo prog_14_method_90_code 6 (.int) q_12_undo Z n C [jr Z 345, jI v1] post := by
  have hn := hw0.2.2.1
  unfold wp_12_undo at h
  refine jCi_of (lv0 := [(0, jr Z 345), (1, jI v1)]) (by decide) (Nat.le_of_ble_eq_true rfl) rfl ?_
  intro p e s m args below meth c A sz X hAe hr hlocks
  have jb57 : ∀ (s0 : Int) (v1 : Int) (v2 : Int) (C : jC) (rs0 : jRng s0) (rv1 : jRng v1) (rv2 : jRng v2) (hw : jWF n C), wp_12_undo_57 s0 v1 v2 C post → jG p l e q_12_undo s m args below meth c 6 Z A (jws Z n C) 0 0 (MQ below (jQi Z n sz post) args s q_12_undo.cells q_12_undo.slots (jA Z n sz)) 57 [(0, jr Z 345), (1, jI v1), (2, jI v2)] [jI s0, jr Z 345] := by
    intro s0 v1 v2 C rs0 rv1 rv2 hw h
    unfold wp_12_undo_57 at h
    refine jg_iconst (pc := 57) X d_12_undo_57 ?_
    refine jg_callVi (pc := 58) X (m_12_throwsIf rs0 (⟨by decide, by decide⟩ : jRng 2) hw h) jM_12_throwsIf kw_1697 (jl_345_12 hn) rfl rfl rfl rfl rfl (Nat.le_of_ble_eq_true rfl) d_12_undo_58 ⟨(Nat.le_of_ble_eq_true rfl), (Nat.le_of_ble_eq_true rfl)⟩ ⟨(Nat.le_of_ble_eq_true rfl), (Nat.le_of_ble_eq_true rfl)⟩ (fun x1 C2 r3 w4 h => ?_)
    refine jg_if_eq (tgt := 66) (pc := 61) X d_12_undo_61 (by decide) r3 h (fun c5 h => ?_) (fun c5 h => ?_)
    · refine jg_iload_n (pc := 66) X d_12_undo_66 1 rfl ?_
      refine jg_iload_n (pc := 67) X d_12_undo_67 2 rfl ?_
      refine jg_iconst (pc := 68) X d_12_undo_68 ?_
      refine jg_isub (pc := 69) X d_12_undo_69 ?_
      obtain ⟨r6, h⟩ := h
      refine jg_pcallSi (pc := 70) X (m_12_editAt rv1 r6 w4 h) jM_12_editAt kw_1824 rfl rfl (Nat.le_of_ble_eq_true rfl) d_12_undo_70 ⟨(Nat.le_of_ble_eq_true rfl), (Nat.le_of_ble_eq_true rfl)⟩ ⟨(Nat.le_of_ble_eq_true rfl), (Nat.le_of_ble_eq_true rfl)⟩ (fun x7 r9 h => ?_)
      refine jg_istore_n (pc := 73) X [(3, jI x7), (0, jr Z 345), (1, jI v1), (2, jI v2)] d_12_undo_73 (by decide) rfl ?_
      refine jg_aload_n (pc := 74) X d_12_undo_74 1 rfl ?_
      refine jgf_12_1 (pc := 75) X (jl_345_12 hn) kw_1474 d_12_undo_75 ?_
      refine jg_iload_n (pc := 78) X d_12_undo_78 2 rfl ?_
      refine jg_sipush (pc := 79) X d_12_undo_79 rfl ?_
      refine jg_pcallSi (pc := 82) X (m_12_viewAt rv1 (⟨by decide, by decide⟩ : jRng 185) w4 h) jM_12_viewAt kw_1668 rfl rfl (Nat.le_of_ble_eq_true rfl) d_12_undo_82 ⟨(Nat.le_of_ble_eq_true rfl), (Nat.le_of_ble_eq_true rfl)⟩ ⟨(Nat.le_of_ble_eq_true rfl), (Nat.le_of_ble_eq_true rfl)⟩ (fun x11 r13 h => ?_)
      refine jg_iload_n (pc := 85) X d_12_undo_85 3 rfl ?_
      refine jg_iconst (pc := 86) X d_12_undo_86 ?_
      refine jg_isub (pc := 87) X d_12_undo_87 ?_
      obtain ⟨b15, b16, h⟩ := h
      refine jg_iastore (len := 8954) (pc := 88) X d_12_undo_88 (jl_346_9954 hn) (fun _ => rfl) (by decide) b15 b16 ?_
      have w17 := jWF.u (k := x11) (v := (v2 - 1)) w4 (jl_346_9954 hn) (by decide) r6
      refine jg_aload_n (pc := 89) X d_12_undo_89 1 rfl ?_
      refine jgf_12_14 (pc := 90) X (jl_345_12 hn) kw_1487 d_12_undo_90 ?_
      refine jg_iconst (pc := 93) X d_12_undo_93 ?_
      refine jg_iconst (pc := 94) X d_12_undo_94 ?_
      refine jg_iastore (len := 241) (pc := 95) X d_12_undo_95 (jl_352_1241 hn) (fun _ => rfl) (by decide) (by decide) (by decide) ?_
      have w20 := jWF.u (k := 0) (v := 0) w17 (jl_352_1241 hn) (by decide) (⟨by decide, by decide⟩ : jRng 0)
      refine jg_iconst (pc := 96) X d_12_undo_96 ?_
      refine jg_istore (pc := 97) X [(4, jI 0), (3, jI x7), (0, jr Z 345), (1, jI v1), (2, jI v2)] d_12_undo_97 (by decide) rfl ?_
      have jl99 : ∀ (v3 : Int) (rv3 : jRng v3) (N : Nat) (v4 : Int) (C : jC) (rv4 : jRng v4) (hw : jWF n C), jI2 (wp_12_undo_99 v1 v3 post) N v4 C → jG p l e q_12_undo s m args below meth c 6 Z A (jws Z n C) 0 0 (MQ below (jQi Z n sz post) args s q_12_undo.cells q_12_undo.slots (jA Z n sz)) 99 [(0, jr Z 345), (1, jI v1), (3, jI v3), (4, jI v4)] [] := by
        intro v3 rv3 N
        have hn := hw0.2.2.1
        induction N with
        | zero => intro v4 C rv4 hw h; exact h.elim
        | succ N ih99 =>
          intro v4 C rv4 hw h
          have h : wp_12_undo_99 v1 v3 post (jI2 (wp_12_undo_99 v1 v3 post) N) v4 C := h
          generalize jI2 (wp_12_undo_99 v1 v3 post) N = k99 at h ih99
          unfold wp_12_undo_99 at h
          refine jg_iload (pc := 99) X d_12_undo_99 3 rfl ?_
          refine jg_aload_n (pc := 101) X d_12_undo_101 0 rfl ?_
          refine jgf_12_1 (pc := 102) X (jl_345_12 hn) kw_1474 d_12_undo_102 ?_
          refine jg_iload_n (pc := 105) X d_12_undo_105 2 rfl ?_
          obtain ⟨b21, b22, h⟩ := h
          refine jg_iaload (len := 8954) (pc := 106) X d_12_undo_106 (jl_346_9954 hn) (fun _ => rfl) (by decide) b21 b22 ?_
          refine jg_icmp_ge (tgt := 156) (pc := 107) X d_12_undo_107 (by decide) rv4 (hw.1 _ _) h (fun c23 h => ?_) (fun c23 h => ?_)
          · have c23 : (C 346 v3) ≤ v4 := c23
            refine jg_aload_n (pc := 156) X d_12_undo_156 0 rfl ?_
            refine jgf_12_14 (pc := 157) X (jl_345_12 hn) kw_1487 d_12_undo_157 ?_
            refine jg_iconst (pc := 160) X d_12_undo_160 ?_
            refine jg_iaload (len := 241) (pc := 161) X d_12_undo_161 (jl_352_1241 hn) (fun _ => rfl) (by decide) (by decide) (by decide) ?_
            exact jg_ireturn (pc := 162) X hAe hlocks hr d_12_undo_162 ⟨(Nat.le_of_ble_eq_true rfl), (Nat.le_of_ble_eq_true rfl)⟩ rfl (hw.1 _ _) hw h
          · have c23 : ¬ ((C 346 v3) ≤ v4) := c23
            refine jg_iload_n (pc := 110) X d_12_undo_110 2 rfl ?_
            refine jg_iconst (pc := 111) X d_12_undo_111 ?_
            refine jg_iadd (pc := 112) X d_12_undo_112 ?_
            refine jg_iconst (pc := 113) X d_12_undo_113 ?_
            refine jg_iload (pc := 114) X d_12_undo_114 3 rfl ?_
            refine jg_imul (pc := 116) X d_12_undo_116 ?_
            refine jg_iadd (pc := 117) X d_12_undo_117 ?_
            refine jg_istore (pc := 118) X [(5, jI ((v3 + 1) + (4 * v4))), (0, jr Z 345), (1, jI v1), (3, jI v3), (4, jI v4)] d_12_undo_118 (by decide) rfl ?_
            refine jg_aload_n (pc := 120) X d_12_undo_120 1 rfl ?_
            refine jg_iload_n (pc := 121) X d_12_undo_121 2 rfl ?_
            refine jg_aload_n (pc := 122) X d_12_undo_122 1 rfl ?_
            refine jgf_12_1 (pc := 123) X (jl_345_12 hn) kw_1474 d_12_undo_123 ?_
            refine jg_iload (pc := 126) X d_12_undo_126 0 rfl ?_
            obtain ⟨b26, b27, h⟩ := h
            refine jg_iaload (len := 8954) (pc := 128) X d_12_undo_128 (jl_346_9954 hn) (fun _ => rfl) (by decide) b26 b27 ?_
            refine jg_aload_n (pc := 129) X d_12_undo_129 1 rfl ?_
            refine jgf_12_1 (pc := 130) X (jl_345_12 hn) kw_1474 d_12_undo_130 ?_
            refine jg_iload (pc := 133) X d_12_undo_133 0 rfl ?_
            refine jg_iconst (pc := 135) X d_12_undo_135 ?_
            refine jg_iadd (pc := 136) X d_12_undo_136 ?_
            obtain ⟨b29, h⟩ := h
            have b28 : 0 ≤ (((v3 + 1) + (4 * v4)) + 1) := by (have z0 : jRng v3 := rv3; have z1 : jRng v4 := rv4; have z2 : jRng (C 346 v3) := (hw.1 _ _); unfold jRng at z0 z1 z2; omega)
            refine jg_iaload (len := 8954) (pc := 137) X d_12_undo_137 (jl_346_9954 hn) (fun _ => rfl) (by decide) b28 b29 ?_
            refine jg_aload_n (pc := 138) X d_12_undo_138 1 rfl ?_
            refine jgf_12_1 (pc := 139) X (jl_345_12 hn) kw_1474 d_12_undo_139 ?_
            refine jg_iload (pc := 142) X d_12_undo_142 0 rfl ?_
            refine jg_iconst (pc := 144) X d_12_undo_144 ?_
            refine jg_iadd (pc := 145) X d_12_undo_145 ?_
            obtain ⟨b31, h⟩ := h
            have b30 : 0 ≤ (((v3 + 1) + (4 * v4)) + 2) := by (have z0 : jRng v3 := rv3; have z1 : jRng v4 := rv4; have z2 : jRng (C 346 v3) := (hw.1 _ _); unfold jRng at z0 z1 z2; omega)
            refine jg_iaload (len := 8954) (pc := 146) X d_12_undo_146 (jl_346_9954 hn) (fun _ => rfl) (by decide) b30 b31 ?_
            refine jg_callVv (pc := 147) X (m_12_alters rv1 (hw.1 _ _) (hw.1 _ _) (hw.1 _ _) hw h) jM_12_alters kw_1811 (jl_345_12 hn) rfl rfl rfl rfl rfl (Nat.le_of_ble_eq_true rfl) d_12_undo_147 ⟨(Nat.le_of_ble_eq_true rfl), (Nat.le_of_ble_eq_true rfl)⟩ ⟨(Nat.le_of_ble_eq_true rfl), (Nat.le_of_ble_eq_true rfl)⟩ (fun C33 w35 h => ?_)
            refine jg_iinc (pc := 150) X [(4, jI (v4 + 1)), (5, jI ((v3 + 1) + (4 * v4))), (0, jr Z 345), (1, jI v1), (3, jI v3)] d_12_undo_150 4 rfl (by decide) rfl ?_
            refine jg_goto (tgt := 99) (pc := 153) X d_12_undo_153 (by decide) ?_
            have r36 : jRng (v4 + 1) := by (unfold jRng; exact ⟨by (have z0 : jRng v4 := rv4; have z1 : jRng (C 346 v3) := (hw.1 _ _); unfold jRng at z0 z1; omega), by (have z0 : jRng v4 := rv4; have z1 : jRng (C 346 v3) := (hw.1 _ _); unfold jRng at z0 z1; omega)⟩)
            refine jg_sub [2, 3, 4, 0] rfl ?_
            exact ih99 _ _ r36 w35 h
      obtain ⟨N, h⟩ := h
      refine jg_sub [2, 3, 1, 0] rfl ?_
      exact jl99 _ r9 N _ _ (⟨by decide, by decide⟩ : jRng 0) w20 h
    · refine jg_iconst (pc := 64) X d_12_undo_64 ?_
      exact jg_ireturn (pc := 65) X hAe hlocks hr d_12_undo_65 ⟨(Nat.le_of_ble_eq_true rfl), (Nat.le_of_ble_eq_true rfl)⟩ rfl (⟨by decide, by decide⟩ : jRng 0) w4 h
  refine jg_aload_n (pc := 0) X d_12_undo_0 0 rfl ?_
  refine jg_iconst (pc := 1) X d_12_undo_1 ?_
  refine jgp_12_0 (pc := 2) X (jl_345_12 hn) kw_1473 d_12_undo_2 ?_
  have w37 := jWF.u (k := 0) (v := 0) hw0 (jl_345_12 hn) (by decide) (⟨by decide, by decide⟩ : jRng 0)
  refine jg_aload_n (pc := 5) X d_12_undo_5 0 rfl ?_
  refine jg_iload_n (pc := 6) X d_12_undo_6 1 rfl ?_
  refine jg_pcallSi (pc := 7) X (m_12_noView rv1 w37 h) jM_12_noView kw_1705 rfl rfl (Nat.le_of_ble_eq_true rfl) d_12_undo_7 ⟨(Nat.le_of_ble_eq_true rfl), (Nat.le_of_ble_eq_true rfl)⟩ ⟨(Nat.le_of_ble_eq_true rfl), (Nat.le_of_ble_eq_true rfl)⟩ (fun x38 r40 h => ?_)
  refine jg_iconst (pc := 10) X d_12_undo_10 ?_
  refine jg_callVi (pc := 11) X (m_12_throwsIf r40 (⟨by decide, by decide⟩ : jRng 1) w37 h) jM_12_throwsIf kw_1697 (jl_345_12 hn) rfl rfl rfl rfl rfl (Nat.le_of_ble_eq_true rfl) d_12_undo_11 ⟨(Nat.le_of_ble_eq_true rfl), (Nat.le_of_ble_eq_true rfl)⟩ ⟨(Nat.le_of_ble_eq_true rfl), (Nat.le_of_ble_eq_true rfl)⟩ (fun x42 C43 r44 w45 h => ?_)
  refine jg_if_eq (tgt := 19) (pc := 14) X d_12_undo_14 (by decide) r44 h (fun c46 h => ?_) (fun c46 h => ?_)
  · refine jg_aload_n (pc := 19) X d_12_undo_19 0 rfl ?_
    refine jgf_12_1 (pc := 20) X (jl_345_12 hn) kw_1474 d_12_undo_20 ?_
    refine jg_iload_n (pc := 23) X d_12_undo_23 1 rfl ?_
    refine jg_sipush (pc := 24) X d_12_undo_24 rfl ?_
    refine jg_pcallSi (pc := 27) X (m_12_viewAt rv1 (⟨by decide, by decide⟩ : jRng 185) w45 h) jM_12_viewAt kw_1668 rfl rfl (Nat.le_of_ble_eq_true rfl) d_12_undo_27 ⟨(Nat.le_of_ble_eq_true rfl), (Nat.le_of_ble_eq_true rfl)⟩ ⟨(Nat.le_of_ble_eq_true rfl), (Nat.le_of_ble_eq_true rfl)⟩ (fun x47 r49 h => ?_)
    obtain ⟨b51, b52, h⟩ := h
    refine jg_iaload (len := 8954) (pc := 30) X d_12_undo_30 (jl_346_9954 hn) (fun _ => rfl) (by decide) b51 b52 ?_
    refine jg_istore_n (pc := 31) X [(2, jI (C43 346 x47)), (0, jr Z 345), (1, jI v1)] d_12_undo_31 (by decide) rfl ?_
    refine jg_aload_n (pc := 32) X d_12_undo_32 1 rfl ?_
    refine jg_iload_n (pc := 33) X d_12_undo_33 0 rfl ?_
    refine jg_if_eq (tgt := 52) (pc := 34) X d_12_undo_34 (by decide) (w45.1 _ _) h (fun c53 h => ?_) (fun c53 h => ?_)
    · have c53 : (C43 346 x47) = 0 := c53
      refine jg_iconst (pc := 52) X d_12_undo_52 ?_
      refine jg_goto (tgt := 57) (pc := 53) X d_12_undo_53 (by decide) ?_
      refine jg_sub [1, 2, 0] rfl ?_
      exact jb57 _ _ _ _ (⟨by decide, by decide⟩ : jRng 1) rv1 (w45.1 _ _) w45 h
    · have c53 : ¬ ((C43 346 x47) = 0) := c53
      refine jg_aload_n (pc := 37) X d_12_undo_37 1 rfl ?_
      refine jg_iload_n (pc := 38) X d_12_undo_38 2 rfl ?_
      refine jg_iload_n (pc := 39) X d_12_undo_39 0 rfl ?_
      refine jg_iconst (pc := 40) X d_12_undo_40 ?_
      refine jg_isub (pc := 41) X d_12_undo_41 ?_
      obtain ⟨r54, h⟩ := h
      refine jg_pcallSi (pc := 42) X (m_12_editAt rv1 r54 w45 h) jM_12_editAt kw_1824 rfl rfl (Nat.le_of_ble_eq_true rfl) d_12_undo_42 ⟨(Nat.le_of_ble_eq_true rfl), (Nat.le_of_ble_eq_true rfl)⟩ ⟨(Nat.le_of_ble_eq_true rfl), (Nat.le_of_ble_eq_true rfl)⟩ (fun x55 r57 h => ?_)
      refine jg_pcallVi (pc := 45) X (m_12_firstBar r57 w45 h) jM_12_firstBar kw_1876 (jl_345_12 hn) rfl rfl rfl rfl rfl (Nat.le_of_ble_eq_true rfl) d_12_undo_45 ⟨(Nat.le_of_ble_eq_true rfl), (Nat.le_of_ble_eq_true rfl)⟩ ⟨(Nat.le_of_ble_eq_true rfl), (Nat.le_of_ble_eq_true rfl)⟩ (fun x59 r61 h => ?_)
      refine jg_iconst (pc := 48) X d_12_undo_48 ?_
      refine jg_icmp_eq (tgt := 56) (pc := 49) X d_12_undo_49 (by decide) r61 (⟨by decide, by decide⟩ : jRng (-1)) h (fun c63 h => ?_) (fun c63 h => ?_)
      · refine jg_iconst (pc := 56) X d_12_undo_56 ?_
        refine jg_sub [1, 2, 0] rfl ?_
        exact jb57 _ _ _ _ (⟨by decide, by decide⟩ : jRng 0) rv1 (w45.1 _ _) w45 h
      · refine jg_iconst (pc := 52) X d_12_undo_52 ?_
        refine jg_goto (tgt := 57) (pc := 53) X d_12_undo_53 (by decide) ?_
        refine jg_sub [1, 2, 0] rfl ?_
        exact jb57 _ _ _ _ (⟨by decide, by decide⟩ : jRng 1) rv1 (w45.1 _ _) w45 h
  · refine jg_iconst (pc := 17) X d_12_undo_17 ?_
    exact jg_ireturn (pc := 18) X hAe hlocks hr d_12_undo_18 ⟨(Nat.le_of_ble_eq_true rfl), (Nat.le_of_ble_eq_true rfl)⟩ rfl (⟨by decide, by decide⟩ : jRng 0) w45 h

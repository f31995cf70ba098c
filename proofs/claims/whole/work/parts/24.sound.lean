set_option maxHeartbeats 4000000 in
set_option maxRecDepth 100000 in
theorem m_4_tellOneSort {l : Launch} {Z : jE} {n : Nat} {C : jC} {v1 : Int} {v2 : Int} {post : Int → jC → Prop} (tv1 : jT n v1 7) (tv2 : jT n v2 6) (hw0 : jWF n C) (h : wp_4_tellOneSort v1 v2 C post) : jCi l y_4_tellOneSort prog_6_method_11_code 4 (.boolean) q_4_tellOneSort Z n C [jr Z 339, jr Z v1, jr Z v2] post := by
  have hn := hw0.2.2.1
  unfold wp_4_tellOneSort at h
  refine jCi_of (lv0 := [(0, jr Z 339), (1, jr Z v1), (2, jr Z v2)]) (by decide) (Nat.le_of_ble_eq_true rfl) rfl ?_
  intro p e s m args below meth c A sz X hAe hr hlocks
  refine jg_iconst (pc := 0) X d_4_tellOneSort_0 ?_
  refine jg_istore_n (pc := 1) X [(3, jI 0), (0, jr Z 339), (1, jr Z v1), (2, jr Z v2)] d_4_tellOneSort_1 (by decide) rfl ?_
  have hw : jWF n C := hw0
  have jl2 : ∀  (N : Nat) (v3 : Int) (rv3 : jRng v3), jI1 (wp_4_tellOneSort_2 v1 v2 C post) N v3 → jG p l e q_4_tellOneSort s m args below meth c 4 Z A (jws Z n C) 0 0 (MQ below (jQi Z n sz post) args s q_4_tellOneSort.cells q_4_tellOneSort.slots (jA Z n sz)) 2 [(0, jr Z 339), (1, jr Z v1), (2, jr Z v2), (3, jI v3)] [] := by
    intro   N
    have hn := hw0.2.2.1
    induction N with
    | zero => intro v3 rv3 h; exact h.elim
    | succ N ih2 =>
      intro v3 rv3 h
      have h : wp_4_tellOneSort_2 v1 v2 C post (jI1 (wp_4_tellOneSort_2 v1 v2 C post) N) v3 := h
      generalize jI1 (wp_4_tellOneSort_2 v1 v2 C post) N = k2 at h ih2
      unfold wp_4_tellOneSort_2 at h
      refine jg_iload_n (pc := 2) X d_4_tellOneSort_2 3 rfl ?_
      refine jg_iconst (pc := 3) X d_4_tellOneSort_3 ?_
      refine jg_aload_n (pc := 4) X d_4_tellOneSort_4 1 rfl ?_
      refine jgfN_7_0 (pc := 5) X tv1 kn_176 d_4_tellOneSort_5 ?_
      refine jg_imul (pc := 8) X d_4_tellOneSort_8 ?_
      obtain ⟨r1, h⟩ := h
      refine jg_icmp_ge (tgt := 36) (pc := 9) X d_4_tellOneSort_9 (by decide) rv3 r1 h (fun c2 h => ?_) (fun c2 h => ?_)
      · have c2 : (2 * (C v1 0)) ≤ v3 := c2
        refine jg_iconst (pc := 36) X d_4_tellOneSort_36 ?_
        exact jg_ireturn (pc := 37) X hAe hlocks hr d_4_tellOneSort_37 ⟨(Nat.le_of_ble_eq_true rfl), (Nat.le_of_ble_eq_true rfl)⟩ rfl (⟨by decide, by decide⟩ : jRng 0) hw h
      · have c2 : ¬ ((2 * (C v1 0)) ≤ v3) := c2
        refine jg_aload_n (pc := 12) X d_4_tellOneSort_12 0 rfl ?_
        refine jg_aload_n (pc := 13) X d_4_tellOneSort_13 1 rfl ?_
        refine jg_aload_n (pc := 14) X d_4_tellOneSort_14 2 rfl ?_
        refine jg_iload_n (pc := 15) X d_4_tellOneSort_15 3 rfl ?_
        refine jg_iconst (pc := 16) X d_4_tellOneSort_16 ?_
        refine jg_pcallVi (pc := 17) X (m_4_isTold tv1 tv2 rv3 (⟨by decide, by decide⟩ : jRng (-1)) hw h) jM_4_isTold kw_1298 (jl_339_4 hn) rfl rfl rfl rfl rfl (Nat.le_of_ble_eq_true rfl) d_4_tellOneSort_17 ⟨(Nat.le_of_ble_eq_true rfl), (Nat.le_of_ble_eq_true rfl)⟩ ⟨(Nat.le_of_ble_eq_true rfl), (Nat.le_of_ble_eq_true rfl)⟩ (fun x3 r5 h => ?_)
        refine jg_if_eq (tgt := 30) (pc := 20) X d_4_tellOneSort_20 (by decide) r5 h (fun c7 h => ?_) (fun c7 h => ?_)
        · refine jg_iinc (pc := 30) X [(3, jI (v3 + 1)), (0, jr Z 339), (1, jr Z v1), (2, jr Z v2)] d_4_tellOneSort_30 3 rfl (by decide) rfl ?_
          refine jg_goto (tgt := 2) (pc := 33) X d_4_tellOneSort_33 (by decide) ?_
          have r8 : jRng (v3 + 1) := by (unfold jRng; exact ⟨by (have z0 : jRng v3 := rv3; have z1 : jRng (2 * (C v1 0)) := r1; unfold jRng at z0 z1; omega), by (have z0 : jRng v3 := rv3; have z1 : jRng (2 * (C v1 0)) := r1; unfold jRng at z0 z1; omega)⟩)
          refine jg_sub [1, 2, 3, 0] rfl ?_
          exact ih2 _ r8 h
        · refine jg_aload_n (pc := 23) X d_4_tellOneSort_23 0 rfl ?_
          refine jg_iload_n (pc := 24) X d_4_tellOneSort_24 3 rfl ?_
          refine jgp_4_5 (pc := 25) X (jl_339_4 hn) kw_319 d_4_tellOneSort_25 ?_
          have w9 := jWF.u (k := 5) (v := v3) hw (jl_339_4 hn) (by decide) rv3
          refine jg_iconst (pc := 28) X d_4_tellOneSort_28 ?_
          exact jg_ireturn (pc := 29) X hAe hlocks hr d_4_tellOneSort_29 ⟨(Nat.le_of_ble_eq_true rfl), (Nat.le_of_ble_eq_true rfl)⟩ rfl (⟨by decide, by decide⟩ : jRng 1) w9 h
  obtain ⟨N, h⟩ := h
  refine jg_sub [1, 2, 3, 0] rfl ?_
  exact jl2   N _ (⟨by decide, by decide⟩ : jRng 0) h
set_option maxHeartbeats 4000000 in
set_option maxRecDepth 100000 in
theorem m_4_tellTwoSorts {l : Launch} {Z : jE} {n : Nat} {C : jC} {v1 : Int} {v2 : Int} {post : Int → jC → Prop} (tv1 : jT n v1 7) (tv2 : jT n v2 6) (hw0 : jWF n C) (h : wp_4_tellTwoSorts v1 v2 C post) : jCi l y_4_tellTwoSorts prog_6_method_12_code 5 (.boolean) q_4_tellTwoSorts Z n C [jr Z 339, jr Z v1, jr Z v2] post := by
  have hn := hw0.2.2.1
  unfold wp_4_tellTwoSorts at h
  refine jCi_of (lv0 := [(0, jr Z 339), (1, jr Z v1), (2, jr Z v2)]) (by decide) (Nat.le_of_ble_eq_true rfl) rfl ?_
  intro p e s m args below meth c A sz X hAe hr hlocks
  refine jg_iconst (pc := 0) X d_4_tellTwoSorts_0 ?_
  refine jg_istore_n (pc := 1) X [(3, jI 0), (0, jr Z 339), (1, jr Z v1), (2, jr Z v2)] d_4_tellTwoSorts_1 (by decide) rfl ?_
  have hw : jWF n C := hw0
  have jl2 : ∀  (N : Nat) (v3 : Int) (rv3 : jRng v3), jI1 (wp_4_tellTwoSorts_2 v1 v2 C post) N v3 → jG p l e q_4_tellTwoSorts s m args below meth c 5 Z A (jws Z n C) 0 0 (MQ below (jQi Z n sz post) args s q_4_tellTwoSorts.cells q_4_tellTwoSorts.slots (jA Z n sz)) 2 [(0, jr Z 339), (1, jr Z v1), (2, jr Z v2), (3, jI v3)] [] := by
    intro   N
    have hn := hw0.2.2.1
    induction N with
    | zero => intro v3 rv3 h; exact h.elim
    | succ N ih2 =>
      intro v3 rv3 h
      have h : wp_4_tellTwoSorts_2 v1 v2 C post (jI1 (wp_4_tellTwoSorts_2 v1 v2 C post) N) v3 := h
      generalize jI1 (wp_4_tellTwoSorts_2 v1 v2 C post) N = k2 at h ih2
      unfold wp_4_tellTwoSorts_2 at h
      refine jg_iload_n (pc := 2) X d_4_tellTwoSorts_2 3 rfl ?_
      refine jg_iconst (pc := 3) X d_4_tellTwoSorts_3 ?_
      refine jg_aload_n (pc := 4) X d_4_tellTwoSorts_4 1 rfl ?_
      refine jgfN_7_0 (pc := 5) X tv1 kn_176 d_4_tellTwoSorts_5 ?_
      refine jg_imul (pc := 8) X d_4_tellTwoSorts_8 ?_
      obtain ⟨r1, h⟩ := h
      refine jg_icmp_ge (tgt := 73) (pc := 9) X d_4_tellTwoSorts_9 (by decide) rv3 r1 h (fun c2 h => ?_) (fun c2 h => ?_)
      · have c2 : (2 * (C v1 0)) ≤ v3 := c2
        refine jg_iconst (pc := 73) X d_4_tellTwoSorts_73 ?_
        exact jg_ireturn (pc := 74) X hAe hlocks hr d_4_tellTwoSorts_74 ⟨(Nat.le_of_ble_eq_true rfl), (Nat.le_of_ble_eq_true rfl)⟩ rfl (⟨by decide, by decide⟩ : jRng 0) hw h
      · have c2 : ¬ ((2 * (C v1 0)) ≤ v3) := c2
        refine jg_iconst (pc := 12) X d_4_tellTwoSorts_12 ?_
        refine jg_istore (pc := 13) X [(4, jI 0), (0, jr Z 339), (1, jr Z v1), (2, jr Z v2), (3, jI v3)] d_4_tellTwoSorts_13 (by decide) rfl ?_
        have jl15 : ∀  (N : Nat) (v4 : Int) (rv4 : jRng v4), jI1 (wp_4_tellTwoSorts_15 v1 v2 v3 C post k2) N v4 → jG p l e q_4_tellTwoSorts s m args below meth c 5 Z A (jws Z n C) 0 0 (MQ below (jQi Z n sz post) args s q_4_tellTwoSorts.cells q_4_tellTwoSorts.slots (jA Z n sz)) 15 [(0, jr Z 339), (1, jr Z v1), (2, jr Z v2), (3, jI v3), (4, jI v4)] [] := by
          intro   N
          have hn := hw0.2.2.1
          induction N with
          | zero => intro v4 rv4 h; exact h.elim
          | succ N ih15 =>
            intro v4 rv4 h
            have h : wp_4_tellTwoSorts_15 v1 v2 v3 C post k2 (jI1 (wp_4_tellTwoSorts_15 v1 v2 v3 C post k2) N) v4 := h
            generalize jI1 (wp_4_tellTwoSorts_15 v1 v2 v3 C post k2) N = k15 at h ih15
            unfold wp_4_tellTwoSorts_15 at h
            refine jg_iload (pc := 15) X d_4_tellTwoSorts_15 4 rfl ?_
            refine jg_iconst (pc := 17) X d_4_tellTwoSorts_17 ?_
            refine jg_aload_n (pc := 18) X d_4_tellTwoSorts_18 1 rfl ?_
            refine jgfN_7_0 (pc := 19) X tv1 kn_176 d_4_tellTwoSorts_19 ?_
            refine jg_imul (pc := 22) X d_4_tellTwoSorts_22 ?_
            obtain ⟨r3, h⟩ := h
            refine jg_icmp_ge (tgt := 67) (pc := 23) X d_4_tellTwoSorts_23 (by decide) rv4 r3 h (fun c4 h => ?_) (fun c4 h => ?_)
            · have c4 : (2 * (C v1 0)) ≤ v4 := c4
              refine jg_iinc (pc := 67) X [(3, jI (v3 + 1)), (0, jr Z 339), (1, jr Z v1), (2, jr Z v2), (4, jI v4)] d_4_tellTwoSorts_67 3 rfl (by decide) rfl ?_
              refine jg_goto (tgt := 2) (pc := 70) X d_4_tellTwoSorts_70 (by decide) ?_
              obtain ⟨r5, h⟩ := h
              refine jg_sub [1, 2, 3, 0] rfl ?_
              exact ih2 _ r5 h
            · have c4 : ¬ ((2 * (C v1 0)) ≤ v4) := c4
              refine jg_iload_n (pc := 26) X d_4_tellTwoSorts_26 3 rfl ?_
              refine jg_iconst (pc := 27) X d_4_tellTwoSorts_27 ?_
              have r6 : jRng (v3.tdiv 2) := jrng_tdiv rv3 (by decide) (by decide)
              refine jg_idiv (pc := 28) X d_4_tellTwoSorts_28 rv3 (by decide) (by decide) ?_
              refine jg_iload (pc := 29) X d_4_tellTwoSorts_29 4 rfl ?_
              refine jg_iconst (pc := 31) X d_4_tellTwoSorts_31 ?_
              have r7 : jRng (v4.tdiv 2) := jrng_tdiv rv4 (by decide) (by decide)
              refine jg_idiv (pc := 32) X d_4_tellTwoSorts_32 rv4 (by decide) (by decide) ?_
              refine jg_icmp_eq (tgt := 61) (pc := 33) X d_4_tellTwoSorts_33 (by decide) r6 r7 h (fun c8 h => ?_) (fun c8 h => ?_)
              · refine jg_iinc (pc := 61) X [(4, jI (v4 + 1)), (0, jr Z 339), (1, jr Z v1), (2, jr Z v2), (3, jI v3)] d_4_tellTwoSorts_61 4 rfl (by decide) rfl ?_
                refine jg_goto (tgt := 15) (pc := 64) X d_4_tellTwoSorts_64 (by decide) ?_
                have r9 : jRng (v4 + 1) := by (unfold jRng; exact ⟨by (have z0 : jRng v4 := rv4; have z1 : jRng (2 * (C v1 0)) := r3; unfold jRng at z0 z1; omega), by (have z0 : jRng v4 := rv4; have z1 : jRng (2 * (C v1 0)) := r3; unfold jRng at z0 z1; omega)⟩)
                refine jg_sub [1, 2, 3, 4, 0] rfl ?_
                exact ih15 _ r9 h
              · refine jg_aload_n (pc := 36) X d_4_tellTwoSorts_36 0 rfl ?_
                refine jg_aload_n (pc := 37) X d_4_tellTwoSorts_37 1 rfl ?_
                refine jg_aload_n (pc := 38) X d_4_tellTwoSorts_38 2 rfl ?_
                refine jg_iload_n (pc := 39) X d_4_tellTwoSorts_39 3 rfl ?_
                refine jg_iload (pc := 40) X d_4_tellTwoSorts_40 4 rfl ?_
                refine jg_pcallVi (pc := 42) X (m_4_isTold tv1 tv2 rv3 rv4 hw h) jM_4_isTold kw_1298 (jl_339_4 hn) rfl rfl rfl rfl rfl (Nat.le_of_ble_eq_true rfl) d_4_tellTwoSorts_42 ⟨(Nat.le_of_ble_eq_true rfl), (Nat.le_of_ble_eq_true rfl)⟩ ⟨(Nat.le_of_ble_eq_true rfl), (Nat.le_of_ble_eq_true rfl)⟩ (fun x10 r12 h => ?_)
                refine jg_if_eq (tgt := 61) (pc := 45) X d_4_tellTwoSorts_45 (by decide) r12 h (fun c14 h => ?_) (fun c14 h => ?_)
                · refine jg_iinc (pc := 61) X [(4, jI (v4 + 1)), (0, jr Z 339), (1, jr Z v1), (2, jr Z v2), (3, jI v3)] d_4_tellTwoSorts_61 4 rfl (by decide) rfl ?_
                  refine jg_goto (tgt := 15) (pc := 64) X d_4_tellTwoSorts_64 (by decide) ?_
                  have r15 : jRng (v4 + 1) := by (unfold jRng; exact ⟨by (have z0 : jRng v4 := rv4; have z1 : jRng (2 * (C v1 0)) := r3; unfold jRng at z0 z1; omega), by (have z0 : jRng v4 := rv4; have z1 : jRng (2 * (C v1 0)) := r3; unfold jRng at z0 z1; omega)⟩)
                  refine jg_sub [1, 2, 3, 4, 0] rfl ?_
                  exact ih15 _ r15 h
                · refine jg_aload_n (pc := 48) X d_4_tellTwoSorts_48 0 rfl ?_
                  refine jg_iload_n (pc := 49) X d_4_tellTwoSorts_49 3 rfl ?_
                  refine jgp_4_5 (pc := 50) X (jl_339_4 hn) kw_319 d_4_tellTwoSorts_50 ?_
                  have w16 := jWF.u (k := 5) (v := v3) hw (jl_339_4 hn) (by decide) rv3
                  refine jg_aload_n (pc := 53) X d_4_tellTwoSorts_53 0 rfl ?_
                  refine jg_iload (pc := 54) X d_4_tellTwoSorts_54 4 rfl ?_
                  refine jgp_4_6 (pc := 56) X (jl_339_4 hn) kw_320 d_4_tellTwoSorts_56 ?_
                  have w17 := jWF.u (k := 6) (v := v4) w16 (jl_339_4 hn) (by decide) rv4
                  refine jg_iconst (pc := 59) X d_4_tellTwoSorts_59 ?_
                  exact jg_ireturn (pc := 60) X hAe hlocks hr d_4_tellTwoSorts_60 ⟨(Nat.le_of_ble_eq_true rfl), (Nat.le_of_ble_eq_true rfl)⟩ rfl (⟨by decide, by decide⟩ : jRng 1) w17 h
        obtain ⟨N, h⟩ := h
        refine jg_sub [1, 2, 3, 4, 0] rfl ?_
        exact jl15   N _ (⟨by decide, by decide⟩ : jRng 0) h
  obtain ⟨N, h⟩ := h
  refine jg_sub [1, 2, 3, 0] rfl ?_
  exact jl2   N _ (⟨by decide, by decide⟩ : jRng 0) h
set_option maxHeartbeats 4000000 in
set_option maxRecDepth 100000 in
theorem m_4_tellSorts {l : Launch} {Z : jE} {n : Nat} {C : jC} {v1 : Int} {v2 : Int} {post : jC → Prop} (tv1 : jT n v1 7) (tv2 : jT n v2 6) (hw0 : jWF n C) (h : wp_4_tellSorts v1 v2 C post) : jCv l y_4_tellSorts prog_6_method_10_code 4 q_4_tellSorts Z n C [jr Z 339, jr Z v1, jr Z v2] post := by
  have hn := hw0.2.2.1
  unfold wp_4_tellSorts at h
  refine jCv_of (lv0 := [(0, jr Z 339), (1, jr Z v1), (2, jr Z v2)]) (by decide) (Nat.le_of_ble_eq_true rfl) rfl ?_
  intro p e s m args below meth c A sz X hAe hr hlocks
  have jb40 : ∀ (v1 : Int) (v2 : Int) (C : jC) (tv1 : jT n v1 7) (tv2 : jT n v2 6) (hw : jWF n C), wp_4_tellSorts_40 v1 v2 C post → jG p l e q_4_tellSorts s m args below meth c 4 Z A (jws Z n C) 0 0 (MQ below (jQv Z n sz post) args s q_4_tellSorts.cells q_4_tellSorts.slots (jA Z n sz)) 40 [(0, jr Z 339), (1, jr Z v1), (2, jr Z v2)] [] := by
    intro v1 v2 C tv1 tv2 hw h
    unfold wp_4_tellSorts_40 at h
    refine jg_aload_n (pc := 40) X d_4_tellSorts_40 0 rfl ?_
    refine jg_aload_n (pc := 41) X d_4_tellSorts_41 1 rfl ?_
    refine jg_aload_n (pc := 42) X d_4_tellSorts_42 2 rfl ?_
    refine jg_iconst (pc := 43) X d_4_tellSorts_43 ?_
    refine jg_iconst (pc := 44) X d_4_tellSorts_44 ?_
    refine jg_pcallVi (pc := 45) X (m_4_isTold tv1 tv2 (⟨by decide, by decide⟩ : jRng (-1)) (⟨by decide, by decide⟩ : jRng (-1)) hw h) jM_4_isTold kw_1298 (jl_339_4 hn) rfl rfl rfl rfl rfl (Nat.le_of_ble_eq_true rfl) d_4_tellSorts_45 ⟨(Nat.le_of_ble_eq_true rfl), (Nat.le_of_ble_eq_true rfl)⟩ ⟨(Nat.le_of_ble_eq_true rfl), (Nat.le_of_ble_eq_true rfl)⟩ (fun x1 r3 h => ?_)
    refine jg_if_eq (tgt := 59) (pc := 48) X d_4_tellSorts_48 (by decide) r3 h (fun c5 h => ?_) (fun c5 h => ?_)
    · refine jg_aload_n (pc := 59) X d_4_tellSorts_59 0 rfl ?_
      refine jg_aload_n (pc := 60) X d_4_tellSorts_60 1 rfl ?_
      refine jg_aload_n (pc := 61) X d_4_tellSorts_61 2 rfl ?_
      refine jg_callVi (pc := 62) X (m_4_tellOneSort tv1 tv2 hw h) jM_4_tellOneSort kw_1303 (jl_339_4 hn) rfl rfl rfl rfl rfl (Nat.le_of_ble_eq_true rfl) d_4_tellSorts_62 ⟨(Nat.le_of_ble_eq_true rfl), (Nat.le_of_ble_eq_true rfl)⟩ ⟨(Nat.le_of_ble_eq_true rfl), (Nat.le_of_ble_eq_true rfl)⟩ (fun x6 C7 r8 w9 h => ?_)
      refine jg_if_eq (tgt := 76) (pc := 65) X d_4_tellSorts_65 (by decide) r8 h (fun c10 h => ?_) (fun c10 h => ?_)
      · refine jg_aload_n (pc := 76) X d_4_tellSorts_76 0 rfl ?_
        refine jg_aload_n (pc := 77) X d_4_tellSorts_77 1 rfl ?_
        refine jg_aload_n (pc := 78) X d_4_tellSorts_78 2 rfl ?_
        refine jg_callVi (pc := 79) X (m_4_tellTwoSorts tv1 tv2 w9 h) jM_4_tellTwoSorts kw_1307 (jl_339_4 hn) rfl rfl rfl rfl rfl (Nat.le_of_ble_eq_true rfl) d_4_tellSorts_79 ⟨(Nat.le_of_ble_eq_true rfl), (Nat.le_of_ble_eq_true rfl)⟩ ⟨(Nat.le_of_ble_eq_true rfl), (Nat.le_of_ble_eq_true rfl)⟩ (fun x11 C12 r13 w14 h => ?_)
        refine jg_if_eq (tgt := 93) (pc := 82) X d_4_tellSorts_82 (by decide) r13 h (fun c15 h => ?_) (fun c15 h => ?_)
        · refine jg_aload_n (pc := 93) X d_4_tellSorts_93 0 rfl ?_
          refine jg_iconst (pc := 94) X d_4_tellSorts_94 ?_
          refine jgp_4_4 (pc := 95) X (jl_339_4 hn) kw_317 d_4_tellSorts_95 ?_
          have w16 := jWF.u (k := 4) (v := (-1)) w14 (jl_339_4 hn) (by decide) (⟨by decide, by decide⟩ : jRng (-1))
          exact jg_return (pc := 98) X hAe hlocks hr d_4_tellSorts_98 ⟨(Nat.le_of_ble_eq_true rfl), (Nat.le_of_ble_eq_true rfl)⟩ w16 h
        · refine jg_aload_n (pc := 85) X d_4_tellSorts_85 0 rfl ?_
          refine jg_iconst (pc := 86) X d_4_tellSorts_86 ?_
          refine jgp_4_4 (pc := 87) X (jl_339_4 hn) kw_317 d_4_tellSorts_87 ?_
          have w17 := jWF.u (k := 4) (v := 2) w14 (jl_339_4 hn) (by decide) (⟨by decide, by decide⟩ : jRng 2)
          refine jg_goto (tgt := 98) (pc := 90) X d_4_tellSorts_90 (by decide) ?_
          exact jg_return (pc := 98) X hAe hlocks hr d_4_tellSorts_98 ⟨(Nat.le_of_ble_eq_true rfl), (Nat.le_of_ble_eq_true rfl)⟩ w17 h
      · refine jg_aload_n (pc := 68) X d_4_tellSorts_68 0 rfl ?_
        refine jg_iconst (pc := 69) X d_4_tellSorts_69 ?_
        refine jgp_4_4 (pc := 70) X (jl_339_4 hn) kw_317 d_4_tellSorts_70 ?_
        have w18 := jWF.u (k := 4) (v := 1) w9 (jl_339_4 hn) (by decide) (⟨by decide, by decide⟩ : jRng 1)
        refine jg_goto (tgt := 98) (pc := 73) X d_4_tellSorts_73 (by decide) ?_
        exact jg_return (pc := 98) X hAe hlocks hr d_4_tellSorts_98 ⟨(Nat.le_of_ble_eq_true rfl), (Nat.le_of_ble_eq_true rfl)⟩ w18 h
    · refine jg_aload_n (pc := 51) X d_4_tellSorts_51 0 rfl ?_
      refine jg_iconst (pc := 52) X d_4_tellSorts_52 ?_
      refine jgp_4_4 (pc := 53) X (jl_339_4 hn) kw_317 d_4_tellSorts_53 ?_
      have w19 := jWF.u (k := 4) (v := 0) hw (jl_339_4 hn) (by decide) (⟨by decide, by decide⟩ : jRng 0)
      refine jg_goto (tgt := 98) (pc := 56) X d_4_tellSorts_56 (by decide) ?_
      exact jg_return (pc := 98) X hAe hlocks hr d_4_tellSorts_98 ⟨(Nat.le_of_ble_eq_true rfl), (Nat.le_of_ble_eq_true rfl)⟩ w19 h
  refine jg_iconst (pc := 0) X d_4_tellSorts_0 ?_
  refine jg_istore_n (pc := 1) X [(3, jI 0), (0, jr Z 339), (1, jr Z v1), (2, jr Z v2)] d_4_tellSorts_1 (by decide) rfl ?_
  have jl2 : ∀  (N : Nat) (v3 : Int) (C : jC) (rv3 : jRng v3) (hw : jWF n C), jI2 (wp_4_tellSorts_2 v1 v2 post) N v3 C → jG p l e q_4_tellSorts s m args below meth c 4 Z A (jws Z n C) 0 0 (MQ below (jQv Z n sz post) args s q_4_tellSorts.cells q_4_tellSorts.slots (jA Z n sz)) 2 [(0, jr Z 339), (1, jr Z v1), (2, jr Z v2), (3, jI v3)] [] := by
    intro   N
    have hn := hw0.2.2.1
    induction N with
    | zero => intro v3 C rv3 hw h; exact h.elim
    | succ N ih2 =>
      intro v3 C rv3 hw h
      have h : wp_4_tellSorts_2 v1 v2 post (jI2 (wp_4_tellSorts_2 v1 v2 post) N) v3 C := h
      generalize jI2 (wp_4_tellSorts_2 v1 v2 post) N = k2 at h ih2
      unfold wp_4_tellSorts_2 at h
      refine jg_iload_n (pc := 2) X d_4_tellSorts_2 3 rfl ?_
      refine jg_aload_n (pc := 3) X d_4_tellSorts_3 2 rfl ?_
      refine jg_pcallVi (pc := 4) X (m_6_length tv2 hw h) jM_6_length kw_1174 tv2 rfl rfl rfl rfl rfl (Nat.le_of_ble_eq_true rfl) d_4_tellSorts_4 ⟨(Nat.le_of_ble_eq_true rfl), (Nat.le_of_ble_eq_true rfl)⟩ ⟨(Nat.le_of_ble_eq_true rfl), (Nat.le_of_ble_eq_true rfl)⟩ (fun x20 r22 h => ?_)
      refine jg_icmp_ge (tgt := 40) (pc := 7) X d_4_tellSorts_7 (by decide) rv3 r22 h (fun c24 h => ?_) (fun c24 h => ?_)
      · refine jg_sub [0, 1, 2] rfl ?_
        exact jb40 _ _ _ tv1 tv2 hw h
      · refine jg_iload_n (pc := 10) X d_4_tellSorts_10 3 rfl ?_
        refine jg_bipush (pc := 11) X d_4_tellSorts_11 rfl ?_
        refine jg_icmp_ge (tgt := 40) (pc := 13) X d_4_tellSorts_13 (by decide) rv3 (⟨by decide, by decide⟩ : jRng 24) h (fun c25 h => ?_) (fun c25 h => ?_)
        · refine jg_sub [0, 1, 2] rfl ?_
          exact jb40 _ _ _ tv1 tv2 hw h
        · refine jg_aload_n (pc := 16) X d_4_tellSorts_16 0 rfl ?_
          refine jgf_4_1 (pc := 17) X (jl_339_4 hn) kw_314 d_4_tellSorts_17 ?_
          refine jg_iload_n (pc := 20) X d_4_tellSorts_20 3 rfl ?_
          refine jg_aload_n (pc := 21) X d_4_tellSorts_21 1 rfl ?_
          refine jgfN_7_5 (pc := 22) X tv1 kn_186 d_4_tellSorts_22 ?_
          refine jg_aload_n (pc := 25) X d_4_tellSorts_25 2 rfl ?_
          refine jg_iload_n (pc := 26) X d_4_tellSorts_26 3 rfl ?_
          refine jg_pcallVi (pc := 27) X (m_6_at tv2 rv3 hw h) jM_6_at kw_1175 tv2 rfl rfl rfl rfl rfl (Nat.le_of_ble_eq_true rfl) d_4_tellSorts_27 ⟨(Nat.le_of_ble_eq_true rfl), (Nat.le_of_ble_eq_true rfl)⟩ ⟨(Nat.le_of_ble_eq_true rfl), (Nat.le_of_ble_eq_true rfl)⟩ (fun x26 r28 h => ?_)
          refine jg_pcallVi (pc := 30) X (m_6_placeOf (jc_sh_5 hn tv1) r28 hw h) jM_6_placeOf kw_1259 (jc_sh_5 hn tv1) rfl rfl rfl rfl rfl (Nat.le_of_ble_eq_true rfl) d_4_tellSorts_30 ⟨(Nat.le_of_ble_eq_true rfl), (Nat.le_of_ble_eq_true rfl)⟩ ⟨(Nat.le_of_ble_eq_true rfl), (Nat.le_of_ble_eq_true rfl)⟩ (fun x30 r32 h => ?_)
          obtain ⟨b34, h⟩ := h
          have b35 : v3 < 24 := by (have z0 : jRng v3 := rv3; have z1 : jRng x20 := r22; unfold jRng at z0 z1; omega)
          refine jg_iastore (len := 24) (pc := 33) X d_4_tellSorts_33 (jl_342_1024 hn) (fun _ => rfl) (by decide) b34 b35 ?_
          have w36 := jWF.u (k := v3) (v := x30) hw (jl_342_1024 hn) (by decide) r32
          refine jg_iinc (pc := 34) X [(3, jI (v3 + 1)), (0, jr Z 339), (1, jr Z v1), (2, jr Z v2)] d_4_tellSorts_34 3 rfl (by decide) rfl ?_
          refine jg_goto (tgt := 2) (pc := 37) X d_4_tellSorts_37 (by decide) ?_
          have r37 : jRng (v3 + 1) := by (unfold jRng; exact ⟨by (have z0 : jRng v3 := rv3; have z1 : jRng x20 := r22; unfold jRng at z0 z1; omega), by (have z0 : jRng v3 := rv3; have z1 : jRng x20 := r22; unfold jRng at z0 z1; omega)⟩)
          refine jg_sub [1, 2, 3, 0] rfl ?_
          exact ih2 _ _ r37 w36 h
  obtain ⟨N, h⟩ := h
  refine jg_sub [1, 2, 3, 0] rfl ?_
  exact jl2   N _ _ (⟨by decide, by decide⟩ : jRng 0) hw0 h
set_option maxHeartbeats 4000000 in
set_option maxRecDepth 100000 in
theorem m_4_sortNeeded {l : Launch} {Z : jE} {n : Nat} {C : jC} {v1 : Int} {post : Int → Prop} (rv1 : jRng v1) (hw0 : jWF n C) (h : wp_4_sortNeeded v1 C post) : jCi l y_4_sortNeeded prog_6_method_9_code 2 (.int) q_4_sortNeeded Z n C [jr Z 339, jI v1] (fun x C9 => C9 = C ∧ post x) := by
  have hn := hw0.2.2.1
  unfold wp_4_sortNeeded at h
  refine jCi_of (lv0 := [(0, jr Z 339), (1, jI v1)]) (by decide) (Nat.le_of_ble_eq_true rfl) rfl ?_
  intro p e s m args below meth c A sz X hAe hr hlocks
  refine jg_iload_n (pc := 0) X d_4_sortNeeded_0 1 rfl ?_
  refine jg_if_ne (tgt := 11) (pc := 1) X d_4_sortNeeded_1 (by decide) rv1 h (fun c1 h => ?_) (fun c1 h => ?_)
  · refine jg_aload_n (pc := 4) X d_4_sortNeeded_4 0 rfl ?_
    refine jgf_4_5 (pc := 5) X (jl_339_4 hn) kw_319 d_4_sortNeeded_5 ?_
    refine jg_goto (tgt := 15) (pc := 8) X d_4_sortNeeded_8 (by decide) ?_
    exact jg_ireturn (pc := 15) X hAe hlocks hr d_4_sortNeeded_15 ⟨(Nat.le_of_ble_eq_true rfl), (Nat.le_of_ble_eq_true rfl)⟩ rfl (hw0.1 _ _) hw0 ⟨rfl, h⟩
  · refine jg_aload_n (pc := 11) X d_4_sortNeeded_11 0 rfl ?_
    refine jgf_4_6 (pc := 12) X (jl_339_4 hn) kw_320 d_4_sortNeeded_12 ?_
    exact jg_ireturn (pc := 15) X hAe hlocks hr d_4_sortNeeded_15 ⟨(Nat.le_of_ble_eq_true rfl), (Nat.le_of_ble_eq_true rfl)⟩ rfl (hw0.1 _ _) hw0 ⟨rfl, h⟩
set_option maxHeartbeats 4000000 in
set_option maxRecDepth 100000 in
theorem m_11_told {l : Launch} {Z : jE} {n : Nat} {C : jC} {v1 : Int} {v2 : Int} {ex : String → jC → Prop} {post : Int → jC → Prop} (rv1 : jRng v1) (rv2 : jRng v2) (hw0 : jWF n C) (h : wp_11_told v1 v2 C ex post) : jXi l y_11_told prog_1_method_32_code 3 (.int) q_11_told Z n C [jr Z 0, jI v1, jI v2] ex post := by
  have hn := hw0.2.2.1
  unfold wp_11_told at h
  refine jXi_of (lv0 := [(0, jr Z 0), (1, jI v1), (2, jI v2)]) (by decide) (Nat.le_of_ble_eq_true rfl) rfl ?_
  intro p e s m args below meth c A sz X hAe hr hlocks htab
  refine jg_aload_n (pc := 0) X d_11_told_0 0 rfl ?_
  refine jgf_11_3 (pc := 1) X (jl_0_11 hn) kw_339 d_11_told_1 ?_
  refine jg_aload_n (pc := 4) X d_11_told_4 0 rfl ?_
  refine jgf_11_2 (pc := 5) X (jl_0_11 hn) kw_338 d_11_told_5 ?_
  refine jgfN_8_0 (pc := 8) X (jl_35_8 hn) kn_290 d_11_told_8 ?_
  refine jg_aload_n (pc := 11) X d_11_told_11 0 rfl ?_
  refine jg_iload_n (pc := 12) X d_11_told_12 1 rfl ?_
  refine jg_pxcallVr (pc := 13) X hAe htab hlocks (m_11_viewNumbered rv1 hw0 h) jM_11_viewNumbered kw_772 (jl_0_11 hn) rfl rfl rfl rfl rfl (Nat.le_of_ble_eq_true rfl) d_11_told_13 ⟨(Nat.le_of_ble_eq_true rfl), (Nat.le_of_ble_eq_true rfl)⟩ ⟨(Nat.le_of_ble_eq_true rfl), (Nat.le_of_ble_eq_true rfl)⟩ ⟨(Nat.le_of_ble_eq_true rfl), (Nat.le_of_ble_eq_true rfl)⟩ (fun x1 h => ?_)
  obtain ⟨t5, h⟩ := h
  refine jg_eqst (congrArg (· :: _) (jn_pos t5.1)) ?_
  refine jgfN_10_1 (pc := 16) X t5 kn_275 d_11_told_16 ?_
  refine jg_callVv (pc := 19) X (m_4_tellSorts (jl_36_7 hn) (jc_vi_1 hn t5) hw0 h) jM_4_tellSorts kw_1294 (jl_339_4 hn) rfl rfl rfl rfl rfl (Nat.le_of_ble_eq_true rfl) d_11_told_19 ⟨(Nat.le_of_ble_eq_true rfl), (Nat.le_of_ble_eq_true rfl)⟩ ⟨(Nat.le_of_ble_eq_true rfl), (Nat.le_of_ble_eq_true rfl)⟩ (fun C7 w9 h => ?_)
  refine jg_iload_n (pc := 22) X d_11_told_22 2 rfl ?_
  refine jg_iconst (pc := 23) X d_11_told_23 ?_
  refine jg_icmp_ne (tgt := 35) (pc := 24) X d_11_told_24 (by decide) rv2 (⟨by decide, by decide⟩ : jRng (-1)) h (fun c10 h => ?_) (fun c10 h => ?_)
  · refine jg_aload_n (pc := 27) X d_11_told_27 0 rfl ?_
    refine jgf_11_3 (pc := 28) X (jl_0_11 hn) kw_339 d_11_told_28 ?_
    refine jgfN_4_4 (pc := 31) X (jl_339_4 hn) kn_318 d_11_told_31 ?_
    refine jg_ret_x ?_
    exact jg_ireturn (pc := 34) X hAe hlocks hr d_11_told_34 ⟨(Nat.le_of_ble_eq_true rfl), (Nat.le_of_ble_eq_true rfl)⟩ rfl (w9.1 _ _) w9 h
  · refine jg_iload_n (pc := 35) X d_11_told_35 2 rfl ?_
    refine jg_if_lt (tgt := 61) (pc := 36) X d_11_told_36 (by decide) rv2 h (fun c11 h => ?_) (fun c11 h => ?_)
    · refine jg_iconst (pc := 61) X d_11_told_61 ?_
      refine jg_ret_x ?_
      exact jg_ireturn (pc := 62) X hAe hlocks hr d_11_told_62 ⟨(Nat.le_of_ble_eq_true rfl), (Nat.le_of_ble_eq_true rfl)⟩ rfl (⟨by decide, by decide⟩ : jRng (-1)) w9 h
    · refine jg_iload_n (pc := 39) X d_11_told_39 2 rfl ?_
      refine jg_aload_n (pc := 40) X d_11_told_40 0 rfl ?_
      refine jgf_11_3 (pc := 41) X (jl_0_11 hn) kw_339 d_11_told_41 ?_
      refine jgfN_4_4 (pc := 44) X (jl_339_4 hn) kn_318 d_11_told_44 ?_
      refine jg_icmp_ge (tgt := 61) (pc := 47) X d_11_told_47 (by decide) rv2 (w9.1 _ _) h (fun c12 h => ?_) (fun c12 h => ?_)
      · have c12 : (C7 339 4) ≤ v2 := c12
        refine jg_iconst (pc := 61) X d_11_told_61 ?_
        refine jg_ret_x ?_
        exact jg_ireturn (pc := 62) X hAe hlocks hr d_11_told_62 ⟨(Nat.le_of_ble_eq_true rfl), (Nat.le_of_ble_eq_true rfl)⟩ rfl (⟨by decide, by decide⟩ : jRng (-1)) w9 h
      · have c12 : ¬ ((C7 339 4) ≤ v2) := c12
        refine jg_aload_n (pc := 50) X d_11_told_50 0 rfl ?_
        refine jgf_11_3 (pc := 51) X (jl_0_11 hn) kw_339 d_11_told_51 ?_
        refine jg_iload_n (pc := 54) X d_11_told_54 2 rfl ?_
        refine jg_pcallVi (pc := 55) X (m_4_sortNeeded rv2 w9 h) jM_4_sortNeeded kw_1311 (jl_339_4 hn) rfl rfl rfl rfl rfl (Nat.le_of_ble_eq_true rfl) d_11_told_55 ⟨(Nat.le_of_ble_eq_true rfl), (Nat.le_of_ble_eq_true rfl)⟩ ⟨(Nat.le_of_ble_eq_true rfl), (Nat.le_of_ble_eq_true rfl)⟩ (fun x13 r15 h => ?_)
        refine jg_goto (tgt := 62) (pc := 58) X d_11_told_58 (by decide) ?_
        refine jg_ret_x ?_
        exact jg_ireturn (pc := 62) X hAe hlocks hr d_11_told_62 ⟨(Nat.le_of_ble_eq_true rfl), (Nat.le_of_ble_eq_true rfl)⟩ rfl r15 w9 h
set_option maxHeartbeats 4000000 in
set_option maxRecDepth 100000 in
theorem m_4_unseenBetween {l : Launch} {Z : jE} {n : Nat} {C : jC} {v1 : Int} {v2 : Int} {v3 : Int} {v4 : Int} {post : Int → Prop} (tv1 : jT n v1 6) (tv2 : jT n v2 6) (rv3 : jRng v3) (rv4 : jRng v4) (hw0 : jWF n C) (h : wp_4_unseenBetween v1 v2 v3 v4 C post) : jCi l y_4_unseenBetween prog_6_method_14_code 9 (.int) q_4_unseenBetween Z n C [jr Z 339, jr Z v1, jr Z v2, jI v3, jI v4] (fun x C9 => C9 = C ∧ post x) := by
  have hn := hw0.2.2.1
  unfold wp_4_unseenBetween at h
  refine jCi_of (lv0 := [(0, jr Z 339), (1, jr Z v1), (2, jr Z v2), (3, jI v3), (4, jI v4)]) (by decide) (Nat.le_of_ble_eq_true rfl) rfl ?_
  intro p e s m args below meth c A sz X hAe hr hlocks
  refine jg_aload_n (pc := 0) X d_4_unseenBetween_0 1 rfl ?_
  refine jg_iload_n (pc := 1) X d_4_unseenBetween_1 3 rfl ?_
  refine jg_pcallVi (pc := 2) X (m_6_placeOf tv1 rv3 hw0 h) jM_6_placeOf kw_1259 tv1 rfl rfl rfl rfl rfl (Nat.le_of_ble_eq_true rfl) d_4_unseenBetween_2 ⟨(Nat.le_of_ble_eq_true rfl), (Nat.le_of_ble_eq_true rfl)⟩ ⟨(Nat.le_of_ble_eq_true rfl), (Nat.le_of_ble_eq_true rfl)⟩ (fun x1 r3 h => ?_)
  refine jg_istore (pc := 5) X [(5, jI x1), (0, jr Z 339), (1, jr Z v1), (2, jr Z v2), (3, jI v3), (4, jI v4)] d_4_unseenBetween_5 (by decide) rfl ?_
  refine jg_aload_n (pc := 7) X d_4_unseenBetween_7 2 rfl ?_
  refine jg_iload (pc := 8) X d_4_unseenBetween_8 5 rfl ?_
  refine jg_pcallVi (pc := 10) X (m_6_placeOf tv1 rv4 hw0 h) jM_6_placeOf kw_1259 tv1 rfl rfl rfl rfl rfl (Nat.le_of_ble_eq_true rfl) d_4_unseenBetween_10 ⟨(Nat.le_of_ble_eq_true rfl), (Nat.le_of_ble_eq_true rfl)⟩ ⟨(Nat.le_of_ble_eq_true rfl), (Nat.le_of_ble_eq_true rfl)⟩ (fun x5 r7 h => ?_)
  refine jg_istore (pc := 13) X [(6, jI x5), (5, jI x1), (0, jr Z 339), (1, jr Z v1), (2, jr Z v2), (3, jI v3), (4, jI v4)] d_4_unseenBetween_13 (by decide) rfl ?_
  refine jg_iconst (pc := 15) X d_4_unseenBetween_15 ?_
  refine jg_istore (pc := 16) X [(7, jI 0), (6, jI x5), (5, jI x1), (0, jr Z 339), (1, jr Z v1), (2, jr Z v2), (3, jI v3), (4, jI v4)] d_4_unseenBetween_16 (by decide) rfl ?_
  refine jg_iload (pc := 18) X d_4_unseenBetween_18 2 rfl ?_
  refine jg_iload (pc := 20) X d_4_unseenBetween_20 1 rfl ?_
  have r9 : jRng (min x1 x5) := jrng_min r3 r7
  refine jg_min (pc := 22) X kw_1326 d_4_unseenBetween_22 kw_min1 kw_ma kw_min2 ⟨(Nat.le_of_ble_eq_true rfl), (Nat.le_of_ble_eq_true rfl), (Nat.le_of_ble_eq_true rfl), (Nat.le_of_ble_eq_true rfl)⟩ r3 r7 ?_
  refine jg_iconst (pc := 25) X d_4_unseenBetween_25 ?_
  refine jg_iadd (pc := 26) X d_4_unseenBetween_26 ?_
  refine jg_istore (pc := 27) X [(8, jI ((min x1 x5) + 1)), (7, jI 0), (6, jI x5), (5, jI x1), (0, jr Z 339), (1, jr Z v1), (2, jr Z v2), (3, jI v3), (4, jI v4)] d_4_unseenBetween_27 (by decide) rfl ?_
  obtain ⟨r10, h⟩ := h
  have hw : jWF n C := hw0
  have jl29 : ∀ (v5 : Int) (v6 : Int) (rv5 : jRng v5) (rv6 : jRng v6) (N : Nat) (v7 : Int) (v8 : Int) (rv7 : jRng v7) (rv8 : jRng v8), jI2 (wp_4_unseenBetween_29 v1 v2 v5 v6 C post) N v7 v8 → jG p l e q_4_unseenBetween s m args below meth c 9 Z A (jws Z n C) 0 0 (MQ below (jQi Z n sz (fun x C9 => C9 = C ∧ post x)) args s q_4_unseenBetween.cells q_4_unseenBetween.slots (jA Z n sz)) 29 [(1, jr Z v1), (2, jr Z v2), (5, jI v5), (6, jI v6), (7, jI v7), (8, jI v8)] [] := by
    intro v5 v6 rv5 rv6 N
    have hn := hw0.2.2.1
    induction N with
    | zero => intro v7 v8 rv7 rv8 h; exact h.elim
    | succ N ih29 =>
      intro v7 v8 rv7 rv8 h
      have h : wp_4_unseenBetween_29 v1 v2 v5 v6 C post (jI2 (wp_4_unseenBetween_29 v1 v2 v5 v6 C post) N) v7 v8 := h
      generalize jI2 (wp_4_unseenBetween_29 v1 v2 v5 v6 C post) N = k29 at h ih29
      unfold wp_4_unseenBetween_29 at h
      refine jg_iload (pc := 29) X d_4_unseenBetween_29 5 rfl ?_
      refine jg_iload (pc := 31) X d_4_unseenBetween_31 2 rfl ?_
      refine jg_iload (pc := 33) X d_4_unseenBetween_33 3 rfl ?_
      have r11 : jRng (max v5 v6) := jrng_max rv5 rv6
      refine jg_max (pc := 35) X kw_1275 d_4_unseenBetween_35 kw_max1 kw_ma kw_max2 ⟨(Nat.le_of_ble_eq_true rfl), (Nat.le_of_ble_eq_true rfl), (Nat.le_of_ble_eq_true rfl), (Nat.le_of_ble_eq_true rfl)⟩ rv5 rv6 ?_
      refine jg_icmp_ge (tgt := 63) (pc := 38) X d_4_unseenBetween_38 (by decide) rv8 r11 h (fun c12 h => ?_) (fun c12 h => ?_)
      · refine jg_iload (pc := 63) X d_4_unseenBetween_63 4 rfl ?_
        exact jg_ireturn (pc := 65) X hAe hlocks hr d_4_unseenBetween_65 ⟨(Nat.le_of_ble_eq_true rfl), (Nat.le_of_ble_eq_true rfl)⟩ rfl rv7 hw ⟨rfl, h⟩
      · refine jg_aload_n (pc := 41) X d_4_unseenBetween_41 1 rfl ?_
        refine jg_aload_n (pc := 42) X d_4_unseenBetween_42 0 rfl ?_
        refine jg_iload (pc := 43) X d_4_unseenBetween_43 5 rfl ?_
        refine jg_pcallVi (pc := 45) X (m_6_at tv1 rv8 hw h) jM_6_at kw_1175 tv1 rfl rfl rfl rfl rfl (Nat.le_of_ble_eq_true rfl) d_4_unseenBetween_45 ⟨(Nat.le_of_ble_eq_true rfl), (Nat.le_of_ble_eq_true rfl)⟩ ⟨(Nat.le_of_ble_eq_true rfl), (Nat.le_of_ble_eq_true rfl)⟩ (fun x13 r15 h => ?_)
        refine jg_pcallVi (pc := 48) X (m_6_holds tv2 r15 hw h) jM_6_holds kw_1176 tv2 rfl rfl rfl rfl rfl (Nat.le_of_ble_eq_true rfl) d_4_unseenBetween_48 ⟨(Nat.le_of_ble_eq_true rfl), (Nat.le_of_ble_eq_true rfl)⟩ ⟨(Nat.le_of_ble_eq_true rfl), (Nat.le_of_ble_eq_true rfl)⟩ (fun x17 r19 h => ?_)
        refine jg_if_ne (tgt := 57) (pc := 51) X d_4_unseenBetween_51 (by decide) r19 h (fun c21 h => ?_) (fun c21 h => ?_)
        · refine jg_iinc (pc := 54) X [(7, jI (v7 + 1)), (1, jr Z v1), (2, jr Z v2), (5, jI v5), (6, jI v6), (8, jI v8)] d_4_unseenBetween_54 4 rfl (by decide) rfl ?_
          refine jg_iinc (pc := 57) X [(8, jI (v8 + 1)), (7, jI (v7 + 1)), (1, jr Z v1), (2, jr Z v2), (5, jI v5), (6, jI v6)] d_4_unseenBetween_57 5 rfl (by decide) rfl ?_
          refine jg_goto (tgt := 29) (pc := 60) X d_4_unseenBetween_60 (by decide) ?_
          obtain ⟨r22, h⟩ := h
          have r23 : jRng (v8 + 1) := by (unfold jRng; exact ⟨by (have z0 : jRng v8 := rv8; have z1 : jRng (max v5 v6) := r11; unfold jRng at z0 z1; omega), by (have z0 : jRng v8 := rv8; have z1 : jRng (max v5 v6) := r11; unfold jRng at z0 z1; omega)⟩)
          refine jg_sub [2, 3, 4, 5, 1, 0] rfl ?_
          exact ih29 _ _ r22 r23 h
        · refine jg_iinc (pc := 57) X [(8, jI (v8 + 1)), (1, jr Z v1), (2, jr Z v2), (5, jI v5), (6, jI v6), (7, jI v7)] d_4_unseenBetween_57 5 rfl (by decide) rfl ?_
          refine jg_goto (tgt := 29) (pc := 60) X d_4_unseenBetween_60 (by decide) ?_
          have r24 : jRng (v8 + 1) := by (unfold jRng; exact ⟨by (have z0 : jRng v8 := rv8; have z1 : jRng (max v5 v6) := r11; unfold jRng at z0 z1; omega), by (have z0 : jRng v8 := rv8; have z1 : jRng (max v5 v6) := r11; unfold jRng at z0 z1; omega)⟩)
          refine jg_sub [1, 2, 3, 4, 5, 0] rfl ?_
          exact ih29 _ _ rv7 r24 h
  obtain ⟨N, h⟩ := h
  refine jg_sub [5, 6, 3, 2, 1, 0] rfl ?_
  exact jl29 _ _ r3 r7 N _ _ (⟨by decide, by decide⟩ : jRng 0) r10 h
set_option maxHeartbeats 4000000 in
set_option maxRecDepth 100000 in
theorem m_11_between {l : Launch} {Z : jE} {n : Nat} {C : jC} {v1 : Int} {v2 : Int} {v3 : Int} {ex : String → jC → Prop} {post : Int → Prop} (rv1 : jRng v1) (rv2 : jRng v2) (rv3 : jRng v3) (hw0 : jWF n C) (h : wp_11_between v1 v2 v3 C ex post) : jXi l y_11_between prog_1_method_33_code 7 (.int) q_11_between Z n C [jr Z 0, jI v1, jI v2, jI v3] ex (fun x C9 => C9 = C ∧ post x) := by
  have hn := hw0.2.2.1
  unfold wp_11_between at h
  refine jXi_of (lv0 := [(0, jr Z 0), (1, jI v1), (2, jI v2), (3, jI v3)]) (by decide) (Nat.le_of_ble_eq_true rfl) rfl ?_
  intro p e s m args below meth c A sz X hAe hr hlocks htab
  refine jg_aload_n (pc := 0) X d_11_between_0 0 rfl ?_
  refine jg_iload_n (pc := 1) X d_11_between_1 1 rfl ?_
  refine jg_pxcallVr (pc := 2) X hAe htab hlocks (m_11_viewNumbered rv1 hw0 h) jM_11_viewNumbered kw_772 (jl_0_11 hn) rfl rfl rfl rfl rfl (Nat.le_of_ble_eq_true rfl) d_11_between_2 ⟨(Nat.le_of_ble_eq_true rfl), (Nat.le_of_ble_eq_true rfl)⟩ ⟨(Nat.le_of_ble_eq_true rfl), (Nat.le_of_ble_eq_true rfl)⟩ ⟨(Nat.le_of_ble_eq_true rfl), (Nat.le_of_ble_eq_true rfl)⟩ (fun x1 h => ?_)
  obtain ⟨t5, h⟩ := h
  refine jg_eqst (congrArg (· :: _) (jn_pos t5.1)) ?_
  refine jg_astore (pc := 5) X [(4, jr Z x1), (0, jr Z 0), (1, jI v1), (2, jI v2), (3, jI v3)] d_11_between_5 (by decide) rfl ?_
  refine jg_aload_n (pc := 7) X d_11_between_7 1 rfl ?_
  refine jg_aload (pc := 8) X d_11_between_8 0 rfl ?_
  refine jg_iload_n (pc := 10) X d_11_between_10 3 rfl ?_
  refine jg_pxcallVi (pc := 11) X hAe htab hlocks (m_11_seatAtPlace t5 rv2 hw0 h) jM_11_seatAtPlace kw_989 (jl_0_11 hn) rfl rfl rfl rfl rfl (Nat.le_of_ble_eq_true rfl) d_11_between_11 ⟨(Nat.le_of_ble_eq_true rfl), (Nat.le_of_ble_eq_true rfl)⟩ ⟨(Nat.le_of_ble_eq_true rfl), (Nat.le_of_ble_eq_true rfl)⟩ ⟨(Nat.le_of_ble_eq_true rfl), (Nat.le_of_ble_eq_true rfl)⟩ (fun x6 r8 h => ?_)
  refine jg_istore (pc := 14) X [(5, jI x6), (4, jr Z x1), (0, jr Z 0), (1, jI v1), (2, jI v2), (3, jI v3)] d_11_between_14 (by decide) rfl ?_
  refine jg_aload_n (pc := 16) X d_11_between_16 2 rfl ?_
  refine jg_aload (pc := 17) X d_11_between_17 1 rfl ?_
  refine jg_iload_n (pc := 19) X d_11_between_19 5 rfl ?_
  refine jg_pxcallVi (pc := 20) X hAe htab hlocks (m_11_seatAtPlace t5 rv3 hw0 h) jM_11_seatAtPlace kw_989 (jl_0_11 hn) rfl rfl rfl rfl rfl (Nat.le_of_ble_eq_true rfl) d_11_between_20 ⟨(Nat.le_of_ble_eq_true rfl), (Nat.le_of_ble_eq_true rfl)⟩ ⟨(Nat.le_of_ble_eq_true rfl), (Nat.le_of_ble_eq_true rfl)⟩ ⟨(Nat.le_of_ble_eq_true rfl), (Nat.le_of_ble_eq_true rfl)⟩ (fun x10 r12 h => ?_)
  refine jg_istore (pc := 23) X [(6, jI x10), (5, jI x6), (4, jr Z x1), (0, jr Z 0), (1, jI v1), (2, jI v2), (3, jI v3)] d_11_between_23 (by decide) rfl ?_
  refine jg_iload_n (pc := 25) X d_11_between_25 5 rfl ?_
  refine jg_iload_n (pc := 26) X d_11_between_26 6 rfl ?_
  refine jg_icmp_ne (tgt := 38) (pc := 27) X d_11_between_27 (by decide) rv2 rv3 h (fun c14 h => ?_) (fun c14 h => ?_)
  · exact jg_throw (pc := 30) X hAe htab hlocks (by decide) kw_612 kw_22 th_58 tg_58 d_11_between_30 d_11_between_33 d_11_between_34 d_11_between_37 ⟨(Nat.le_of_ble_eq_true rfl), (Nat.le_of_ble_eq_true rfl), (Nat.le_of_ble_eq_true rfl), (Nat.le_of_ble_eq_true rfl)⟩ ⟨(Nat.le_of_ble_eq_true rfl), (Nat.le_of_ble_eq_true rfl)⟩ hw0 h
  · refine jg_aload_n (pc := 38) X d_11_between_38 3 rfl ?_
    refine jgf_11_3 (pc := 39) X (jl_0_11 hn) kw_339 d_11_between_39 ?_
    refine jg_aload_n (pc := 42) X d_11_between_42 3 rfl ?_
    refine jgf_11_2 (pc := 43) X (jl_0_11 hn) kw_338 d_11_between_43 ?_
    refine jgfN_8_0 (pc := 46) X (jl_35_8 hn) kn_290 d_11_between_46 ?_
    refine jgfN_7_5 (pc := 49) X (jl_36_7 hn) kn_187 d_11_between_49 ?_
    refine jg_aload (pc := 52) X d_11_between_52 2 rfl ?_
    refine jgfN_10_1 (pc := 54) X t5 kn_275 d_11_between_54 ?_
    refine jg_iload (pc := 57) X d_11_between_57 1 rfl ?_
    refine jg_iload (pc := 59) X d_11_between_59 0 rfl ?_
    refine jg_pcallVi (pc := 61) X (m_4_unseenBetween (jl_41_6 hn) (jc_vi_1 hn t5) r8 r12 hw0 h) jM_4_unseenBetween kw_1322 (jl_339_4 hn) rfl rfl rfl rfl rfl (Nat.le_of_ble_eq_true rfl) d_11_between_61 ⟨(Nat.le_of_ble_eq_true rfl), (Nat.le_of_ble_eq_true rfl)⟩ ⟨(Nat.le_of_ble_eq_true rfl), (Nat.le_of_ble_eq_true rfl)⟩ (fun x15 r17 h => ?_)
    refine jg_ret_x ?_
    exact jg_ireturn (pc := 64) X hAe hlocks hr d_11_between_64 ⟨(Nat.le_of_ble_eq_true rfl), (Nat.le_of_ble_eq_true rfl)⟩ rfl r17 hw0 ⟨rfl, h⟩
set_option maxHeartbeats 4000000 in
set_option maxRecDepth 100000 in
theorem m_11_needNumbers {l : Launch} {Z : jE} {n : Nat} {C : jC} {v1 : Int} {ex : String → jC → Prop} {post : Prop} (rv1 : jRng v1) (hw0 : jWF n C) (h : wp_11_needNumbers v1 C ex post) : jXv l y_11_needNumbers prog_1_method_52_code 2 q_11_needNumbers Z n C [jr Z 0, jI v1] ex (fun C9 => C9 = C ∧ post) := by
  have hn := hw0.2.2.1
  unfold wp_11_needNumbers at h
  refine jXv_of (lv0 := [(0, jr Z 0), (1, jI v1)]) (by decide) (Nat.le_of_ble_eq_true rfl) rfl ?_
  intro p e s m args below meth c A sz X hAe hr hlocks htab
  refine jg_aload_n (pc := 0) X d_11_needNumbers_0 0 rfl ?_
  refine jgf_11_2 (pc := 1) X (jl_0_11 hn) kw_338 d_11_needNumbers_1 ?_
  refine jgfN_8_0 (pc := 4) X (jl_35_8 hn) kn_290 d_11_needNumbers_4 ?_
  refine jg_iload_n (pc := 7) X d_11_needNumbers_7 1 rfl ?_
  refine jg_pcallVi (pc := 8) X (m_7_kindOf (jl_36_7 hn) rv1 hw0 h) jM_7_kindOf kw_909 (jl_36_7 hn) rfl rfl rfl rfl rfl (Nat.le_of_ble_eq_true rfl) d_11_needNumbers_8 ⟨(Nat.le_of_ble_eq_true rfl), (Nat.le_of_ble_eq_true rfl)⟩ ⟨(Nat.le_of_ble_eq_true rfl), (Nat.le_of_ble_eq_true rfl)⟩ (fun x1 r3 h => ?_)
  refine jg_if_eq (tgt := 22) (pc := 11) X d_11_needNumbers_11 (by decide) r3 h (fun c5 h => ?_) (fun c5 h => ?_)
  · refine jg_ret_x ?_
    exact jg_return (pc := 22) X hAe hlocks hr d_11_needNumbers_22 ⟨(Nat.le_of_ble_eq_true rfl), (Nat.le_of_ble_eq_true rfl)⟩ hw0 ⟨rfl, h⟩
  · exact jg_throw (pc := 14) X hAe htab hlocks (by decide) kw_998 kw_26 th_245 tg_245 d_11_needNumbers_14 d_11_needNumbers_17 d_11_needNumbers_18 d_11_needNumbers_21 ⟨(Nat.le_of_ble_eq_true rfl), (Nat.le_of_ble_eq_true rfl), (Nat.le_of_ble_eq_true rfl), (Nat.le_of_ble_eq_true rfl)⟩ ⟨(Nat.le_of_ble_eq_true rfl), (Nat.le_of_ble_eq_true rfl)⟩ hw0 h
set_option maxHeartbeats 4000000 in
set_option maxRecDepth 100000 in
theorem m_4_sumOf {l : Launch} {Z : jE} {n : Nat} {C : jC} {v1 : Int} {v2 : Int} {v3 : Int} {post : Int → Prop} (tv1 : jT n v1 7) (tv2 : jT n v2 6) (rv3 : jRng v3) (hw0 : jWF n C) (h : wp_4_sumOf v1 v2 v3 C post) : jCi l y_4_sumOf prog_6_method_15_code 7 (.int) q_4_sumOf Z n C [jr Z 339, jr Z v1, jr Z v2, jI v3] (fun x C9 => C9 = C ∧ post x) := by
  have hn := hw0.2.2.1
  unfold wp_4_sumOf at h
  refine jCi_of (lv0 := [(0, jr Z 339), (1, jr Z v1), (2, jr Z v2), (3, jI v3)]) (by decide) (Nat.le_of_ble_eq_true rfl) rfl ?_
  intro p e s m args below meth c A sz X hAe hr hlocks
  refine jg_iconst (pc := 0) X d_4_sumOf_0 ?_
  refine jg_istore (pc := 1) X [(4, jI 0), (0, jr Z 339), (1, jr Z v1), (2, jr Z v2), (3, jI v3)] d_4_sumOf_1 (by decide) rfl ?_
  refine jg_iconst (pc := 3) X d_4_sumOf_3 ?_
  refine jg_istore (pc := 4) X [(5, jI 0), (4, jI 0), (0, jr Z 339), (1, jr Z v1), (2, jr Z v2), (3, jI v3)] d_4_sumOf_4 (by decide) rfl ?_
  have hw : jWF n C := hw0
  have jl6 : ∀  (N : Nat) (v4 : Int) (v5 : Int) (rv4 : jRng v4) (rv5 : jRng v5), jI2 (wp_4_sumOf_6 v1 v2 v3 C post) N v4 v5 → jG p l e q_4_sumOf s m args below meth c 7 Z A (jws Z n C) 0 0 (MQ below (jQi Z n sz (fun x C9 => C9 = C ∧ post x)) args s q_4_sumOf.cells q_4_sumOf.slots (jA Z n sz)) 6 [(1, jr Z v1), (2, jr Z v2), (3, jI v3), (4, jI v4), (5, jI v5)] [] := by
    intro   N
    have hn := hw0.2.2.1
    induction N with
    | zero => intro v4 v5 rv4 rv5 h; exact h.elim
    | succ N ih6 =>
      intro v4 v5 rv4 rv5 h
      have h : wp_4_sumOf_6 v1 v2 v3 C post (jI2 (wp_4_sumOf_6 v1 v2 v3 C post) N) v4 v5 := h
      generalize jI2 (wp_4_sumOf_6 v1 v2 v3 C post) N = k6 at h ih6
      unfold wp_4_sumOf_6 at h
      refine jg_iload (pc := 6) X d_4_sumOf_6 4 rfl ?_
      refine jg_aload_n (pc := 8) X d_4_sumOf_8 1 rfl ?_
      refine jg_pcallVi (pc := 9) X (m_6_length tv2 hw h) jM_6_length kw_1174 tv2 rfl rfl rfl rfl rfl (Nat.le_of_ble_eq_true rfl) d_4_sumOf_9 ⟨(Nat.le_of_ble_eq_true rfl), (Nat.le_of_ble_eq_true rfl)⟩ ⟨(Nat.le_of_ble_eq_true rfl), (Nat.le_of_ble_eq_true rfl)⟩ (fun x1 r3 h => ?_)
      refine jg_icmp_ge (tgt := 52) (pc := 12) X d_4_sumOf_12 (by decide) rv5 r3 h (fun c5 h => ?_) (fun c5 h => ?_)
      · refine jg_iload (pc := 52) X d_4_sumOf_52 3 rfl ?_
        exact jg_ireturn (pc := 54) X hAe hlocks hr d_4_sumOf_54 ⟨(Nat.le_of_ble_eq_true rfl), (Nat.le_of_ble_eq_true rfl)⟩ rfl rv4 hw ⟨rfl, h⟩
      · refine jg_aload_n (pc := 15) X d_4_sumOf_15 0 rfl ?_
        refine jg_aload_n (pc := 16) X d_4_sumOf_16 1 rfl ?_
        refine jg_iload (pc := 17) X d_4_sumOf_17 4 rfl ?_
        refine jg_pcallVi (pc := 19) X (m_6_at tv2 rv5 hw h) jM_6_at kw_1175 tv2 rfl rfl rfl rfl rfl (Nat.le_of_ble_eq_true rfl) d_4_sumOf_19 ⟨(Nat.le_of_ble_eq_true rfl), (Nat.le_of_ble_eq_true rfl)⟩ ⟨(Nat.le_of_ble_eq_true rfl), (Nat.le_of_ble_eq_true rfl)⟩ (fun x6 r8 h => ?_)
        refine jg_iload_n (pc := 22) X d_4_sumOf_22 2 rfl ?_
        refine jg_pcallVi (pc := 23) X (m_7_valueAt tv1 r8 rv3 hw h) jM_7_valueAt kw_1342 tv1 rfl rfl rfl rfl rfl (Nat.le_of_ble_eq_true rfl) d_4_sumOf_23 ⟨(Nat.le_of_ble_eq_true rfl), (Nat.le_of_ble_eq_true rfl)⟩ ⟨(Nat.le_of_ble_eq_true rfl), (Nat.le_of_ble_eq_true rfl)⟩ (fun x10 r12 h => ?_)
        refine jg_istore (pc := 26) X [(6, jI x10), (1, jr Z v1), (2, jr Z v2), (3, jI v3), (4, jI v4), (5, jI v5)] d_4_sumOf_26 (by decide) rfl ?_
        refine jg_iload (pc := 28) X d_4_sumOf_28 4 rfl ?_
        refine jg_iload (pc := 30) X d_4_sumOf_30 0 rfl ?_
        refine jg_ldk (pc := 32) (-1000000) X kw_1343 (by decide) d_4_sumOf_32 ?_
        refine jg_icmp_ne (tgt := 41) (pc := 34) X d_4_sumOf_34 (by decide) r12 (⟨by decide, by decide⟩ : jRng (-1000000)) h (fun c14 h => ?_) (fun c14 h => ?_)
        · refine jg_iconst (pc := 37) X d_4_sumOf_37 ?_
          refine jg_goto (tgt := 43) (pc := 38) X d_4_sumOf_38 (by decide) ?_
          refine jg_iadd (pc := 43) X d_4_sumOf_43 ?_
          refine jg_istore (pc := 44) X [(4, jI (v4 + 0)), (6, jI x10), (1, jr Z v1), (2, jr Z v2), (3, jI v3), (5, jI v5)] d_4_sumOf_44 (by decide) rfl ?_
          refine jg_iinc (pc := 46) X [(5, jI (v5 + 1)), (4, jI (v4 + 0)), (6, jI x10), (1, jr Z v1), (2, jr Z v2), (3, jI v3)] d_4_sumOf_46 5 rfl (by decide) rfl ?_
          refine jg_goto (tgt := 6) (pc := 49) X d_4_sumOf_49 (by decide) ?_
          have r15 : jRng (v4 + 0) := by (unfold jRng; exact ⟨by (have z0 : jRng v4 := rv4; unfold jRng at z0; omega), by (have z0 : jRng v4 := rv4; unfold jRng at z0; omega)⟩)
          have r16 : jRng (v5 + 1) := by (unfold jRng; exact ⟨by (have z0 : jRng v5 := rv5; have z1 : jRng x1 := r3; unfold jRng at z0 z1; omega), by (have z0 : jRng v5 := rv5; have z1 : jRng x1 := r3; unfold jRng at z0 z1; omega)⟩)
          refine jg_sub [3, 4, 5, 1, 0] rfl ?_
          exact ih6 _ _ r15 r16 h
        · refine jg_iload (pc := 41) X d_4_sumOf_41 0 rfl ?_
          refine jg_iadd (pc := 43) X d_4_sumOf_43 ?_
          refine jg_istore (pc := 44) X [(4, jI (v4 + x10)), (6, jI x10), (1, jr Z v1), (2, jr Z v2), (3, jI v3), (5, jI v5)] d_4_sumOf_44 (by decide) rfl ?_
          refine jg_iinc (pc := 46) X [(5, jI (v5 + 1)), (4, jI (v4 + x10)), (6, jI x10), (1, jr Z v1), (2, jr Z v2), (3, jI v3)] d_4_sumOf_46 5 rfl (by decide) rfl ?_
          refine jg_goto (tgt := 6) (pc := 49) X d_4_sumOf_49 (by decide) ?_
          obtain ⟨r17, h⟩ := h
          have r18 : jRng (v5 + 1) := by (unfold jRng; exact ⟨by (have z0 : jRng v5 := rv5; have z1 : jRng x1 := r3; unfold jRng at z0 z1; omega), by (have z0 : jRng v5 := rv5; have z1 : jRng x1 := r3; unfold jRng at z0 z1; omega)⟩)
          refine jg_sub [3, 4, 5, 1, 0] rfl ?_
          exact ih6 _ _ r17 r18 h
  obtain ⟨N, h⟩ := h
  refine jg_sub [3, 4, 5, 1, 0] rfl ?_
  exact jl6   N _ _ (⟨by decide, by decide⟩ : jRng 0) (⟨by decide, by decide⟩ : jRng 0) h
set_option maxHeartbeats 4000000 in
set_option maxRecDepth 100000 in
theorem m_11_sum {l : Launch} {Z : jE} {n : Nat} {C : jC} {v1 : Int} {v2 : Int} {ex : String → jC → Prop} {post : Int → Prop} (rv1 : jRng v1) (rv2 : jRng v2) (hw0 : jWF n C) (h : wp_11_sum v1 v2 C ex post) : jXi l y_11_sum prog_1_method_34_code 4 (.int) q_11_sum Z n C [jr Z 0, jI v1, jI v2] ex (fun x C9 => C9 = C ∧ post x) := by
  have hn := hw0.2.2.1
  unfold wp_11_sum at h
  refine jXi_of (lv0 := [(0, jr Z 0), (1, jI v1), (2, jI v2)]) (by decide) (Nat.le_of_ble_eq_true rfl) rfl ?_
  intro p e s m args below meth c A sz X hAe hr hlocks htab
  refine jg_aload_n (pc := 0) X d_11_sum_0 0 rfl ?_
  refine jg_iload_n (pc := 1) X d_11_sum_1 1 rfl ?_
  refine jg_pxcallVr (pc := 2) X hAe htab hlocks (m_11_viewNumbered rv1 hw0 h) jM_11_viewNumbered kw_772 (jl_0_11 hn) rfl rfl rfl rfl rfl (Nat.le_of_ble_eq_true rfl) d_11_sum_2 ⟨(Nat.le_of_ble_eq_true rfl), (Nat.le_of_ble_eq_true rfl)⟩ ⟨(Nat.le_of_ble_eq_true rfl), (Nat.le_of_ble_eq_true rfl)⟩ ⟨(Nat.le_of_ble_eq_true rfl), (Nat.le_of_ble_eq_true rfl)⟩ (fun x1 h => ?_)
  obtain ⟨t5, h⟩ := h
  refine jg_eqst (congrArg (· :: _) (jn_pos t5.1)) ?_
  refine jg_astore_n (pc := 5) X [(3, jr Z x1), (0, jr Z 0), (1, jI v1), (2, jI v2)] d_11_sum_5 (by decide) rfl ?_
  refine jg_aload_n (pc := 6) X d_11_sum_6 1 rfl ?_
  refine jg_iload_n (pc := 7) X d_11_sum_7 3 rfl ?_
  refine jg_pxcallVv (pc := 8) X hAe htab hlocks (m_11_needColumn rv2 hw0 h) jM_11_needColumn kw_904 (jl_0_11 hn) rfl rfl rfl rfl rfl (Nat.le_of_ble_eq_true rfl) d_11_sum_8 ⟨(Nat.le_of_ble_eq_true rfl), (Nat.le_of_ble_eq_true rfl)⟩ ⟨(Nat.le_of_ble_eq_true rfl), (Nat.le_of_ble_eq_true rfl)⟩ ⟨(Nat.le_of_ble_eq_true rfl), (Nat.le_of_ble_eq_true rfl)⟩ (fun h => ?_)
  refine jg_aload_n (pc := 11) X d_11_sum_11 1 rfl ?_
  refine jg_iload_n (pc := 12) X d_11_sum_12 3 rfl ?_
  refine jg_pxcallVv (pc := 13) X hAe htab hlocks (m_11_needNumbers rv2 hw0 h) jM_11_needNumbers kw_1334 (jl_0_11 hn) rfl rfl rfl rfl rfl (Nat.le_of_ble_eq_true rfl) d_11_sum_13 ⟨(Nat.le_of_ble_eq_true rfl), (Nat.le_of_ble_eq_true rfl)⟩ ⟨(Nat.le_of_ble_eq_true rfl), (Nat.le_of_ble_eq_true rfl)⟩ ⟨(Nat.le_of_ble_eq_true rfl), (Nat.le_of_ble_eq_true rfl)⟩ (fun h => ?_)
  refine jg_aload_n (pc := 16) X d_11_sum_16 1 rfl ?_
  refine jgf_11_3 (pc := 17) X (jl_0_11 hn) kw_339 d_11_sum_17 ?_
  refine jg_aload_n (pc := 20) X d_11_sum_20 1 rfl ?_
  refine jgf_11_2 (pc := 21) X (jl_0_11 hn) kw_338 d_11_sum_21 ?_
  refine jgfN_8_0 (pc := 24) X (jl_35_8 hn) kn_290 d_11_sum_24 ?_
  refine jg_aload_n (pc := 27) X d_11_sum_27 0 rfl ?_
  refine jgfN_10_1 (pc := 28) X t5 kn_275 d_11_sum_28 ?_
  refine jg_iload_n (pc := 31) X d_11_sum_31 3 rfl ?_
  refine jg_pcallVi (pc := 32) X (m_4_sumOf (jl_36_7 hn) (jc_vi_1 hn t5) rv2 hw0 h) jM_4_sumOf kw_1338 (jl_339_4 hn) rfl rfl rfl rfl rfl (Nat.le_of_ble_eq_true rfl) d_11_sum_32 ⟨(Nat.le_of_ble_eq_true rfl), (Nat.le_of_ble_eq_true rfl)⟩ ⟨(Nat.le_of_ble_eq_true rfl), (Nat.le_of_ble_eq_true rfl)⟩ (fun x14 r16 h => ?_)
  refine jg_ret_x ?_
  exact jg_ireturn (pc := 35) X hAe hlocks hr d_11_sum_35 ⟨(Nat.le_of_ble_eq_true rfl), (Nat.le_of_ble_eq_true rfl)⟩ rfl r16 hw0 ⟨rfl, h⟩
set_option maxHeartbeats 4000000 in
set_option maxRecDepth 100000 in
theorem m_4_isAlike {l : Launch} {Z : jE} {n : Nat} {C : jC} {v1 : Int} {v2 : Int} {v3 : Int} {v4 : Int} {v5 : Int} {post : Int → Prop} (tv1 : jT n v1 7) (tv2 : jT n v2 6) (rv3 : jRng v3) (rv4 : jRng v4) (rv5 : jRng v5) (hw0 : jWF n C) (h : wp_4_isAlike v1 v2 v3 v4 v5 C post) : jCi l y_4_isAlike prog_6_method_16_code 6 (.boolean) q_4_isAlike Z n C [jr Z 339, jr Z v1, jr Z v2, jI v3, jI v4, jI v5] (fun x C9 => C9 = C ∧ post x) := by
  have hn := hw0.2.2.1
  unfold wp_4_isAlike at h
  refine jCi_of (lv0 := [(0, jr Z 339), (1, jr Z v1), (2, jr Z v2), (3, jI v3), (4, jI v4), (5, jI v5)]) (by decide) (Nat.le_of_ble_eq_true rfl) rfl ?_
  intro p e s m args below meth c A sz X hAe hr hlocks
  refine jg_aload_n (pc := 0) X d_4_isAlike_0 1 rfl ?_
  refine jg_aload_n (pc := 1) X d_4_isAlike_1 2 rfl ?_
  refine jg_iload (pc := 2) X d_4_isAlike_2 4 rfl ?_
  refine jg_pcallVi (pc := 4) X (m_6_at tv2 rv4 hw0 h) jM_6_at kw_1175 tv2 rfl rfl rfl rfl rfl (Nat.le_of_ble_eq_true rfl) d_4_isAlike_4 ⟨(Nat.le_of_ble_eq_true rfl), (Nat.le_of_ble_eq_true rfl)⟩ ⟨(Nat.le_of_ble_eq_true rfl), (Nat.le_of_ble_eq_true rfl)⟩ (fun x1 r3 h => ?_)
  refine jg_iload_n (pc := 7) X d_4_isAlike_7 3 rfl ?_
  refine jg_pcallVi (pc := 8) X (m_7_valueAt tv1 r3 rv3 hw0 h) jM_7_valueAt kw_1342 tv1 rfl rfl rfl rfl rfl (Nat.le_of_ble_eq_true rfl) d_4_isAlike_8 ⟨(Nat.le_of_ble_eq_true rfl), (Nat.le_of_ble_eq_true rfl)⟩ ⟨(Nat.le_of_ble_eq_true rfl), (Nat.le_of_ble_eq_true rfl)⟩ (fun x5 r7 h => ?_)
  refine jg_aload_n (pc := 11) X d_4_isAlike_11 1 rfl ?_
  refine jg_aload_n (pc := 12) X d_4_isAlike_12 2 rfl ?_
  refine jg_iload (pc := 13) X d_4_isAlike_13 5 rfl ?_
  refine jg_pcallVi (pc := 15) X (m_6_at tv2 rv5 hw0 h) jM_6_at kw_1175 tv2 rfl rfl rfl rfl rfl (Nat.le_of_ble_eq_true rfl) d_4_isAlike_15 ⟨(Nat.le_of_ble_eq_true rfl), (Nat.le_of_ble_eq_true rfl)⟩ ⟨(Nat.le_of_ble_eq_true rfl), (Nat.le_of_ble_eq_true rfl)⟩ (fun x9 r11 h => ?_)
  refine jg_iload_n (pc := 18) X d_4_isAlike_18 3 rfl ?_
  refine jg_pcallVi (pc := 19) X (m_7_valueAt tv1 r11 rv3 hw0 h) jM_7_valueAt kw_1342 tv1 rfl rfl rfl rfl rfl (Nat.le_of_ble_eq_true rfl) d_4_isAlike_19 ⟨(Nat.le_of_ble_eq_true rfl), (Nat.le_of_ble_eq_true rfl)⟩ ⟨(Nat.le_of_ble_eq_true rfl), (Nat.le_of_ble_eq_true rfl)⟩ (fun x13 r15 h => ?_)
  refine jg_icmp_ne (tgt := 29) (pc := 22) X d_4_isAlike_22 (by decide) r7 r15 h (fun c17 h => ?_) (fun c17 h => ?_)
  · refine jg_iconst (pc := 25) X d_4_isAlike_25 ?_
    refine jg_goto (tgt := 30) (pc := 26) X d_4_isAlike_26 (by decide) ?_
    exact jg_ireturn (pc := 30) X hAe hlocks hr d_4_isAlike_30 ⟨(Nat.le_of_ble_eq_true rfl), (Nat.le_of_ble_eq_true rfl)⟩ rfl (⟨by decide, by decide⟩ : jRng 1) hw0 ⟨rfl, h⟩
  · refine jg_iconst (pc := 29) X d_4_isAlike_29 ?_
    exact jg_ireturn (pc := 30) X hAe hlocks hr d_4_isAlike_30 ⟨(Nat.le_of_ble_eq_true rfl), (Nat.le_of_ble_eq_true rfl)⟩ rfl (⟨by decide, by decide⟩ : jRng 0) hw0 ⟨rfl, h⟩
set_option maxHeartbeats 4000000 in
set_option maxRecDepth 100000 in
theorem m_4_isFirstLike {l : Launch} {Z : jE} {n : Nat} {C : jC} {v1 : Int} {v2 : Int} {v3 : Int} {v4 : Int} {post : Int → Prop} (tv1 : jT n v1 7) (tv2 : jT n v2 6) (rv3 : jRng v3) (rv4 : jRng v4) (hw0 : jWF n C) (h : wp_4_isFirstLike v1 v2 v3 v4 C post) : jCi l y_4_isFirstLike prog_6_method_17_code 6 (.boolean) q_4_isFirstLike Z n C [jr Z 339, jr Z v1, jr Z v2, jI v3, jI v4] (fun x C9 => C9 = C ∧ post x) := by
  have hn := hw0.2.2.1
  unfold wp_4_isFirstLike at h
  refine jCi_of (lv0 := [(0, jr Z 339), (1, jr Z v1), (2, jr Z v2), (3, jI v3), (4, jI v4)]) (by decide) (Nat.le_of_ble_eq_true rfl) rfl ?_
  intro p e s m args below meth c A sz X hAe hr hlocks
  refine jg_iconst (pc := 0) X d_4_isFirstLike_0 ?_
  refine jg_istore (pc := 1) X [(5, jI 0), (0, jr Z 339), (1, jr Z v1), (2, jr Z v2), (3, jI v3), (4, jI v4)] d_4_isFirstLike_1 (by decide) rfl ?_
  have hw : jWF n C := hw0
  have jl3 : ∀  (N : Nat) (v5 : Int) (rv5 : jRng v5), jI1 (wp_4_isFirstLike_3 v1 v2 v3 v4 C post) N v5 → jG p l e q_4_isFirstLike s m args below meth c 6 Z A (jws Z n C) 0 0 (MQ below (jQi Z n sz (fun x C9 => C9 = C ∧ post x)) args s q_4_isFirstLike.cells q_4_isFirstLike.slots (jA Z n sz)) 3 [(0, jr Z 339), (1, jr Z v1), (2, jr Z v2), (3, jI v3), (4, jI v4), (5, jI v5)] [] := by
    intro   N
    have hn := hw0.2.2.1
    induction N with
    | zero => intro v5 rv5 h; exact h.elim
    | succ N ih3 =>
      intro v5 rv5 h
      have h : wp_4_isFirstLike_3 v1 v2 v3 v4 C post (jI1 (wp_4_isFirstLike_3 v1 v2 v3 v4 C post) N) v5 := h
      generalize jI1 (wp_4_isFirstLike_3 v1 v2 v3 v4 C post) N = k3 at h ih3
      unfold wp_4_isFirstLike_3 at h
      refine jg_iload (pc := 3) X d_4_isFirstLike_3 5 rfl ?_
      refine jg_iload (pc := 5) X d_4_isFirstLike_5 4 rfl ?_
      refine jg_icmp_ge (tgt := 32) (pc := 7) X d_4_isFirstLike_7 (by decide) rv5 rv4 h (fun c1 h => ?_) (fun c1 h => ?_)
      · refine jg_iconst (pc := 32) X d_4_isFirstLike_32 ?_
        exact jg_ireturn (pc := 33) X hAe hlocks hr d_4_isFirstLike_33 ⟨(Nat.le_of_ble_eq_true rfl), (Nat.le_of_ble_eq_true rfl)⟩ rfl (⟨by decide, by decide⟩ : jRng 1) hw ⟨rfl, h⟩
      · refine jg_aload_n (pc := 10) X d_4_isFirstLike_10 0 rfl ?_
        refine jg_aload_n (pc := 11) X d_4_isFirstLike_11 1 rfl ?_
        refine jg_aload_n (pc := 12) X d_4_isFirstLike_12 2 rfl ?_
        refine jg_iload_n (pc := 13) X d_4_isFirstLike_13 3 rfl ?_
        refine jg_iload (pc := 14) X d_4_isFirstLike_14 4 rfl ?_
        refine jg_iload (pc := 16) X d_4_isFirstLike_16 5 rfl ?_
        refine jg_pcallVi (pc := 18) X (m_4_isAlike tv1 tv2 rv3 rv4 rv5 hw h) jM_4_isAlike kw_1359 (jl_339_4 hn) rfl rfl rfl rfl rfl (Nat.le_of_ble_eq_true rfl) d_4_isFirstLike_18 ⟨(Nat.le_of_ble_eq_true rfl), (Nat.le_of_ble_eq_true rfl)⟩ ⟨(Nat.le_of_ble_eq_true rfl), (Nat.le_of_ble_eq_true rfl)⟩ (fun x2 r4 h => ?_)
        refine jg_if_eq (tgt := 26) (pc := 21) X d_4_isFirstLike_21 (by decide) r4 h (fun c6 h => ?_) (fun c6 h => ?_)
        · refine jg_iinc (pc := 26) X [(5, jI (v5 + 1)), (0, jr Z 339), (1, jr Z v1), (2, jr Z v2), (3, jI v3), (4, jI v4)] d_4_isFirstLike_26 5 rfl (by decide) rfl ?_
          refine jg_goto (tgt := 3) (pc := 29) X d_4_isFirstLike_29 (by decide) ?_
          have r7 : jRng (v5 + 1) := by (unfold jRng; exact ⟨by (have z0 : jRng v5 := rv5; have z1 : jRng v4 := rv4; unfold jRng at z0 z1; omega), by (have z0 : jRng v5 := rv5; have z1 : jRng v4 := rv4; unfold jRng at z0 z1; omega)⟩)
          refine jg_sub [1, 2, 3, 4, 5, 0] rfl ?_
          exact ih3 _ r7 h
        · refine jg_iconst (pc := 24) X d_4_isFirstLike_24 ?_
          exact jg_ireturn (pc := 25) X hAe hlocks hr d_4_isFirstLike_25 ⟨(Nat.le_of_ble_eq_true rfl), (Nat.le_of_ble_eq_true rfl)⟩ rfl (⟨by decide, by decide⟩ : jRng 0) hw ⟨rfl, h⟩
  obtain ⟨N, h⟩ := h
  refine jg_sub [1, 2, 3, 4, 5, 0] rfl ?_
  exact jl3   N _ (⟨by decide, by decide⟩ : jRng 0) h
set_option maxHeartbeats 4000000 in
set_option maxRecDepth 100000 in
theorem m_4_groupsOf {l : Launch} {Z : jE} {n : Nat} {C : jC} {v1 : Int} {v2 : Int} {v3 : Int} {post : Int → Prop} (tv1 : jT n v1 7) (tv2 : jT n v2 6) (rv3 : jRng v3) (hw0 : jWF n C) (h : wp_4_groupsOf v1 v2 v3 C post) : jCi l y_4_groupsOf prog_6_method_18_code 6 (.int) q_4_groupsOf Z n C [jr Z 339, jr Z v1, jr Z v2, jI v3] (fun x C9 => C9 = C ∧ post x) := by
  have hn := hw0.2.2.1
  unfold wp_4_groupsOf at h
  refine jCi_of (lv0 := [(0, jr Z 339), (1, jr Z v1), (2, jr Z v2), (3, jI v3)]) (by decide) (Nat.le_of_ble_eq_true rfl) rfl ?_
  intro p e s m args below meth c A sz X hAe hr hlocks
  refine jg_iconst (pc := 0) X d_4_groupsOf_0 ?_
  refine jg_istore (pc := 1) X [(4, jI 0), (0, jr Z 339), (1, jr Z v1), (2, jr Z v2), (3, jI v3)] d_4_groupsOf_1 (by decide) rfl ?_
  refine jg_iconst (pc := 3) X d_4_groupsOf_3 ?_
  refine jg_istore (pc := 4) X [(5, jI 0), (4, jI 0), (0, jr Z 339), (1, jr Z v1), (2, jr Z v2), (3, jI v3)] d_4_groupsOf_4 (by decide) rfl ?_
  have hw : jWF n C := hw0
  have jl6 : ∀  (N : Nat) (v4 : Int) (v5 : Int) (rv4 : jRng v4) (rv5 : jRng v5), jI2 (wp_4_groupsOf_6 v1 v2 v3 C post) N v4 v5 → jG p l e q_4_groupsOf s m args below meth c 6 Z A (jws Z n C) 0 0 (MQ below (jQi Z n sz (fun x C9 => C9 = C ∧ post x)) args s q_4_groupsOf.cells q_4_groupsOf.slots (jA Z n sz)) 6 [(0, jr Z 339), (1, jr Z v1), (2, jr Z v2), (3, jI v3), (4, jI v4), (5, jI v5)] [] := by
    intro   N
    have hn := hw0.2.2.1
    induction N with
    | zero => intro v4 v5 rv4 rv5 h; exact h.elim
    | succ N ih6 =>
      intro v4 v5 rv4 rv5 h
      have h : wp_4_groupsOf_6 v1 v2 v3 C post (jI2 (wp_4_groupsOf_6 v1 v2 v3 C post) N) v4 v5 := h
      generalize jI2 (wp_4_groupsOf_6 v1 v2 v3 C post) N = k6 at h ih6
      unfold wp_4_groupsOf_6 at h
      refine jg_iload (pc := 6) X d_4_groupsOf_6 5 rfl ?_
      refine jg_aload_n (pc := 8) X d_4_groupsOf_8 2 rfl ?_
      refine jg_pcallVi (pc := 9) X (m_6_length tv2 hw h) jM_6_length kw_1174 tv2 rfl rfl rfl rfl rfl (Nat.le_of_ble_eq_true rfl) d_4_groupsOf_9 ⟨(Nat.le_of_ble_eq_true rfl), (Nat.le_of_ble_eq_true rfl)⟩ ⟨(Nat.le_of_ble_eq_true rfl), (Nat.le_of_ble_eq_true rfl)⟩ (fun x1 r3 h => ?_)
      refine jg_icmp_ge (tgt := 36) (pc := 12) X d_4_groupsOf_12 (by decide) rv5 r3 h (fun c5 h => ?_) (fun c5 h => ?_)
      · refine jg_iload (pc := 36) X d_4_groupsOf_36 4 rfl ?_
        exact jg_ireturn (pc := 38) X hAe hlocks hr d_4_groupsOf_38 ⟨(Nat.le_of_ble_eq_true rfl), (Nat.le_of_ble_eq_true rfl)⟩ rfl rv4 hw ⟨rfl, h⟩
      · refine jg_aload_n (pc := 15) X d_4_groupsOf_15 0 rfl ?_
        refine jg_aload_n (pc := 16) X d_4_groupsOf_16 1 rfl ?_
        refine jg_aload_n (pc := 17) X d_4_groupsOf_17 2 rfl ?_
        refine jg_iload_n (pc := 18) X d_4_groupsOf_18 3 rfl ?_
        refine jg_iload (pc := 19) X d_4_groupsOf_19 5 rfl ?_
        refine jg_pcallVi (pc := 21) X (m_4_isFirstLike tv1 tv2 rv3 rv5 hw h) jM_4_isFirstLike kw_1355 (jl_339_4 hn) rfl rfl rfl rfl rfl (Nat.le_of_ble_eq_true rfl) d_4_groupsOf_21 ⟨(Nat.le_of_ble_eq_true rfl), (Nat.le_of_ble_eq_true rfl)⟩ ⟨(Nat.le_of_ble_eq_true rfl), (Nat.le_of_ble_eq_true rfl)⟩ (fun x6 r8 h => ?_)
        refine jg_if_eq (tgt := 30) (pc := 24) X d_4_groupsOf_24 (by decide) r8 h (fun c10 h => ?_) (fun c10 h => ?_)
        · refine jg_iinc (pc := 30) X [(5, jI (v5 + 1)), (0, jr Z 339), (1, jr Z v1), (2, jr Z v2), (3, jI v3), (4, jI v4)] d_4_groupsOf_30 5 rfl (by decide) rfl ?_
          refine jg_goto (tgt := 6) (pc := 33) X d_4_groupsOf_33 (by decide) ?_
          have r11 : jRng (v5 + 1) := by (unfold jRng; exact ⟨by (have z0 : jRng v5 := rv5; have z1 : jRng x1 := r3; unfold jRng at z0 z1; omega), by (have z0 : jRng v5 := rv5; have z1 : jRng x1 := r3; unfold jRng at z0 z1; omega)⟩)
          refine jg_sub [1, 2, 3, 4, 5, 0] rfl ?_
          exact ih6 _ _ rv4 r11 h
        · refine jg_iinc (pc := 27) X [(4, jI (v4 + 1)), (0, jr Z 339), (1, jr Z v1), (2, jr Z v2), (3, jI v3), (5, jI v5)] d_4_groupsOf_27 4 rfl (by decide) rfl ?_
          refine jg_iinc (pc := 30) X [(5, jI (v5 + 1)), (4, jI (v4 + 1)), (0, jr Z 339), (1, jr Z v1), (2, jr Z v2), (3, jI v3)] d_4_groupsOf_30 5 rfl (by decide) rfl ?_
          refine jg_goto (tgt := 6) (pc := 33) X d_4_groupsOf_33 (by decide) ?_
          obtain ⟨r12, h⟩ := h
          have r13 : jRng (v5 + 1) := by (unfold jRng; exact ⟨by (have z0 : jRng v5 := rv5; have z1 : jRng x1 := r3; unfold jRng at z0 z1; omega), by (have z0 : jRng v5 := rv5; have z1 : jRng x1 := r3; unfold jRng at z0 z1; omega)⟩)
          refine jg_sub [2, 3, 4, 5, 1, 0] rfl ?_
          exact ih6 _ _ r12 r13 h
  obtain ⟨N, h⟩ := h
  refine jg_sub [2, 3, 4, 5, 1, 0] rfl ?_
  exact jl6   N _ _ (⟨by decide, by decide⟩ : jRng 0) (⟨by decide, by decide⟩ : jRng 0) h
set_option maxHeartbeats 4000000 in
set_option maxRecDepth 100000 in
theorem m_11_kinds {l : Launch} {Z : jE} {n : Nat} {C : jC} {v1 : Int} {v2 : Int} {ex : String → jC → Prop} {post : Int → Prop} (rv1 : jRng v1) (rv2 : jRng v2) (hw0 : jWF n C) (h : wp_11_kinds v1 v2 C ex post) : jXi l y_11_kinds prog_1_method_35_code 4 (.int) q_11_kinds Z n C [jr Z 0, jI v1, jI v2] ex (fun x C9 => C9 = C ∧ post x) := by
  have hn := hw0.2.2.1
  unfold wp_11_kinds at h
  refine jXi_of (lv0 := [(0, jr Z 0), (1, jI v1), (2, jI v2)]) (by decide) (Nat.le_of_ble_eq_true rfl) rfl ?_
  intro p e s m args below meth c A sz X hAe hr hlocks htab
  refine jg_aload_n (pc := 0) X d_11_kinds_0 0 rfl ?_
  refine jg_iload_n (pc := 1) X d_11_kinds_1 1 rfl ?_
  refine jg_pxcallVr (pc := 2) X hAe htab hlocks (m_11_viewNumbered rv1 hw0 h) jM_11_viewNumbered kw_772 (jl_0_11 hn) rfl rfl rfl rfl rfl (Nat.le_of_ble_eq_true rfl) d_11_kinds_2 ⟨(Nat.le_of_ble_eq_true rfl), (Nat.le_of_ble_eq_true rfl)⟩ ⟨(Nat.le_of_ble_eq_true rfl), (Nat.le_of_ble_eq_true rfl)⟩ ⟨(Nat.le_of_ble_eq_true rfl), (Nat.le_of_ble_eq_true rfl)⟩ (fun x1 h => ?_)
  obtain ⟨t5, h⟩ := h
  refine jg_eqst (congrArg (· :: _) (jn_pos t5.1)) ?_
  refine jg_astore_n (pc := 5) X [(3, jr Z x1), (0, jr Z 0), (1, jI v1), (2, jI v2)] d_11_kinds_5 (by decide) rfl ?_
  refine jg_aload_n (pc := 6) X d_11_kinds_6 1 rfl ?_
  refine jg_iload_n (pc := 7) X d_11_kinds_7 3 rfl ?_
  refine jg_pxcallVv (pc := 8) X hAe htab hlocks (m_11_needColumn rv2 hw0 h) jM_11_needColumn kw_904 (jl_0_11 hn) rfl rfl rfl rfl rfl (Nat.le_of_ble_eq_true rfl) d_11_kinds_8 ⟨(Nat.le_of_ble_eq_true rfl), (Nat.le_of_ble_eq_true rfl)⟩ ⟨(Nat.le_of_ble_eq_true rfl), (Nat.le_of_ble_eq_true rfl)⟩ ⟨(Nat.le_of_ble_eq_true rfl), (Nat.le_of_ble_eq_true rfl)⟩ (fun h => ?_)
  refine jg_aload_n (pc := 11) X d_11_kinds_11 1 rfl ?_
  refine jgf_11_3 (pc := 12) X (jl_0_11 hn) kw_339 d_11_kinds_12 ?_
  refine jg_aload_n (pc := 15) X d_11_kinds_15 1 rfl ?_
  refine jgf_11_2 (pc := 16) X (jl_0_11 hn) kw_338 d_11_kinds_16 ?_
  refine jgfN_8_0 (pc := 19) X (jl_35_8 hn) kn_290 d_11_kinds_19 ?_
  refine jg_aload_n (pc := 22) X d_11_kinds_22 0 rfl ?_
  refine jgfN_10_1 (pc := 23) X t5 kn_275 d_11_kinds_23 ?_
  refine jg_iload_n (pc := 26) X d_11_kinds_26 3 rfl ?_
  refine jg_pcallVi (pc := 27) X (m_4_groupsOf (jl_36_7 hn) (jc_vi_1 hn t5) rv2 hw0 h) jM_4_groupsOf kw_1351 (jl_339_4 hn) rfl rfl rfl rfl rfl (Nat.le_of_ble_eq_true rfl) d_11_kinds_27 ⟨(Nat.le_of_ble_eq_true rfl), (Nat.le_of_ble_eq_true rfl)⟩ ⟨(Nat.le_of_ble_eq_true rfl), (Nat.le_of_ble_eq_true rfl)⟩ (fun x10 r12 h => ?_)
  refine jg_ret_x ?_
  exact jg_ireturn (pc := 30) X hAe hlocks hr d_11_kinds_30 ⟨(Nat.le_of_ble_eq_true rfl), (Nat.le_of_ble_eq_true rfl)⟩ rfl r12 hw0 ⟨rfl, h⟩
set_option maxHeartbeats 4000000 in
set_option maxRecDepth 100000 in
theorem m_7_writerAt {l : Launch} {Z : jE} {n : Nat} {C : jC} {v0 : Int} {v1 : Int} {v2 : Int} {post : Int → Prop} (tv0 : jT n v0 7) (rv1 : jRng v1) (rv2 : jRng v2) (hw0 : jWF n C) (h : wp_7_writerAt v0 v1 v2 C post) : jCi l y_7_writerAt prog_9_method_9_code 3 (.int) q_7_writerAt Z n C [jr Z v0, jI v1, jI v2] (fun x C9 => C9 = C ∧ post x) := by
  have hn := hw0.2.2.1
  unfold wp_7_writerAt at h
  refine jCi_of (lv0 := [(0, jr Z v0), (1, jI v1), (2, jI v2)]) (by decide) (Nat.le_of_ble_eq_true rfl) rfl ?_
  intro p e s m args below meth c A sz X hAe hr hlocks
  refine jg_aload_n (pc := 0) X d_7_writerAt_0 0 rfl ?_
  refine jg_iload_n (pc := 1) X d_7_writerAt_1 1 rfl ?_
  refine jg_pcallVi (pc := 2) X (m_7_isSeat tv0 rv1 hw0 h) jM_7_isSeat kw_380 tv0 rfl rfl rfl rfl rfl (Nat.le_of_ble_eq_true rfl) d_7_writerAt_2 ⟨(Nat.le_of_ble_eq_true rfl), (Nat.le_of_ble_eq_true rfl)⟩ ⟨(Nat.le_of_ble_eq_true rfl), (Nat.le_of_ble_eq_true rfl)⟩ (fun x1 r3 h => ?_)
  refine jg_if_eq (tgt := 29) (pc := 5) X d_7_writerAt_5 (by decide) r3 h (fun c5 h => ?_) (fun c5 h => ?_)
  · refine jg_iconst (pc := 29) X d_7_writerAt_29 ?_
    exact jg_ireturn (pc := 30) X hAe hlocks hr d_7_writerAt_30 ⟨(Nat.le_of_ble_eq_true rfl), (Nat.le_of_ble_eq_true rfl)⟩ rfl (⟨by decide, by decide⟩ : jRng (-1)) hw0 ⟨rfl, h⟩
  · refine jg_aload_n (pc := 8) X d_7_writerAt_8 0 rfl ?_
    refine jg_iload_n (pc := 9) X d_7_writerAt_9 2 rfl ?_
    refine jg_pcallVi (pc := 10) X (m_7_isColumn tv0 rv2 hw0 h) jM_7_isColumn kw_716 tv0 rfl rfl rfl rfl rfl (Nat.le_of_ble_eq_true rfl) d_7_writerAt_10 ⟨(Nat.le_of_ble_eq_true rfl), (Nat.le_of_ble_eq_true rfl)⟩ ⟨(Nat.le_of_ble_eq_true rfl), (Nat.le_of_ble_eq_true rfl)⟩ (fun x6 r8 h => ?_)
    refine jg_if_eq (tgt := 29) (pc := 13) X d_7_writerAt_13 (by decide) r8 h (fun c10 h => ?_) (fun c10 h => ?_)
    · refine jg_iconst (pc := 29) X d_7_writerAt_29 ?_
      exact jg_ireturn (pc := 30) X hAe hlocks hr d_7_writerAt_30 ⟨(Nat.le_of_ble_eq_true rfl), (Nat.le_of_ble_eq_true rfl)⟩ rfl (⟨by decide, by decide⟩ : jRng (-1)) hw0 ⟨rfl, h⟩
    · refine jg_aload_n (pc := 16) X d_7_writerAt_16 0 rfl ?_
      refine jgf_7_4 (pc := 17) X tv0 kw_183 d_7_writerAt_17 ?_
      refine jg_iload_n (pc := 20) X d_7_writerAt_20 1 rfl ?_
      refine jg_iconst (pc := 21) X d_7_writerAt_21 ?_
      refine jg_imul (pc := 22) X d_7_writerAt_22 ?_
      refine jg_iload_n (pc := 23) X d_7_writerAt_23 2 rfl ?_
      refine jg_iadd (pc := 24) X d_7_writerAt_24 ?_
      obtain ⟨b11, b12, h⟩ := h
      refine jg_iaload (len := 120) (pc := 25) X d_7_writerAt_25 (jc_sh_4 hn tv0) (fun _ => rfl) (by decide) b11 b12 ?_
      refine jg_goto (tgt := 30) (pc := 26) X d_7_writerAt_26 (by decide) ?_
      exact jg_ireturn (pc := 30) X hAe hlocks hr d_7_writerAt_30 ⟨(Nat.le_of_ble_eq_true rfl), (Nat.le_of_ble_eq_true rfl)⟩ rfl (hw0.1 _ _) hw0 ⟨rfl, h⟩
set_option maxHeartbeats 4000000 in
set_option maxRecDepth 100000 in
theorem m_11_by {l : Launch} {Z : jE} {n : Nat} {C : jC} {v1 : Int} {v2 : Int} {ex : String → jC → Prop} {post : Int → Prop} (rv1 : jRng v1) (rv2 : jRng v2) (hw0 : jWF n C) (h : wp_11_by v1 v2 C ex post) : jXi l y_11_by prog_1_method_36_code 4 (.int) q_11_by Z n C [jr Z 0, jI v1, jI v2] ex (fun x C9 => C9 = C ∧ post x) := by
  have hn := hw0.2.2.1
  unfold wp_11_by at h
  refine jXi_of (lv0 := [(0, jr Z 0), (1, jI v1), (2, jI v2)]) (by decide) (Nat.le_of_ble_eq_true rfl) rfl ?_
  intro p e s m args below meth c A sz X hAe hr hlocks htab
  refine jg_aload_n (pc := 0) X d_11_by_0 0 rfl ?_
  refine jg_iload_n (pc := 1) X d_11_by_1 1 rfl ?_
  refine jg_pxcallVi (pc := 2) X hAe htab hlocks (m_11_seatOfKey rv1 hw0 h) jM_11_seatOfKey kw_920 (jl_0_11 hn) rfl rfl rfl rfl rfl (Nat.le_of_ble_eq_true rfl) d_11_by_2 ⟨(Nat.le_of_ble_eq_true rfl), (Nat.le_of_ble_eq_true rfl)⟩ ⟨(Nat.le_of_ble_eq_true rfl), (Nat.le_of_ble_eq_true rfl)⟩ ⟨(Nat.le_of_ble_eq_true rfl), (Nat.le_of_ble_eq_true rfl)⟩ (fun x1 r3 h => ?_)
  refine jg_istore_n (pc := 5) X [(3, jI x1), (0, jr Z 0), (1, jI v1), (2, jI v2)] d_11_by_5 (by decide) rfl ?_
  refine jg_aload_n (pc := 6) X d_11_by_6 1 rfl ?_
  refine jg_iload_n (pc := 7) X d_11_by_7 3 rfl ?_
  refine jg_pxcallVv (pc := 8) X hAe htab hlocks (m_11_needColumn rv2 hw0 h) jM_11_needColumn kw_904 (jl_0_11 hn) rfl rfl rfl rfl rfl (Nat.le_of_ble_eq_true rfl) d_11_by_8 ⟨(Nat.le_of_ble_eq_true rfl), (Nat.le_of_ble_eq_true rfl)⟩ ⟨(Nat.le_of_ble_eq_true rfl), (Nat.le_of_ble_eq_true rfl)⟩ ⟨(Nat.le_of_ble_eq_true rfl), (Nat.le_of_ble_eq_true rfl)⟩ (fun h => ?_)
  refine jg_aload_n (pc := 11) X d_11_by_11 1 rfl ?_
  refine jgf_11_2 (pc := 12) X (jl_0_11 hn) kw_338 d_11_by_12 ?_
  refine jgfN_8_0 (pc := 15) X (jl_35_8 hn) kn_290 d_11_by_15 ?_
  refine jg_iload_n (pc := 18) X d_11_by_18 0 rfl ?_
  refine jg_iload_n (pc := 19) X d_11_by_19 3 rfl ?_
  refine jg_pcallVi (pc := 20) X (m_7_writerAt (jl_36_7 hn) r3 rv2 hw0 h) jM_7_writerAt kw_1370 (jl_36_7 hn) rfl rfl rfl rfl rfl (Nat.le_of_ble_eq_true rfl) d_11_by_20 ⟨(Nat.le_of_ble_eq_true rfl), (Nat.le_of_ble_eq_true rfl)⟩ ⟨(Nat.le_of_ble_eq_true rfl), (Nat.le_of_ble_eq_true rfl)⟩ (fun x9 r11 h => ?_)
  refine jg_ret_x ?_
  exact jg_ireturn (pc := 23) X hAe hlocks hr d_11_by_23 ⟨(Nat.le_of_ble_eq_true rfl), (Nat.le_of_ble_eq_true rfl)⟩ rfl r11 hw0 ⟨rfl, h⟩
set_option maxHeartbeats 4000000 in
set_option maxRecDepth 100000 in
theorem m_4_groupStart {l : Launch} {Z : jE} {n : Nat} {C : jC} {v1 : Int} {v2 : Int} {v3 : Int} {v4 : Int} {post : Int → Prop} (tv1 : jT n v1 7) (tv2 : jT n v2 6) (rv3 : jRng v3) (rv4 : jRng v4) (hw0 : jWF n C) (h : wp_4_groupStart v1 v2 v3 v4 C post) : jCi l y_4_groupStart prog_6_method_19_code 7 (.int) q_4_groupStart Z n C [jr Z 339, jr Z v1, jr Z v2, jI v3, jI v4] (fun x C9 => C9 = C ∧ post x) := by
  have hn := hw0.2.2.1
  unfold wp_4_groupStart at h
  refine jCi_of (lv0 := [(0, jr Z 339), (1, jr Z v1), (2, jr Z v2), (3, jI v3), (4, jI v4)]) (by decide) (Nat.le_of_ble_eq_true rfl) rfl ?_
  intro p e s m args below meth c A sz X hAe hr hlocks
  refine jg_iconst (pc := 0) X d_4_groupStart_0 ?_
  refine jg_istore (pc := 1) X [(5, jI 0), (0, jr Z 339), (1, jr Z v1), (2, jr Z v2), (3, jI v3), (4, jI v4)] d_4_groupStart_1 (by decide) rfl ?_
  refine jg_iconst (pc := 3) X d_4_groupStart_3 ?_
  refine jg_istore (pc := 4) X [(6, jI 0), (5, jI 0), (0, jr Z 339), (1, jr Z v1), (2, jr Z v2), (3, jI v3), (4, jI v4)] d_4_groupStart_4 (by decide) rfl ?_
  have hw : jWF n C := hw0
  have jl6 : ∀  (N : Nat) (v5 : Int) (v6 : Int) (rv5 : jRng v5) (rv6 : jRng v6), jI2 (wp_4_groupStart_6 v1 v2 v3 v4 C post) N v5 v6 → jG p l e q_4_groupStart s m args below meth c 7 Z A (jws Z n C) 0 0 (MQ below (jQi Z n sz (fun x C9 => C9 = C ∧ post x)) args s q_4_groupStart.cells q_4_groupStart.slots (jA Z n sz)) 6 [(0, jr Z 339), (1, jr Z v1), (2, jr Z v2), (3, jI v3), (4, jI v4), (5, jI v5), (6, jI v6)] [] := by
    intro   N
    have hn := hw0.2.2.1
    induction N with
    | zero => intro v5 v6 rv5 rv6 h; exact h.elim
    | succ N ih6 =>
      intro v5 v6 rv5 rv6 h
      have h : wp_4_groupStart_6 v1 v2 v3 v4 C post (jI2 (wp_4_groupStart_6 v1 v2 v3 v4 C post) N) v5 v6 := h
      generalize jI2 (wp_4_groupStart_6 v1 v2 v3 v4 C post) N = k6 at h ih6
      unfold wp_4_groupStart_6 at h
      refine jg_iload (pc := 6) X d_4_groupStart_6 6 rfl ?_
      refine jg_aload_n (pc := 8) X d_4_groupStart_8 2 rfl ?_
      refine jg_pcallVi (pc := 9) X (m_6_length tv2 hw h) jM_6_length kw_1174 tv2 rfl rfl rfl rfl rfl (Nat.le_of_ble_eq_true rfl) d_4_groupStart_9 ⟨(Nat.le_of_ble_eq_true rfl), (Nat.le_of_ble_eq_true rfl)⟩ ⟨(Nat.le_of_ble_eq_true rfl), (Nat.le_of_ble_eq_true rfl)⟩ (fun x1 r3 h => ?_)
      refine jg_icmp_ge (tgt := 46) (pc := 12) X d_4_groupStart_12 (by decide) rv6 r3 h (fun c5 h => ?_) (fun c5 h => ?_)
      · refine jg_iconst (pc := 46) X d_4_groupStart_46 ?_
        exact jg_ireturn (pc := 47) X hAe hlocks hr d_4_groupStart_47 ⟨(Nat.le_of_ble_eq_true rfl), (Nat.le_of_ble_eq_true rfl)⟩ rfl (⟨by decide, by decide⟩ : jRng (-1)) hw ⟨rfl, h⟩
      · refine jg_aload_n (pc := 15) X d_4_groupStart_15 0 rfl ?_
        refine jg_aload_n (pc := 16) X d_4_groupStart_16 1 rfl ?_
        refine jg_aload_n (pc := 17) X d_4_groupStart_17 2 rfl ?_
        refine jg_iload_n (pc := 18) X d_4_groupStart_18 3 rfl ?_
        refine jg_iload (pc := 19) X d_4_groupStart_19 6 rfl ?_
        refine jg_pcallVi (pc := 21) X (m_4_isFirstLike tv1 tv2 rv3 rv6 hw h) jM_4_isFirstLike kw_1355 (jl_339_4 hn) rfl rfl rfl rfl rfl (Nat.le_of_ble_eq_true rfl) d_4_groupStart_21 ⟨(Nat.le_of_ble_eq_true rfl), (Nat.le_of_ble_eq_true rfl)⟩ ⟨(Nat.le_of_ble_eq_true rfl), (Nat.le_of_ble_eq_true rfl)⟩ (fun x6 r8 h => ?_)
        refine jg_if_eq (tgt := 40) (pc := 24) X d_4_groupStart_24 (by decide) r8 h (fun c10 h => ?_) (fun c10 h => ?_)
        · refine jg_iinc (pc := 40) X [(6, jI (v6 + 1)), (0, jr Z 339), (1, jr Z v1), (2, jr Z v2), (3, jI v3), (4, jI v4), (5, jI v5)] d_4_groupStart_40 6 rfl (by decide) rfl ?_
          refine jg_goto (tgt := 6) (pc := 43) X d_4_groupStart_43 (by decide) ?_
          have r11 : jRng (v6 + 1) := by (unfold jRng; exact ⟨by (have z0 : jRng v6 := rv6; have z1 : jRng x1 := r3; unfold jRng at z0 z1; omega), by (have z0 : jRng v6 := rv6; have z1 : jRng x1 := r3; unfold jRng at z0 z1; omega)⟩)
          refine jg_sub [1, 2, 3, 4, 5, 6, 0] rfl ?_
          exact ih6 _ _ rv5 r11 h
        · refine jg_iload (pc := 27) X d_4_groupStart_27 5 rfl ?_
          refine jg_iload (pc := 29) X d_4_groupStart_29 4 rfl ?_
          refine jg_icmp_ne (tgt := 37) (pc := 31) X d_4_groupStart_31 (by decide) rv5 rv4 h (fun c12 h => ?_) (fun c12 h => ?_)
          · refine jg_iload (pc := 34) X d_4_groupStart_34 6 rfl ?_
            exact jg_ireturn (pc := 36) X hAe hlocks hr d_4_groupStart_36 ⟨(Nat.le_of_ble_eq_true rfl), (Nat.le_of_ble_eq_true rfl)⟩ rfl rv6 hw ⟨rfl, h⟩
          · refine jg_iinc (pc := 37) X [(5, jI (v5 + 1)), (0, jr Z 339), (1, jr Z v1), (2, jr Z v2), (3, jI v3), (4, jI v4), (6, jI v6)] d_4_groupStart_37 5 rfl (by decide) rfl ?_
            refine jg_iinc (pc := 40) X [(6, jI (v6 + 1)), (5, jI (v5 + 1)), (0, jr Z 339), (1, jr Z v1), (2, jr Z v2), (3, jI v3), (4, jI v4)] d_4_groupStart_40 6 rfl (by decide) rfl ?_
            refine jg_goto (tgt := 6) (pc := 43) X d_4_groupStart_43 (by decide) ?_
            obtain ⟨r13, h⟩ := h
            have r14 : jRng (v6 + 1) := by (unfold jRng; exact ⟨by (have z0 : jRng v6 := rv6; have z1 : jRng x1 := r3; unfold jRng at z0 z1; omega), by (have z0 : jRng v6 := rv6; have z1 : jRng x1 := r3; unfold jRng at z0 z1; omega)⟩)
            refine jg_sub [2, 3, 4, 5, 6, 1, 0] rfl ?_
            exact ih6 _ _ r13 r14 h
  obtain ⟨N, h⟩ := h
  refine jg_sub [2, 3, 4, 5, 6, 1, 0] rfl ?_
  exact jl6   N _ _ (⟨by decide, by decide⟩ : jRng 0) (⟨by decide, by decide⟩ : jRng 0) h
set_option maxHeartbeats 4000000 in
set_option maxRecDepth 100000 in
theorem m_11_firstOfGroup {l : Launch} {Z : jE} {n : Nat} {C : jC} {v1 : Int} {v2 : Int} {v3 : Int} {ex : String → jC → Prop} {post : Int → Prop} (tv1 : jT n v1 10) (rv2 : jRng v2) (rv3 : jRng v3) (hw0 : jWF n C) (h : wp_11_firstOfGroup v1 v2 v3 C ex post) : jXi l y_11_firstOfGroup prog_1_method_53_code 5 (.int) q_11_firstOfGroup Z n C [jr Z 0, jr Z v1, jI v2, jI v3] ex (fun x C9 => C9 = C ∧ post x) := by
  have hn := hw0.2.2.1
  unfold wp_11_firstOfGroup at h
  refine jXi_of (lv0 := [(0, jr Z 0), (1, jr Z v1), (2, jI v2), (3, jI v3)]) (by decide) (Nat.le_of_ble_eq_true rfl) rfl ?_
  intro p e s m args below meth c A sz X hAe hr hlocks htab
  refine jg_aload_n (pc := 0) X d_11_firstOfGroup_0 0 rfl ?_
  refine jgf_11_3 (pc := 1) X (jl_0_11 hn) kw_339 d_11_firstOfGroup_1 ?_
  refine jg_aload_n (pc := 4) X d_11_firstOfGroup_4 0 rfl ?_
  refine jgf_11_2 (pc := 5) X (jl_0_11 hn) kw_338 d_11_firstOfGroup_5 ?_
  refine jgfN_8_0 (pc := 8) X (jl_35_8 hn) kn_290 d_11_firstOfGroup_8 ?_
  refine jg_aload_n (pc := 11) X d_11_firstOfGroup_11 1 rfl ?_
  refine jgfN_10_1 (pc := 12) X tv1 kn_275 d_11_firstOfGroup_12 ?_
  refine jg_iload_n (pc := 15) X d_11_firstOfGroup_15 2 rfl ?_
  refine jg_iload_n (pc := 16) X d_11_firstOfGroup_16 3 rfl ?_
  refine jg_pcallVi (pc := 17) X (m_4_groupStart (jl_36_7 hn) (jc_vi_1 hn tv1) rv2 rv3 hw0 h) jM_4_groupStart kw_1385 (jl_339_4 hn) rfl rfl rfl rfl rfl (Nat.le_of_ble_eq_true rfl) d_11_firstOfGroup_17 ⟨(Nat.le_of_ble_eq_true rfl), (Nat.le_of_ble_eq_true rfl)⟩ ⟨(Nat.le_of_ble_eq_true rfl), (Nat.le_of_ble_eq_true rfl)⟩ (fun x1 r3 h => ?_)
  refine jg_istore (pc := 20) X [(4, jI x1), (0, jr Z 0), (1, jr Z v1), (2, jI v2), (3, jI v3)] d_11_firstOfGroup_20 (by decide) rfl ?_
  refine jg_iload (pc := 22) X d_11_firstOfGroup_22 0 rfl ?_
  refine jg_iconst (pc := 24) X d_11_firstOfGroup_24 ?_
  refine jg_icmp_ne (tgt := 36) (pc := 25) X d_11_firstOfGroup_25 (by decide) r3 (⟨by decide, by decide⟩ : jRng (-1)) h (fun c5 h => ?_) (fun c5 h => ?_)
  · exact jg_throw (pc := 28) X hAe htab hlocks (by decide) kw_612 kw_22 th_58 tg_58 d_11_firstOfGroup_28 d_11_firstOfGroup_31 d_11_firstOfGroup_32 d_11_firstOfGroup_35 ⟨(Nat.le_of_ble_eq_true rfl), (Nat.le_of_ble_eq_true rfl), (Nat.le_of_ble_eq_true rfl), (Nat.le_of_ble_eq_true rfl)⟩ ⟨(Nat.le_of_ble_eq_true rfl), (Nat.le_of_ble_eq_true rfl)⟩ hw0 h
  · refine jg_iload (pc := 36) X d_11_firstOfGroup_36 0 rfl ?_
    refine jg_ret_x ?_
    exact jg_ireturn (pc := 38) X hAe hlocks hr d_11_firstOfGroup_38 ⟨(Nat.le_of_ble_eq_true rfl), (Nat.le_of_ble_eq_true rfl)⟩ rfl r3 hw0 ⟨rfl, h⟩
set_option maxHeartbeats 4000000 in
set_option maxRecDepth 100000 in
theorem m_4_rowsLike {l : Launch} {Z : jE} {n : Nat} {C : jC} {v1 : Int} {v2 : Int} {v3 : Int} {v4 : Int} {post : Int → Prop} (tv1 : jT n v1 7) (tv2 : jT n v2 6) (rv3 : jRng v3) (rv4 : jRng v4) (hw0 : jWF n C) (h : wp_4_rowsLike v1 v2 v3 v4 C post) : jCi l y_4_rowsLike prog_6_method_20_code 7 (.int) q_4_rowsLike Z n C [jr Z 339, jr Z v1, jr Z v2, jI v3, jI v4] (fun x C9 => C9 = C ∧ post x) := by
  have hn := hw0.2.2.1
  unfold wp_4_rowsLike at h
  refine jCi_of (lv0 := [(0, jr Z 339), (1, jr Z v1), (2, jr Z v2), (3, jI v3), (4, jI v4)]) (by decide) (Nat.le_of_ble_eq_true rfl) rfl ?_
  intro p e s m args below meth c A sz X hAe hr hlocks
  refine jg_iconst (pc := 0) X d_4_rowsLike_0 ?_
  refine jg_istore (pc := 1) X [(5, jI 0), (0, jr Z 339), (1, jr Z v1), (2, jr Z v2), (3, jI v3), (4, jI v4)] d_4_rowsLike_1 (by decide) rfl ?_
  refine jg_iload (pc := 3) X d_4_rowsLike_3 5 rfl ?_
  refine jg_istore (pc := 5) X [(6, jI v4), (5, jI 0), (0, jr Z 339), (1, jr Z v1), (2, jr Z v2), (3, jI v3), (4, jI v4)] d_4_rowsLike_5 (by decide) rfl ?_
  have hw : jWF n C := hw0
  have jl7 : ∀  (N : Nat) (v5 : Int) (v6 : Int) (rv5 : jRng v5) (rv6 : jRng v6), jI2 (wp_4_rowsLike_7 v1 v2 v3 v4 C post) N v5 v6 → jG p l e q_4_rowsLike s m args below meth c 7 Z A (jws Z n C) 0 0 (MQ below (jQi Z n sz (fun x C9 => C9 = C ∧ post x)) args s q_4_rowsLike.cells q_4_rowsLike.slots (jA Z n sz)) 7 [(0, jr Z 339), (1, jr Z v1), (2, jr Z v2), (3, jI v3), (4, jI v4), (5, jI v5), (6, jI v6)] [] := by
    intro   N
    have hn := hw0.2.2.1
    induction N with
    | zero => intro v5 v6 rv5 rv6 h; exact h.elim
    | succ N ih7 =>
      intro v5 v6 rv5 rv6 h
      have h : wp_4_rowsLike_7 v1 v2 v3 v4 C post (jI2 (wp_4_rowsLike_7 v1 v2 v3 v4 C post) N) v5 v6 := h
      generalize jI2 (wp_4_rowsLike_7 v1 v2 v3 v4 C post) N = k7 at h ih7
      unfold wp_4_rowsLike_7 at h
      refine jg_iload (pc := 7) X d_4_rowsLike_7 6 rfl ?_
      refine jg_aload_n (pc := 9) X d_4_rowsLike_9 2 rfl ?_
      refine jg_pcallVi (pc := 10) X (m_6_length tv2 hw h) jM_6_length kw_1174 tv2 rfl rfl rfl rfl rfl (Nat.le_of_ble_eq_true rfl) d_4_rowsLike_10 ⟨(Nat.le_of_ble_eq_true rfl), (Nat.le_of_ble_eq_true rfl)⟩ ⟨(Nat.le_of_ble_eq_true rfl), (Nat.le_of_ble_eq_true rfl)⟩ (fun x1 r3 h => ?_)
      refine jg_icmp_ge (tgt := 39) (pc := 13) X d_4_rowsLike_13 (by decide) rv6 r3 h (fun c5 h => ?_) (fun c5 h => ?_)
      · refine jg_iload (pc := 39) X d_4_rowsLike_39 5 rfl ?_
        exact jg_ireturn (pc := 41) X hAe hlocks hr d_4_rowsLike_41 ⟨(Nat.le_of_ble_eq_true rfl), (Nat.le_of_ble_eq_true rfl)⟩ rfl rv5 hw ⟨rfl, h⟩
      · refine jg_aload_n (pc := 16) X d_4_rowsLike_16 0 rfl ?_
        refine jg_aload_n (pc := 17) X d_4_rowsLike_17 1 rfl ?_
        refine jg_aload_n (pc := 18) X d_4_rowsLike_18 2 rfl ?_
        refine jg_iload_n (pc := 19) X d_4_rowsLike_19 3 rfl ?_
        refine jg_iload (pc := 20) X d_4_rowsLike_20 6 rfl ?_
        refine jg_iload (pc := 22) X d_4_rowsLike_22 4 rfl ?_
        refine jg_pcallVi (pc := 24) X (m_4_isAlike tv1 tv2 rv3 rv6 rv4 hw h) jM_4_isAlike kw_1359 (jl_339_4 hn) rfl rfl rfl rfl rfl (Nat.le_of_ble_eq_true rfl) d_4_rowsLike_24 ⟨(Nat.le_of_ble_eq_true rfl), (Nat.le_of_ble_eq_true rfl)⟩ ⟨(Nat.le_of_ble_eq_true rfl), (Nat.le_of_ble_eq_true rfl)⟩ (fun x6 r8 h => ?_)
        refine jg_if_eq (tgt := 33) (pc := 27) X d_4_rowsLike_27 (by decide) r8 h (fun c10 h => ?_) (fun c10 h => ?_)
        · refine jg_iinc (pc := 33) X [(6, jI (v6 + 1)), (0, jr Z 339), (1, jr Z v1), (2, jr Z v2), (3, jI v3), (4, jI v4), (5, jI v5)] d_4_rowsLike_33 6 rfl (by decide) rfl ?_
          refine jg_goto (tgt := 7) (pc := 36) X d_4_rowsLike_36 (by decide) ?_
          have r11 : jRng (v6 + 1) := by (unfold jRng; exact ⟨by (have z0 : jRng v6 := rv6; have z1 : jRng x1 := r3; unfold jRng at z0 z1; omega), by (have z0 : jRng v6 := rv6; have z1 : jRng x1 := r3; unfold jRng at z0 z1; omega)⟩)
          refine jg_sub [1, 2, 3, 4, 5, 6, 0] rfl ?_
          exact ih7 _ _ rv5 r11 h
        · refine jg_iinc (pc := 30) X [(5, jI (v5 + 1)), (0, jr Z 339), (1, jr Z v1), (2, jr Z v2), (3, jI v3), (4, jI v4), (6, jI v6)] d_4_rowsLike_30 5 rfl (by decide) rfl ?_
          refine jg_iinc (pc := 33) X [(6, jI (v6 + 1)), (5, jI (v5 + 1)), (0, jr Z 339), (1, jr Z v1), (2, jr Z v2), (3, jI v3), (4, jI v4)] d_4_rowsLike_33 6 rfl (by decide) rfl ?_
          refine jg_goto (tgt := 7) (pc := 36) X d_4_rowsLike_36 (by decide) ?_
          obtain ⟨r12, h⟩ := h
          have r13 : jRng (v6 + 1) := by (unfold jRng; exact ⟨by (have z0 : jRng v6 := rv6; have z1 : jRng x1 := r3; unfold jRng at z0 z1; omega), by (have z0 : jRng v6 := rv6; have z1 : jRng x1 := r3; unfold jRng at z0 z1; omega)⟩)
          refine jg_sub [2, 3, 4, 5, 6, 1, 0] rfl ?_
          exact ih7 _ _ r12 r13 h
  obtain ⟨N, h⟩ := h
  refine jg_sub [2, 3, 4, 5, 6, 1, 0] rfl ?_
  exact jl7   N _ _ (⟨by decide, by decide⟩ : jRng 0) rv4 h
set_option maxHeartbeats 4000000 in
set_option maxRecDepth 100000 in
theorem m_4_lastLike {l : Launch} {Z : jE} {n : Nat} {C : jC} {v1 : Int} {v2 : Int} {v3 : Int} {v4 : Int} {post : Int → Prop} (tv1 : jT n v1 7) (tv2 : jT n v2 6) (rv3 : jRng v3) (rv4 : jRng v4) (hw0 : jWF n C) (h : wp_4_lastLike v1 v2 v3 v4 C post) : jCi l y_4_lastLike prog_6_method_21_code 7 (.int) q_4_lastLike Z n C [jr Z 339, jr Z v1, jr Z v2, jI v3, jI v4] (fun x C9 => C9 = C ∧ post x) := by
  have hn := hw0.2.2.1
  unfold wp_4_lastLike at h
  refine jCi_of (lv0 := [(0, jr Z 339), (1, jr Z v1), (2, jr Z v2), (3, jI v3), (4, jI v4)]) (by decide) (Nat.le_of_ble_eq_true rfl) rfl ?_
  intro p e s m args below meth c A sz X hAe hr hlocks
  refine jg_iload (pc := 0) X d_4_lastLike_0 4 rfl ?_
  refine jg_istore (pc := 2) X [(5, jI v4), (0, jr Z 339), (1, jr Z v1), (2, jr Z v2), (3, jI v3), (4, jI v4)] d_4_lastLike_2 (by decide) rfl ?_
  refine jg_iload (pc := 4) X d_4_lastLike_4 5 rfl ?_
  refine jg_istore (pc := 6) X [(6, jI v4), (5, jI v4), (0, jr Z 339), (1, jr Z v1), (2, jr Z v2), (3, jI v3), (4, jI v4)] d_4_lastLike_6 (by decide) rfl ?_
  have hw : jWF n C := hw0
  have jl8 : ∀  (N : Nat) (v5 : Int) (v6 : Int) (rv5 : jRng v5) (rv6 : jRng v6), jI2 (wp_4_lastLike_8 v1 v2 v3 v4 C post) N v5 v6 → jG p l e q_4_lastLike s m args below meth c 7 Z A (jws Z n C) 0 0 (MQ below (jQi Z n sz (fun x C9 => C9 = C ∧ post x)) args s q_4_lastLike.cells q_4_lastLike.slots (jA Z n sz)) 8 [(0, jr Z 339), (1, jr Z v1), (2, jr Z v2), (3, jI v3), (4, jI v4), (5, jI v5), (6, jI v6)] [] := by
    intro   N
    have hn := hw0.2.2.1
    induction N with
    | zero => intro v5 v6 rv5 rv6 h; exact h.elim
    | succ N ih8 =>
      intro v5 v6 rv5 rv6 h
      have h : wp_4_lastLike_8 v1 v2 v3 v4 C post (jI2 (wp_4_lastLike_8 v1 v2 v3 v4 C post) N) v5 v6 := h
      generalize jI2 (wp_4_lastLike_8 v1 v2 v3 v4 C post) N = k8 at h ih8
      unfold wp_4_lastLike_8 at h
      refine jg_iload (pc := 8) X d_4_lastLike_8 6 rfl ?_
      refine jg_aload_n (pc := 10) X d_4_lastLike_10 2 rfl ?_
      refine jg_pcallVi (pc := 11) X (m_6_length tv2 hw h) jM_6_length kw_1174 tv2 rfl rfl rfl rfl rfl (Nat.le_of_ble_eq_true rfl) d_4_lastLike_11 ⟨(Nat.le_of_ble_eq_true rfl), (Nat.le_of_ble_eq_true rfl)⟩ ⟨(Nat.le_of_ble_eq_true rfl), (Nat.le_of_ble_eq_true rfl)⟩ (fun x1 r3 h => ?_)
      refine jg_icmp_ge (tgt := 41) (pc := 14) X d_4_lastLike_14 (by decide) rv6 r3 h (fun c5 h => ?_) (fun c5 h => ?_)
      · refine jg_iload (pc := 41) X d_4_lastLike_41 5 rfl ?_
        exact jg_ireturn (pc := 43) X hAe hlocks hr d_4_lastLike_43 ⟨(Nat.le_of_ble_eq_true rfl), (Nat.le_of_ble_eq_true rfl)⟩ rfl rv5 hw ⟨rfl, h⟩
      · refine jg_aload_n (pc := 17) X d_4_lastLike_17 0 rfl ?_
        refine jg_aload_n (pc := 18) X d_4_lastLike_18 1 rfl ?_
        refine jg_aload_n (pc := 19) X d_4_lastLike_19 2 rfl ?_
        refine jg_iload_n (pc := 20) X d_4_lastLike_20 3 rfl ?_
        refine jg_iload (pc := 21) X d_4_lastLike_21 6 rfl ?_
        refine jg_iload (pc := 23) X d_4_lastLike_23 4 rfl ?_
        refine jg_pcallVi (pc := 25) X (m_4_isAlike tv1 tv2 rv3 rv6 rv4 hw h) jM_4_isAlike kw_1359 (jl_339_4 hn) rfl rfl rfl rfl rfl (Nat.le_of_ble_eq_true rfl) d_4_lastLike_25 ⟨(Nat.le_of_ble_eq_true rfl), (Nat.le_of_ble_eq_true rfl)⟩ ⟨(Nat.le_of_ble_eq_true rfl), (Nat.le_of_ble_eq_true rfl)⟩ (fun x6 r8 h => ?_)
        refine jg_if_eq (tgt := 35) (pc := 28) X d_4_lastLike_28 (by decide) r8 h (fun c10 h => ?_) (fun c10 h => ?_)
        · refine jg_iinc (pc := 35) X [(6, jI (v6 + 1)), (0, jr Z 339), (1, jr Z v1), (2, jr Z v2), (3, jI v3), (4, jI v4), (5, jI v5)] d_4_lastLike_35 6 rfl (by decide) rfl ?_
          refine jg_goto (tgt := 8) (pc := 38) X d_4_lastLike_38 (by decide) ?_
          have r11 : jRng (v6 + 1) := by (unfold jRng; exact ⟨by (have z0 : jRng v6 := rv6; have z1 : jRng x1 := r3; unfold jRng at z0 z1; omega), by (have z0 : jRng v6 := rv6; have z1 : jRng x1 := r3; unfold jRng at z0 z1; omega)⟩)
          refine jg_sub [1, 2, 3, 4, 5, 6, 0] rfl ?_
          exact ih8 _ _ rv5 r11 h
        · refine jg_iload (pc := 31) X d_4_lastLike_31 6 rfl ?_
          refine jg_istore (pc := 33) X [(5, jI v6), (0, jr Z 339), (1, jr Z v1), (2, jr Z v2), (3, jI v3), (4, jI v4), (6, jI v6)] d_4_lastLike_33 (by decide) rfl ?_
          refine jg_iinc (pc := 35) X [(6, jI (v6 + 1)), (5, jI v6), (0, jr Z 339), (1, jr Z v1), (2, jr Z v2), (3, jI v3), (4, jI v4)] d_4_lastLike_35 6 rfl (by decide) rfl ?_
          refine jg_goto (tgt := 8) (pc := 38) X d_4_lastLike_38 (by decide) ?_
          have r12 : jRng (v6 + 1) := by (unfold jRng; exact ⟨by (have z0 : jRng v6 := rv6; have z1 : jRng x1 := r3; unfold jRng at z0 z1; omega), by (have z0 : jRng v6 := rv6; have z1 : jRng x1 := r3; unfold jRng at z0 z1; omega)⟩)
          refine jg_sub [2, 3, 4, 5, 6, 1, 0] rfl ?_
          exact ih8 _ _ rv6 r12 h
  obtain ⟨N, h⟩ := h
  refine jg_sub [2, 3, 4, 5, 6, 1, 0] rfl ?_
  exact jl8   N _ _ rv4 rv4 h
set_option maxHeartbeats 4000000 in
set_option maxRecDepth 100000 in
theorem m_11_group {l : Launch} {Z : jE} {n : Nat} {C : jC} {v1 : Int} {v2 : Int} {v3 : Int} {v4 : Int} {ex : String → jC → Prop} {post : Int → Prop} (rv1 : jRng v1) (rv2 : jRng v2) (rv3 : jRng v3) (rv4 : jRng v4) (hw0 : jWF n C) (h : wp_11_group v1 v2 v3 v4 C ex post) : jXi l y_11_group prog_1_method_37_code 7 (.int) q_11_group Z n C [jr Z 0, jI v1, jI v2, jI v3, jI v4] ex (fun x C9 => C9 = C ∧ post x) := by
  have hn := hw0.2.2.1
  unfold wp_11_group at h
  refine jXi_of (lv0 := [(0, jr Z 0), (1, jI v1), (2, jI v2), (3, jI v3), (4, jI v4)]) (by decide) (Nat.le_of_ble_eq_true rfl) rfl ?_
  intro p e s m args below meth c A sz X hAe hr hlocks htab
  refine jg_aload_n (pc := 0) X d_11_group_0 0 rfl ?_
  refine jg_iload_n (pc := 1) X d_11_group_1 1 rfl ?_
  refine jg_pxcallVr (pc := 2) X hAe htab hlocks (m_11_viewNumbered rv1 hw0 h) jM_11_viewNumbered kw_772 (jl_0_11 hn) rfl rfl rfl rfl rfl (Nat.le_of_ble_eq_true rfl) d_11_group_2 ⟨(Nat.le_of_ble_eq_true rfl), (Nat.le_of_ble_eq_true rfl)⟩ ⟨(Nat.le_of_ble_eq_true rfl), (Nat.le_of_ble_eq_true rfl)⟩ ⟨(Nat.le_of_ble_eq_true rfl), (Nat.le_of_ble_eq_true rfl)⟩ (fun x1 h => ?_)
  obtain ⟨t5, h⟩ := h
  refine jg_eqst (congrArg (· :: _) (jn_pos t5.1)) ?_
  refine jg_astore (pc := 5) X [(5, jr Z x1), (0, jr Z 0), (1, jI v1), (2, jI v2), (3, jI v3), (4, jI v4)] d_11_group_5 (by decide) rfl ?_
  refine jg_aload_n (pc := 7) X d_11_group_7 1 rfl ?_
  refine jg_iload_n (pc := 8) X d_11_group_8 3 rfl ?_
  refine jg_pxcallVv (pc := 9) X hAe htab hlocks (m_11_needColumn rv2 hw0 h) jM_11_needColumn kw_904 (jl_0_11 hn) rfl rfl rfl rfl rfl (Nat.le_of_ble_eq_true rfl) d_11_group_9 ⟨(Nat.le_of_ble_eq_true rfl), (Nat.le_of_ble_eq_true rfl)⟩ ⟨(Nat.le_of_ble_eq_true rfl), (Nat.le_of_ble_eq_true rfl)⟩ ⟨(Nat.le_of_ble_eq_true rfl), (Nat.le_of_ble_eq_true rfl)⟩ (fun h => ?_)
  refine jg_iload (pc := 12) X d_11_group_12 5 rfl ?_
  refine jg_if_lt (tgt := 23) (pc := 14) X d_11_group_14 (by decide) rv4 h (fun c10 h => ?_) (fun c10 h => ?_)
  · exact jg_throw (pc := 23) X hAe htab hlocks (by decide) kw_958 kw_25 th_153 tg_153 d_11_group_23 d_11_group_26 d_11_group_27 d_11_group_30 ⟨(Nat.le_of_ble_eq_true rfl), (Nat.le_of_ble_eq_true rfl), (Nat.le_of_ble_eq_true rfl), (Nat.le_of_ble_eq_true rfl)⟩ ⟨(Nat.le_of_ble_eq_true rfl), (Nat.le_of_ble_eq_true rfl)⟩ hw0 h
  · refine jg_iload (pc := 17) X d_11_group_17 5 rfl ?_
    refine jg_iconst (pc := 19) X d_11_group_19 ?_
    refine jg_icmp_le (tgt := 31) (pc := 20) X d_11_group_20 (by decide) rv4 (⟨by decide, by decide⟩ : jRng 3) h (fun c11 h => ?_) (fun c11 h => ?_)
    · refine jg_aload_n (pc := 31) X d_11_group_31 1 rfl ?_
      refine jg_aload (pc := 32) X d_11_group_32 0 rfl ?_
      refine jg_iload_n (pc := 34) X d_11_group_34 3 rfl ?_
      refine jg_iload_n (pc := 35) X d_11_group_35 4 rfl ?_
      refine jg_pxcallVi (pc := 36) X hAe htab hlocks (m_11_firstOfGroup t5 rv2 rv3 hw0 h) jM_11_firstOfGroup kw_1381 (jl_0_11 hn) rfl rfl rfl rfl rfl (Nat.le_of_ble_eq_true rfl) d_11_group_36 ⟨(Nat.le_of_ble_eq_true rfl), (Nat.le_of_ble_eq_true rfl)⟩ ⟨(Nat.le_of_ble_eq_true rfl), (Nat.le_of_ble_eq_true rfl)⟩ ⟨(Nat.le_of_ble_eq_true rfl), (Nat.le_of_ble_eq_true rfl)⟩ (fun x12 r14 h => ?_)
      refine jg_istore (pc := 39) X [(6, jI x12), (5, jr Z x1), (0, jr Z 0), (1, jI v1), (2, jI v2), (3, jI v3), (4, jI v4)] d_11_group_39 (by decide) rfl ?_
      refine jg_iload (pc := 41) X d_11_group_41 6 rfl ?_
      by_cases c20 : v4 = 0
      · rw [if_pos c20] at h
        refine jg_tswIn (tgt := 68) (pc := 43) X d_11_group_43 rv4 (by omega) (by omega) (by rw [c20]; rfl) (by decide) ?_
        refine jg_aload_n (pc := 68) X d_11_group_68 2 rfl ?_
        refine jgf_11_2 (pc := 69) X (jl_0_11 hn) kw_338 d_11_group_69 ?_
        refine jgfN_8_0 (pc := 72) X (jl_35_8 hn) kn_290 d_11_group_72 ?_
        refine jg_aload (pc := 75) X d_11_group_75 1 rfl ?_
        refine jgfN_10_1 (pc := 77) X t5 kn_275 d_11_group_77 ?_
        refine jg_iload (pc := 80) X d_11_group_80 0 rfl ?_
        refine jg_pcallVi (pc := 82) X (m_6_at (jc_vi_1 hn t5) r14 hw0 h) jM_6_at kw_372 (jc_vi_1 hn t5) rfl rfl rfl rfl rfl (Nat.le_of_ble_eq_true rfl) d_11_group_82 ⟨(Nat.le_of_ble_eq_true rfl), (Nat.le_of_ble_eq_true rfl)⟩ ⟨(Nat.le_of_ble_eq_true rfl), (Nat.le_of_ble_eq_true rfl)⟩ (fun x27 r29 h => ?_)
        refine jg_iload_n (pc := 85) X d_11_group_85 4 rfl ?_
        refine jg_pcallVi (pc := 86) X (m_7_valueAt (jl_36_7 hn) r29 rv2 hw0 h) jM_7_valueAt kw_930 (jl_36_7 hn) rfl rfl rfl rfl rfl (Nat.le_of_ble_eq_true rfl) d_11_group_86 ⟨(Nat.le_of_ble_eq_true rfl), (Nat.le_of_ble_eq_true rfl)⟩ ⟨(Nat.le_of_ble_eq_true rfl), (Nat.le_of_ble_eq_true rfl)⟩ (fun x31 r33 h => ?_)
        refine jg_ret_x ?_
        exact jg_ireturn (pc := 89) X hAe hlocks hr d_11_group_89 ⟨(Nat.le_of_ble_eq_true rfl), (Nat.le_of_ble_eq_true rfl)⟩ rfl r33 hw0 ⟨rfl, h⟩
      · rw [if_neg c20] at h
        by_cases c21 : v4 = 1
        · rw [if_pos c21] at h
          refine jg_tswIn (tgt := 90) (pc := 43) X d_11_group_43 rv4 (by omega) (by omega) (by rw [c21]; rfl) (by decide) ?_
          refine jg_aload_n (pc := 90) X d_11_group_90 2 rfl ?_
          refine jgf_11_3 (pc := 91) X (jl_0_11 hn) kw_339 d_11_group_91 ?_
          refine jg_aload_n (pc := 94) X d_11_group_94 2 rfl ?_
          refine jgf_11_2 (pc := 95) X (jl_0_11 hn) kw_338 d_11_group_95 ?_
          refine jgfN_8_0 (pc := 98) X (jl_35_8 hn) kn_290 d_11_group_98 ?_
          refine jg_aload (pc := 101) X d_11_group_101 1 rfl ?_
          refine jgfN_10_1 (pc := 103) X t5 kn_275 d_11_group_103 ?_
          refine jg_iload_n (pc := 106) X d_11_group_106 4 rfl ?_
          refine jg_iload (pc := 107) X d_11_group_107 0 rfl ?_
          refine jg_pcallVi (pc := 109) X (m_4_rowsLike (jl_36_7 hn) (jc_vi_1 hn t5) rv2 r14 hw0 h) jM_4_rowsLike kw_1389 (jl_339_4 hn) rfl rfl rfl rfl rfl (Nat.le_of_ble_eq_true rfl) d_11_group_109 ⟨(Nat.le_of_ble_eq_true rfl), (Nat.le_of_ble_eq_true rfl)⟩ ⟨(Nat.le_of_ble_eq_true rfl), (Nat.le_of_ble_eq_true rfl)⟩ (fun x23 r25 h => ?_)
          refine jg_ret_x ?_
          exact jg_ireturn (pc := 112) X hAe hlocks hr d_11_group_112 ⟨(Nat.le_of_ble_eq_true rfl), (Nat.le_of_ble_eq_true rfl)⟩ rfl r25 hw0 ⟨rfl, h⟩
        · rw [if_neg c21] at h
          by_cases c22 : v4 = 2
          · rw [if_pos c22] at h
            refine jg_tswIn (tgt := 113) (pc := 43) X d_11_group_43 rv4 (by omega) (by omega) (by rw [c22]; rfl) (by decide) ?_
            refine jg_iload (pc := 113) X d_11_group_113 0 rfl ?_
            refine jg_ret_x ?_
            exact jg_ireturn (pc := 115) X hAe hlocks hr d_11_group_115 ⟨(Nat.le_of_ble_eq_true rfl), (Nat.le_of_ble_eq_true rfl)⟩ rfl r14 hw0 ⟨rfl, h⟩
          · rw [if_neg c22] at h
            refine jg_tswOut (tgt := 116) (pc := 43) X d_11_group_43 rv4 (by omega) (by decide) ?_
            refine jg_aload_n (pc := 116) X d_11_group_116 2 rfl ?_
            refine jgf_11_3 (pc := 117) X (jl_0_11 hn) kw_339 d_11_group_117 ?_
            refine jg_aload_n (pc := 120) X d_11_group_120 2 rfl ?_
            refine jgf_11_2 (pc := 121) X (jl_0_11 hn) kw_338 d_11_group_121 ?_
            refine jgfN_8_0 (pc := 124) X (jl_35_8 hn) kn_290 d_11_group_124 ?_
            refine jg_aload (pc := 127) X d_11_group_127 1 rfl ?_
            refine jgfN_10_1 (pc := 129) X t5 kn_275 d_11_group_129 ?_
            refine jg_iload_n (pc := 132) X d_11_group_132 4 rfl ?_
            refine jg_iload (pc := 133) X d_11_group_133 0 rfl ?_
            refine jg_pcallVi (pc := 135) X (m_4_lastLike (jl_36_7 hn) (jc_vi_1 hn t5) rv2 r14 hw0 h) jM_4_lastLike kw_1393 (jl_339_4 hn) rfl rfl rfl rfl rfl (Nat.le_of_ble_eq_true rfl) d_11_group_135 ⟨(Nat.le_of_ble_eq_true rfl), (Nat.le_of_ble_eq_true rfl)⟩ ⟨(Nat.le_of_ble_eq_true rfl), (Nat.le_of_ble_eq_true rfl)⟩ (fun x16 r18 h => ?_)
            refine jg_ret_x ?_
            exact jg_ireturn (pc := 138) X hAe hlocks hr d_11_group_138 ⟨(Nat.le_of_ble_eq_true rfl), (Nat.le_of_ble_eq_true rfl)⟩ rfl r18 hw0 ⟨rfl, h⟩
    · exact jg_throw (pc := 23) X hAe htab hlocks (by decide) kw_958 kw_25 th_153 tg_153 d_11_group_23 d_11_group_26 d_11_group_27 d_11_group_30 ⟨(Nat.le_of_ble_eq_true rfl), (Nat.le_of_ble_eq_true rfl), (Nat.le_of_ble_eq_true rfl), (Nat.le_of_ble_eq_true rfl)⟩ ⟨(Nat.le_of_ble_eq_true rfl), (Nat.le_of_ble_eq_true rfl)⟩ hw0 h
set_option maxHeartbeats 4000000 in
set_option maxRecDepth 100000 in
theorem m_4_sumLike {l : Launch} {Z : jE} {n : Nat} {C : jC} {v1 : Int} {v2 : Int} {v3 : Int} {v4 : Int} {v5 : Int} {post : Int → Prop} (tv1 : jT n v1 7) (tv2 : jT n v2 6) (rv3 : jRng v3) (rv4 : jRng v4) (rv5 : jRng v5) (hw0 : jWF n C) (h : wp_4_sumLike v1 v2 v3 v4 v5 C post) : jCi l y_4_sumLike prog_6_method_22_code 9 (.int) q_4_sumLike Z n C [jr Z 339, jr Z v1, jr Z v2, jI v3, jI v4, jI v5] (fun x C9 => C9 = C ∧ post x) := by
  have hn := hw0.2.2.1
  unfold wp_4_sumLike at h
  refine jCi_of (lv0 := [(0, jr Z 339), (1, jr Z v1), (2, jr Z v2), (3, jI v3), (4, jI v4), (5, jI v5)]) (by decide) (Nat.le_of_ble_eq_true rfl) rfl ?_
  intro p e s m args below meth c A sz X hAe hr hlocks
  refine jg_iconst (pc := 0) X d_4_sumLike_0 ?_
  refine jg_istore (pc := 1) X [(6, jI 0), (0, jr Z 339), (1, jr Z v1), (2, jr Z v2), (3, jI v3), (4, jI v4), (5, jI v5)] d_4_sumLike_1 (by decide) rfl ?_
  refine jg_iload (pc := 3) X d_4_sumLike_3 5 rfl ?_
  refine jg_istore (pc := 5) X [(7, jI v4), (6, jI 0), (0, jr Z 339), (1, jr Z v1), (2, jr Z v2), (3, jI v3), (4, jI v4), (5, jI v5)] d_4_sumLike_5 (by decide) rfl ?_
  have hw : jWF n C := hw0
  have jl7 : ∀  (N : Nat) (v6 : Int) (v7 : Int) (rv6 : jRng v6) (rv7 : jRng v7), jI2 (wp_4_sumLike_7 v1 v2 v3 v4 v5 C post) N v6 v7 → jG p l e q_4_sumLike s m args below meth c 9 Z A (jws Z n C) 0 0 (MQ below (jQi Z n sz (fun x C9 => C9 = C ∧ post x)) args s q_4_sumLike.cells q_4_sumLike.slots (jA Z n sz)) 7 [(0, jr Z 339), (1, jr Z v1), (2, jr Z v2), (3, jI v3), (4, jI v4), (5, jI v5), (6, jI v6), (7, jI v7)] [] := by
    intro   N
    have hn := hw0.2.2.1
    induction N with
    | zero => intro v6 v7 rv6 rv7 h; exact h.elim
    | succ N ih7 =>
      intro v6 v7 rv6 rv7 h
      have h : wp_4_sumLike_7 v1 v2 v3 v4 v5 C post (jI2 (wp_4_sumLike_7 v1 v2 v3 v4 v5 C post) N) v6 v7 := h
      generalize jI2 (wp_4_sumLike_7 v1 v2 v3 v4 v5 C post) N = k7 at h ih7
      unfold wp_4_sumLike_7 at h
      refine jg_iload (pc := 7) X d_4_sumLike_7 7 rfl ?_
      refine jg_aload_n (pc := 9) X d_4_sumLike_9 2 rfl ?_
      refine jg_pcallVi (pc := 10) X (m_6_length tv2 hw h) jM_6_length kw_1174 tv2 rfl rfl rfl rfl rfl (Nat.le_of_ble_eq_true rfl) d_4_sumLike_10 ⟨(Nat.le_of_ble_eq_true rfl), (Nat.le_of_ble_eq_true rfl)⟩ ⟨(Nat.le_of_ble_eq_true rfl), (Nat.le_of_ble_eq_true rfl)⟩ (fun x1 r3 h => ?_)
      refine jg_icmp_ge (tgt := 64) (pc := 13) X d_4_sumLike_13 (by decide) rv7 r3 h (fun c5 h => ?_) (fun c5 h => ?_)
      · refine jg_iload (pc := 64) X d_4_sumLike_64 6 rfl ?_
        exact jg_ireturn (pc := 66) X hAe hlocks hr d_4_sumLike_66 ⟨(Nat.le_of_ble_eq_true rfl), (Nat.le_of_ble_eq_true rfl)⟩ rfl rv6 hw ⟨rfl, h⟩
      · refine jg_aload_n (pc := 16) X d_4_sumLike_16 1 rfl ?_
        refine jg_aload_n (pc := 17) X d_4_sumLike_17 2 rfl ?_
        refine jg_iload (pc := 18) X d_4_sumLike_18 7 rfl ?_
        refine jg_pcallVi (pc := 20) X (m_6_at tv2 rv7 hw h) jM_6_at kw_1175 tv2 rfl rfl rfl rfl rfl (Nat.le_of_ble_eq_true rfl) d_4_sumLike_20 ⟨(Nat.le_of_ble_eq_true rfl), (Nat.le_of_ble_eq_true rfl)⟩ ⟨(Nat.le_of_ble_eq_true rfl), (Nat.le_of_ble_eq_true rfl)⟩ (fun x6 r8 h => ?_)
        refine jg_iload (pc := 23) X d_4_sumLike_23 5 rfl ?_
        refine jg_pcallVi (pc := 25) X (m_7_valueAt tv1 r8 rv5 hw h) jM_7_valueAt kw_1342 tv1 rfl rfl rfl rfl rfl (Nat.le_of_ble_eq_true rfl) d_4_sumLike_25 ⟨(Nat.le_of_ble_eq_true rfl), (Nat.le_of_ble_eq_true rfl)⟩ ⟨(Nat.le_of_ble_eq_true rfl), (Nat.le_of_ble_eq_true rfl)⟩ (fun x10 r12 h => ?_)
        refine jg_istore (pc := 28) X [(8, jI x10), (0, jr Z 339), (1, jr Z v1), (2, jr Z v2), (3, jI v3), (4, jI v4), (5, jI v5), (6, jI v6), (7, jI v7)] d_4_sumLike_28 (by decide) rfl ?_
        refine jg_iload (pc := 30) X d_4_sumLike_30 0 rfl ?_
        refine jg_ldk (pc := 32) (-1000000) X kw_1343 (by decide) d_4_sumLike_32 ?_
        refine jg_icmp_eq (tgt := 58) (pc := 34) X d_4_sumLike_34 (by decide) r12 (⟨by decide, by decide⟩ : jRng (-1000000)) h (fun c14 h => ?_) (fun c14 h => ?_)
        · refine jg_iinc (pc := 58) X [(7, jI (v7 + 1)), (8, jI x10), (0, jr Z 339), (1, jr Z v1), (2, jr Z v2), (3, jI v3), (4, jI v4), (5, jI v5), (6, jI v6)] d_4_sumLike_58 8 rfl (by decide) rfl ?_
          refine jg_goto (tgt := 7) (pc := 61) X d_4_sumLike_61 (by decide) ?_
          have r15 : jRng (v7 + 1) := by (unfold jRng; exact ⟨by (have z0 : jRng v7 := rv7; have z1 : jRng x1 := r3; unfold jRng at z0 z1; omega), by (have z0 : jRng v7 := rv7; have z1 : jRng x1 := r3; unfold jRng at z0 z1; omega)⟩)
          refine jg_sub [2, 3, 4, 5, 6, 7, 8, 0] rfl ?_
          exact ih7 _ _ rv6 r15 h
        · refine jg_aload_n (pc := 37) X d_4_sumLike_37 1 rfl ?_
          refine jg_aload_n (pc := 38) X d_4_sumLike_38 2 rfl ?_
          refine jg_aload_n (pc := 39) X d_4_sumLike_39 3 rfl ?_
          refine jg_iload_n (pc := 40) X d_4_sumLike_40 4 rfl ?_
          refine jg_iload (pc := 41) X d_4_sumLike_41 8 rfl ?_
          refine jg_iload (pc := 43) X d_4_sumLike_43 5 rfl ?_
          refine jg_pcallVi (pc := 45) X (m_4_isAlike tv1 tv2 rv3 rv7 rv4 hw h) jM_4_isAlike kw_1359 (jl_339_4 hn) rfl rfl rfl rfl rfl (Nat.le_of_ble_eq_true rfl) d_4_sumLike_45 ⟨(Nat.le_of_ble_eq_true rfl), (Nat.le_of_ble_eq_true rfl)⟩ ⟨(Nat.le_of_ble_eq_true rfl), (Nat.le_of_ble_eq_true rfl)⟩ (fun x16 r18 h => ?_)
          refine jg_if_eq (tgt := 58) (pc := 48) X d_4_sumLike_48 (by decide) r18 h (fun c20 h => ?_) (fun c20 h => ?_)
          · refine jg_iinc (pc := 58) X [(7, jI (v7 + 1)), (8, jI x10), (0, jr Z 339), (1, jr Z v1), (2, jr Z v2), (3, jI v3), (4, jI v4), (5, jI v5), (6, jI v6)] d_4_sumLike_58 8 rfl (by decide) rfl ?_
            refine jg_goto (tgt := 7) (pc := 61) X d_4_sumLike_61 (by decide) ?_
            have r21 : jRng (v7 + 1) := by (unfold jRng; exact ⟨by (have z0 : jRng v7 := rv7; have z1 : jRng x1 := r3; unfold jRng at z0 z1; omega), by (have z0 : jRng v7 := rv7; have z1 : jRng x1 := r3; unfold jRng at z0 z1; omega)⟩)
            refine jg_sub [2, 3, 4, 5, 6, 7, 8, 0] rfl ?_
            exact ih7 _ _ rv6 r21 h
          · refine jg_iload (pc := 51) X d_4_sumLike_51 7 rfl ?_
            refine jg_iload (pc := 53) X d_4_sumLike_53 0 rfl ?_
            refine jg_iadd (pc := 55) X d_4_sumLike_55 ?_
            refine jg_istore (pc := 56) X [(6, jI (v6 + x10)), (8, jI x10), (0, jr Z 339), (1, jr Z v1), (2, jr Z v2), (3, jI v3), (4, jI v4), (5, jI v5), (7, jI v7)] d_4_sumLike_56 (by decide) rfl ?_
            refine jg_iinc (pc := 58) X [(7, jI (v7 + 1)), (6, jI (v6 + x10)), (8, jI x10), (0, jr Z 339), (1, jr Z v1), (2, jr Z v2), (3, jI v3), (4, jI v4), (5, jI v5)] d_4_sumLike_58 8 rfl (by decide) rfl ?_
            refine jg_goto (tgt := 7) (pc := 61) X d_4_sumLike_61 (by decide) ?_
            obtain ⟨r22, h⟩ := h
            have r23 : jRng (v7 + 1) := by (unfold jRng; exact ⟨by (have z0 : jRng v7 := rv7; have z1 : jRng x1 := r3; unfold jRng at z0 z1; omega), by (have z0 : jRng v7 := rv7; have z1 : jRng x1 := r3; unfold jRng at z0 z1; omega)⟩)
            refine jg_sub [3, 4, 5, 6, 7, 8, 1, 0] rfl ?_
            exact ih7 _ _ r22 r23 h
  obtain ⟨N, h⟩ := h
  refine jg_sub [2, 3, 4, 5, 6, 7, 1, 0] rfl ?_
  exact jl7   N _ _ (⟨by decide, by decide⟩ : jRng 0) rv4 h
set_option maxHeartbeats 4000000 in
set_option maxRecDepth 100000 in
theorem m_11_total {l : Launch} {Z : jE} {n : Nat} {C : jC} {v1 : Int} {v2 : Int} {v3 : Int} {v4 : Int} {ex : String → jC → Prop} {post : Int → Prop} (rv1 : jRng v1) (rv2 : jRng v2) (rv3 : jRng v3) (rv4 : jRng v4) (hw0 : jWF n C) (h : wp_11_total v1 v2 v3 v4 C ex post) : jXi l y_11_total prog_1_method_38_code 7 (.int) q_11_total Z n C [jr Z 0, jI v1, jI v2, jI v3, jI v4] ex (fun x C9 => C9 = C ∧ post x) := by
  have hn := hw0.2.2.1
  unfold wp_11_total at h
  refine jXi_of (lv0 := [(0, jr Z 0), (1, jI v1), (2, jI v2), (3, jI v3), (4, jI v4)]) (by decide) (Nat.le_of_ble_eq_true rfl) rfl ?_
  intro p e s m args below meth c A sz X hAe hr hlocks htab
  refine jg_aload_n (pc := 0) X d_11_total_0 0 rfl ?_
  refine jg_iload_n (pc := 1) X d_11_total_1 1 rfl ?_
  refine jg_pxcallVr (pc := 2) X hAe htab hlocks (m_11_viewNumbered rv1 hw0 h) jM_11_viewNumbered kw_772 (jl_0_11 hn) rfl rfl rfl rfl rfl (Nat.le_of_ble_eq_true rfl) d_11_total_2 ⟨(Nat.le_of_ble_eq_true rfl), (Nat.le_of_ble_eq_true rfl)⟩ ⟨(Nat.le_of_ble_eq_true rfl), (Nat.le_of_ble_eq_true rfl)⟩ ⟨(Nat.le_of_ble_eq_true rfl), (Nat.le_of_ble_eq_true rfl)⟩ (fun x1 h => ?_)
  obtain ⟨t5, h⟩ := h
  refine jg_eqst (congrArg (· :: _) (jn_pos t5.1)) ?_
  refine jg_astore (pc := 5) X [(5, jr Z x1), (0, jr Z 0), (1, jI v1), (2, jI v2), (3, jI v3), (4, jI v4)] d_11_total_5 (by decide) rfl ?_
  refine jg_aload_n (pc := 7) X d_11_total_7 1 rfl ?_
  refine jg_iload_n (pc := 8) X d_11_total_8 3 rfl ?_
  refine jg_pxcallVv (pc := 9) X hAe htab hlocks (m_11_needColumn rv2 hw0 h) jM_11_needColumn kw_904 (jl_0_11 hn) rfl rfl rfl rfl rfl (Nat.le_of_ble_eq_true rfl) d_11_total_9 ⟨(Nat.le_of_ble_eq_true rfl), (Nat.le_of_ble_eq_true rfl)⟩ ⟨(Nat.le_of_ble_eq_true rfl), (Nat.le_of_ble_eq_true rfl)⟩ ⟨(Nat.le_of_ble_eq_true rfl), (Nat.le_of_ble_eq_true rfl)⟩ (fun h => ?_)
  refine jg_aload_n (pc := 12) X d_11_total_12 1 rfl ?_
  refine jg_iload (pc := 13) X d_11_total_13 5 rfl ?_
  refine jg_pxcallVv (pc := 15) X hAe htab hlocks (m_11_needColumn rv4 hw0 h) jM_11_needColumn kw_904 (jl_0_11 hn) rfl rfl rfl rfl rfl (Nat.le_of_ble_eq_true rfl) d_11_total_15 ⟨(Nat.le_of_ble_eq_true rfl), (Nat.le_of_ble_eq_true rfl)⟩ ⟨(Nat.le_of_ble_eq_true rfl), (Nat.le_of_ble_eq_true rfl)⟩ ⟨(Nat.le_of_ble_eq_true rfl), (Nat.le_of_ble_eq_true rfl)⟩ (fun h => ?_)
  refine jg_aload_n (pc := 18) X d_11_total_18 1 rfl ?_
  refine jg_iload (pc := 19) X d_11_total_19 5 rfl ?_
  refine jg_pxcallVv (pc := 21) X hAe htab hlocks (m_11_needNumbers rv4 hw0 h) jM_11_needNumbers kw_1334 (jl_0_11 hn) rfl rfl rfl rfl rfl (Nat.le_of_ble_eq_true rfl) d_11_total_21 ⟨(Nat.le_of_ble_eq_true rfl), (Nat.le_of_ble_eq_true rfl)⟩ ⟨(Nat.le_of_ble_eq_true rfl), (Nat.le_of_ble_eq_true rfl)⟩ ⟨(Nat.le_of_ble_eq_true rfl), (Nat.le_of_ble_eq_true rfl)⟩ (fun h => ?_)
  refine jg_aload_n (pc := 24) X d_11_total_24 1 rfl ?_
  refine jg_aload (pc := 25) X d_11_total_25 0 rfl ?_
  refine jg_iload_n (pc := 27) X d_11_total_27 3 rfl ?_
  refine jg_iload_n (pc := 28) X d_11_total_28 4 rfl ?_
  refine jg_pxcallVi (pc := 29) X hAe htab hlocks (m_11_firstOfGroup t5 rv2 rv3 hw0 h) jM_11_firstOfGroup kw_1381 (jl_0_11 hn) rfl rfl rfl rfl rfl (Nat.le_of_ble_eq_true rfl) d_11_total_29 ⟨(Nat.le_of_ble_eq_true rfl), (Nat.le_of_ble_eq_true rfl)⟩ ⟨(Nat.le_of_ble_eq_true rfl), (Nat.le_of_ble_eq_true rfl)⟩ ⟨(Nat.le_of_ble_eq_true rfl), (Nat.le_of_ble_eq_true rfl)⟩ (fun x18 r20 h => ?_)
  refine jg_istore (pc := 32) X [(6, jI x18), (5, jr Z x1), (0, jr Z 0), (1, jI v1), (2, jI v2), (3, jI v3), (4, jI v4)] d_11_total_32 (by decide) rfl ?_
  refine jg_aload_n (pc := 34) X d_11_total_34 2 rfl ?_
  refine jgf_11_3 (pc := 35) X (jl_0_11 hn) kw_339 d_11_total_35 ?_
  refine jg_aload_n (pc := 38) X d_11_total_38 2 rfl ?_
  refine jgf_11_2 (pc := 39) X (jl_0_11 hn) kw_338 d_11_total_39 ?_
  refine jgfN_8_0 (pc := 42) X (jl_35_8 hn) kn_290 d_11_total_42 ?_
  refine jg_aload (pc := 45) X d_11_total_45 1 rfl ?_
  refine jgfN_10_1 (pc := 47) X t5 kn_275 d_11_total_47 ?_
  refine jg_iload_n (pc := 50) X d_11_total_50 4 rfl ?_
  refine jg_iload (pc := 51) X d_11_total_51 0 rfl ?_
  refine jg_iload (pc := 53) X d_11_total_53 6 rfl ?_
  refine jg_pcallVi (pc := 55) X (m_4_sumLike (jl_36_7 hn) (jc_vi_1 hn t5) rv2 r20 rv4 hw0 h) jM_4_sumLike kw_1404 (jl_339_4 hn) rfl rfl rfl rfl rfl (Nat.le_of_ble_eq_true rfl) d_11_total_55 ⟨(Nat.le_of_ble_eq_true rfl), (Nat.le_of_ble_eq_true rfl)⟩ ⟨(Nat.le_of_ble_eq_true rfl), (Nat.le_of_ble_eq_true rfl)⟩ (fun x22 r24 h => ?_)
  refine jg_ret_x ?_
  exact jg_ireturn (pc := 58) X hAe hlocks hr d_11_total_58 ⟨(Nat.le_of_ble_eq_true rfl), (Nat.le_of_ble_eq_true rfl)⟩ rfl r24 hw0 ⟨rfl, h⟩
set_option maxHeartbeats 4000000 in
set_option maxRecDepth 100000 in
theorem m_4_middleOf {l : Launch} {Z : jE} {n : Nat} {C : jC} {v1 : Int} {v2 : Int} {v3 : Int} {post : Int → jC → Prop} (tv1 : jT n v1 7) (tv2 : jT n v2 6) (rv3 : jRng v3) (hw0 : jWF n C) (h : wp_4_middleOf v1 v2 v3 C post) : jCi l y_4_middleOf prog_6_method_23_code 8 (.int) q_4_middleOf Z n C [jr Z 339, jr Z v1, jr Z v2, jI v3] post := by
  have hn := hw0.2.2.1
  unfold wp_4_middleOf at h
  refine jCi_of (lv0 := [(0, jr Z 339), (1, jr Z v1), (2, jr Z v2), (3, jI v3)]) (by decide) (Nat.le_of_ble_eq_true rfl) rfl ?_
  intro p e s m args below meth c A sz X hAe hr hlocks
  refine jg_iconst (pc := 0) X d_4_middleOf_0 ?_
  refine jg_istore (pc := 1) X [(4, jI 0), (0, jr Z 339), (1, jr Z v1), (2, jr Z v2), (3, jI v3)] d_4_middleOf_1 (by decide) rfl ?_
  refine jg_iconst (pc := 3) X d_4_middleOf_3 ?_
  refine jg_istore (pc := 4) X [(5, jI 0), (4, jI 0), (0, jr Z 339), (1, jr Z v1), (2, jr Z v2), (3, jI v3)] d_4_middleOf_4 (by decide) rfl ?_
  have jl6 : ∀  (N : Nat) (v4 : Int) (v5 : Int) (C : jC) (rv4 : jRng v4) (rv5 : jRng v5) (hw : jWF n C), jI3 (wp_4_middleOf_6 v1 v2 v3 post) N v4 v5 C → jG p l e q_4_middleOf s m args below meth c 8 Z A (jws Z n C) 0 0 (MQ below (jQi Z n sz post) args s q_4_middleOf.cells q_4_middleOf.slots (jA Z n sz)) 6 [(0, jr Z 339), (1, jr Z v1), (2, jr Z v2), (3, jI v3), (4, jI v4), (5, jI v5)] [] := by
    intro   N
    have hn := hw0.2.2.1
    induction N with
    | zero => intro v4 v5 C rv4 rv5 hw h; exact h.elim
    | succ N ih6 =>
      intro v4 v5 C rv4 rv5 hw h
      have h : wp_4_middleOf_6 v1 v2 v3 post (jI3 (wp_4_middleOf_6 v1 v2 v3 post) N) v4 v5 C := h
      generalize jI3 (wp_4_middleOf_6 v1 v2 v3 post) N = k6 at h ih6
      unfold wp_4_middleOf_6 at h
      refine jg_iload (pc := 6) X d_4_middleOf_6 5 rfl ?_
      refine jg_aload_n (pc := 8) X d_4_middleOf_8 2 rfl ?_
      refine jg_pcallVi (pc := 9) X (m_6_length tv2 hw h) jM_6_length kw_1174 tv2 rfl rfl rfl rfl rfl (Nat.le_of_ble_eq_true rfl) d_4_middleOf_9 ⟨(Nat.le_of_ble_eq_true rfl), (Nat.le_of_ble_eq_true rfl)⟩ ⟨(Nat.le_of_ble_eq_true rfl), (Nat.le_of_ble_eq_true rfl)⟩ (fun x1 r3 h => ?_)
      refine jg_icmp_ge (tgt := 105) (pc := 12) X d_4_middleOf_12 (by decide) rv5 r3 h (fun c5 h => ?_) (fun c5 h => ?_)
      · refine jg_iload (pc := 105) X d_4_middleOf_105 4 rfl ?_
        refine jg_if_ne (tgt := 115) (pc := 107) X d_4_middleOf_107 (by decide) rv4 h (fun c6 h => ?_) (fun c6 h => ?_)
        · refine jg_ldk (pc := 110) (-1000000) X kw_1343 (by decide) d_4_middleOf_110 ?_
          refine jg_goto (tgt := 126) (pc := 112) X d_4_middleOf_112 (by decide) ?_
          exact jg_ireturn (pc := 126) X hAe hlocks hr d_4_middleOf_126 ⟨(Nat.le_of_ble_eq_true rfl), (Nat.le_of_ble_eq_true rfl)⟩ rfl (⟨by decide, by decide⟩ : jRng (-1000000)) hw h
        · refine jg_aload_n (pc := 115) X d_4_middleOf_115 0 rfl ?_
          refine jgf_4_3 (pc := 116) X (jl_339_4 hn) kw_316 d_4_middleOf_116 ?_
          refine jg_iload (pc := 119) X d_4_middleOf_119 4 rfl ?_
          refine jg_iconst (pc := 121) X d_4_middleOf_121 ?_
          refine jg_isub (pc := 122) X d_4_middleOf_122 ?_
          refine jg_iconst (pc := 123) X d_4_middleOf_123 ?_
          obtain ⟨r7, h⟩ := h
          have r8 : jRng ((v4 - 1).tdiv 2) := jrng_tdiv r7 (by decide) (by decide)
          refine jg_idiv (pc := 124) X d_4_middleOf_124 r7 (by decide) (by decide) ?_
          obtain ⟨b9, b10, h⟩ := h
          refine jg_iaload (len := 24) (pc := 125) X d_4_middleOf_125 (jl_344_1024 hn) (fun _ => rfl) (by decide) b9 b10 ?_
          exact jg_ireturn (pc := 126) X hAe hlocks hr d_4_middleOf_126 ⟨(Nat.le_of_ble_eq_true rfl), (Nat.le_of_ble_eq_true rfl)⟩ rfl (hw.1 _ _) hw h
      · refine jg_iload (pc := 15) X d_4_middleOf_15 4 rfl ?_
        refine jg_bipush (pc := 17) X d_4_middleOf_17 rfl ?_
        refine jg_icmp_ge (tgt := 105) (pc := 19) X d_4_middleOf_19 (by decide) rv4 (⟨by decide, by decide⟩ : jRng 24) h (fun c11 h => ?_) (fun c11 h => ?_)
        · refine jg_iload (pc := 105) X d_4_middleOf_105 4 rfl ?_
          refine jg_if_ne (tgt := 115) (pc := 107) X d_4_middleOf_107 (by decide) rv4 h (fun c12 h => ?_) (fun c12 h => ?_)
          · refine jg_ldk (pc := 110) (-1000000) X kw_1343 (by decide) d_4_middleOf_110 ?_
            refine jg_goto (tgt := 126) (pc := 112) X d_4_middleOf_112 (by decide) ?_
            exact jg_ireturn (pc := 126) X hAe hlocks hr d_4_middleOf_126 ⟨(Nat.le_of_ble_eq_true rfl), (Nat.le_of_ble_eq_true rfl)⟩ rfl (⟨by decide, by decide⟩ : jRng (-1000000)) hw h
          · refine jg_aload_n (pc := 115) X d_4_middleOf_115 0 rfl ?_
            refine jgf_4_3 (pc := 116) X (jl_339_4 hn) kw_316 d_4_middleOf_116 ?_
            refine jg_iload (pc := 119) X d_4_middleOf_119 4 rfl ?_
            refine jg_iconst (pc := 121) X d_4_middleOf_121 ?_
            refine jg_isub (pc := 122) X d_4_middleOf_122 ?_
            refine jg_iconst (pc := 123) X d_4_middleOf_123 ?_
            have r13 : jRng (v4 - 1) := by (unfold jRng; exact ⟨by (have z0 : jRng v4 := rv4; unfold jRng at z0; omega), by (have z0 : jRng v4 := rv4; unfold jRng at z0; omega)⟩)
            have r14 : jRng ((v4 - 1).tdiv 2) := jrng_tdiv r13 (by decide) (by decide)
            refine jg_idiv (pc := 124) X d_4_middleOf_124 r13 (by decide) (by decide) ?_
            obtain ⟨b15, b16, h⟩ := h
            refine jg_iaload (len := 24) (pc := 125) X d_4_middleOf_125 (jl_344_1024 hn) (fun _ => rfl) (by decide) b15 b16 ?_
            exact jg_ireturn (pc := 126) X hAe hlocks hr d_4_middleOf_126 ⟨(Nat.le_of_ble_eq_true rfl), (Nat.le_of_ble_eq_true rfl)⟩ rfl (hw.1 _ _) hw h
        · refine jg_aload_n (pc := 22) X d_4_middleOf_22 1 rfl ?_
          refine jg_aload_n (pc := 23) X d_4_middleOf_23 2 rfl ?_
          refine jg_iload (pc := 24) X d_4_middleOf_24 5 rfl ?_
          refine jg_pcallVi (pc := 26) X (m_6_at tv2 rv5 hw h) jM_6_at kw_1175 tv2 rfl rfl rfl rfl rfl (Nat.le_of_ble_eq_true rfl) d_4_middleOf_26 ⟨(Nat.le_of_ble_eq_true rfl), (Nat.le_of_ble_eq_true rfl)⟩ ⟨(Nat.le_of_ble_eq_true rfl), (Nat.le_of_ble_eq_true rfl)⟩ (fun x17 r19 h => ?_)
          refine jg_iload_n (pc := 29) X d_4_middleOf_29 3 rfl ?_
          refine jg_pcallVi (pc := 30) X (m_7_valueAt tv1 r19 rv3 hw h) jM_7_valueAt kw_1342 tv1 rfl rfl rfl rfl rfl (Nat.le_of_ble_eq_true rfl) d_4_middleOf_30 ⟨(Nat.le_of_ble_eq_true rfl), (Nat.le_of_ble_eq_true rfl)⟩ ⟨(Nat.le_of_ble_eq_true rfl), (Nat.le_of_ble_eq_true rfl)⟩ (fun x21 r23 h => ?_)
          refine jg_istore (pc := 33) X [(6, jI x21), (0, jr Z 339), (1, jr Z v1), (2, jr Z v2), (3, jI v3), (4, jI v4), (5, jI v5)] d_4_middleOf_33 (by decide) rfl ?_
          refine jg_iload (pc := 35) X d_4_middleOf_35 0 rfl ?_
          refine jg_ldk (pc := 37) (-1000000) X kw_1343 (by decide) d_4_middleOf_37 ?_
          refine jg_icmp_eq (tgt := 99) (pc := 39) X d_4_middleOf_39 (by decide) r23 (⟨by decide, by decide⟩ : jRng (-1000000)) h (fun c25 h => ?_) (fun c25 h => ?_)
          · refine jg_iinc (pc := 99) X [(5, jI (v5 + 1)), (6, jI x21), (0, jr Z 339), (1, jr Z v1), (2, jr Z v2), (3, jI v3), (4, jI v4)] d_4_middleOf_99 6 rfl (by decide) rfl ?_
            refine jg_goto (tgt := 6) (pc := 102) X d_4_middleOf_102 (by decide) ?_
            have r26 : jRng (v5 + 1) := by (unfold jRng; exact ⟨by (have z0 : jRng v5 := rv5; have z1 : jRng x1 := r3; unfold jRng at z0 z1; omega), by (have z0 : jRng v5 := rv5; have z1 : jRng x1 := r3; unfold jRng at z0 z1; omega)⟩)
            refine jg_sub [2, 3, 4, 5, 6, 0] rfl ?_
            exact ih6 _ _ _ rv4 r26 hw h
          · refine jg_iload (pc := 42) X d_4_middleOf_42 5 rfl ?_
            refine jg_istore (pc := 44) X [(7, jI v4), (6, jI x21), (0, jr Z 339), (1, jr Z v1), (2, jr Z v2), (3, jI v3), (4, jI v4), (5, jI v5)] d_4_middleOf_44 (by decide) rfl ?_
            have jl46 : ∀ (v6 : Int) (rv6 : jRng v6) (N : Nat) (v7 : Int) (C : jC) (rv7 : jRng v7) (hw : jWF n C), jI2 (wp_4_middleOf_46 v1 v2 v3 v4 v5 v6 post k6) N v7 C → jG p l e q_4_middleOf s m args below meth c 8 Z A (jws Z n C) 0 0 (MQ below (jQi Z n sz post) args s q_4_middleOf.cells q_4_middleOf.slots (jA Z n sz)) 46 [(0, jr Z 339), (1, jr Z v1), (2, jr Z v2), (3, jI v3), (4, jI v4), (5, jI v5), (6, jI v6), (7, jI v7)] [] := by
              intro v6 rv6 N
              have hn := hw0.2.2.1
              induction N with
              | zero => intro v7 C rv7 hw h; exact h.elim
              | succ N ih46 =>
                intro v7 C rv7 hw h
                have h : wp_4_middleOf_46 v1 v2 v3 v4 v5 v6 post k6 (jI2 (wp_4_middleOf_46 v1 v2 v3 v4 v5 v6 post k6) N) v7 C := h
                generalize jI2 (wp_4_middleOf_46 v1 v2 v3 v4 v5 v6 post k6) N = k46 at h ih46
                unfold wp_4_middleOf_46 at h
                refine jg_iload (pc := 46) X d_4_middleOf_46 7 rfl ?_
                refine jg_if_le (tgt := 87) (pc := 48) X d_4_middleOf_48 (by decide) rv7 h (fun c27 h => ?_) (fun c27 h => ?_)
                · refine jg_aload_n (pc := 87) X d_4_middleOf_87 0 rfl ?_
                  refine jgf_4_3 (pc := 88) X (jl_339_4 hn) kw_316 d_4_middleOf_88 ?_
                  refine jg_iload (pc := 91) X d_4_middleOf_91 7 rfl ?_
                  refine jg_iload (pc := 93) X d_4_middleOf_93 6 rfl ?_
                  obtain ⟨b28, h⟩ := h
                  have b29 : v7 < 24 := by (have z0 : jRng v7 := rv7; unfold jRng at z0; omega)
                  refine jg_iastore (len := 24) (pc := 95) X d_4_middleOf_95 (jl_344_1024 hn) (fun _ => rfl) (by decide) b28 b29 ?_
                  have w30 := jWF.u (k := v7) (v := v6) hw (jl_344_1024 hn) (by decide) rv6
                  refine jg_iinc (pc := 96) X [(4, jI (v4 + 1)), (0, jr Z 339), (1, jr Z v1), (2, jr Z v2), (3, jI v3), (5, jI v5), (6, jI v6), (7, jI v7)] d_4_middleOf_96 4 rfl (by decide) rfl ?_
                  refine jg_iinc (pc := 99) X [(5, jI (v5 + 1)), (4, jI (v4 + 1)), (0, jr Z 339), (1, jr Z v1), (2, jr Z v2), (3, jI v3), (6, jI v6), (7, jI v7)] d_4_middleOf_99 5 rfl (by decide) rfl ?_
                  refine jg_goto (tgt := 6) (pc := 102) X d_4_middleOf_102 (by decide) ?_
                  obtain ⟨r31, r32, h⟩ := h
                  refine jg_sub [2, 3, 4, 5, 1, 0] rfl ?_
                  exact ih6 _ _ _ r31 r32 w30 h
                · refine jg_aload_n (pc := 51) X d_4_middleOf_51 0 rfl ?_
                  refine jgf_4_3 (pc := 52) X (jl_339_4 hn) kw_316 d_4_middleOf_52 ?_
                  refine jg_iload (pc := 55) X d_4_middleOf_55 7 rfl ?_
                  refine jg_iconst (pc := 57) X d_4_middleOf_57 ?_
                  refine jg_isub (pc := 58) X d_4_middleOf_58 ?_
                  obtain ⟨b34, h⟩ := h
                  have b33 : 0 ≤ (v7 - 1) := by (have z0 : jRng v7 := rv7; unfold jRng at z0; omega)
                  refine jg_iaload (len := 24) (pc := 59) X d_4_middleOf_59 (jl_344_1024 hn) (fun _ => rfl) (by decide) b33 b34 ?_
                  refine jg_iload (pc := 60) X d_4_middleOf_60 6 rfl ?_
                  refine jg_icmp_le (tgt := 87) (pc := 62) X d_4_middleOf_62 (by decide) (hw.1 _ _) rv6 h (fun c35 h => ?_) (fun c35 h => ?_)
                  · have c35 : (C 344 (v7 - 1)) ≤ v6 := c35
                    refine jg_aload_n (pc := 87) X d_4_middleOf_87 0 rfl ?_
                    refine jgf_4_3 (pc := 88) X (jl_339_4 hn) kw_316 d_4_middleOf_88 ?_
                    refine jg_iload (pc := 91) X d_4_middleOf_91 7 rfl ?_
                    refine jg_iload (pc := 93) X d_4_middleOf_93 6 rfl ?_
                    obtain ⟨b37, h⟩ := h
                    have b36 : 0 ≤ v7 := by (have z0 : jRng v7 := rv7; unfold jRng at z0; omega)
                    refine jg_iastore (len := 24) (pc := 95) X d_4_middleOf_95 (jl_344_1024 hn) (fun _ => rfl) (by decide) b36 b37 ?_
                    have w38 := jWF.u (k := v7) (v := v6) hw (jl_344_1024 hn) (by decide) rv6
                    refine jg_iinc (pc := 96) X [(4, jI (v4 + 1)), (0, jr Z 339), (1, jr Z v1), (2, jr Z v2), (3, jI v3), (5, jI v5), (6, jI v6), (7, jI v7)] d_4_middleOf_96 4 rfl (by decide) rfl ?_
                    refine jg_iinc (pc := 99) X [(5, jI (v5 + 1)), (4, jI (v4 + 1)), (0, jr Z 339), (1, jr Z v1), (2, jr Z v2), (3, jI v3), (6, jI v6), (7, jI v7)] d_4_middleOf_99 5 rfl (by decide) rfl ?_
                    refine jg_goto (tgt := 6) (pc := 102) X d_4_middleOf_102 (by decide) ?_
                    obtain ⟨r39, r40, h⟩ := h
                    refine jg_sub [2, 3, 4, 5, 1, 0] rfl ?_
                    exact ih6 _ _ _ r39 r40 w38 h
                  · have c35 : ¬ ((C 344 (v7 - 1)) ≤ v6) := c35
                    refine jg_aload_n (pc := 65) X d_4_middleOf_65 0 rfl ?_
                    refine jgf_4_3 (pc := 66) X (jl_339_4 hn) kw_316 d_4_middleOf_66 ?_
                    refine jg_iload (pc := 69) X d_4_middleOf_69 7 rfl ?_
                    refine jg_aload_n (pc := 71) X d_4_middleOf_71 0 rfl ?_
                    refine jgf_4_3 (pc := 72) X (jl_339_4 hn) kw_316 d_4_middleOf_72 ?_
                    refine jg_iload (pc := 75) X d_4_middleOf_75 7 rfl ?_
                    refine jg_iconst (pc := 77) X d_4_middleOf_77 ?_
                    refine jg_isub (pc := 78) X d_4_middleOf_78 ?_
                    have b41 : 0 ≤ (v7 - 1) := by (have z0 : jRng v7 := rv7; unfold jRng at z0; omega)
                    have b42 : (v7 - 1) < 24 := by (have z0 : jRng v7 := rv7; unfold jRng at z0; omega)
                    refine jg_iaload (len := 24) (pc := 79) X d_4_middleOf_79 (jl_344_1024 hn) (fun _ => rfl) (by decide) b41 b42 ?_
                    obtain ⟨b44, h⟩ := h
                    have b43 : 0 ≤ v7 := by (have z0 : jRng v7 := rv7; unfold jRng at z0; omega)
                    refine jg_iastore (len := 24) (pc := 80) X d_4_middleOf_80 (jl_344_1024 hn) (fun _ => rfl) (by decide) b43 b44 ?_
                    have w45 := jWF.u (k := v7) (v := (C 344 (v7 - 1))) hw (jl_344_1024 hn) (by decide) (hw.1 _ _)
                    refine jg_iinc (pc := 81) X [(7, jI (v7 + (-1))), (0, jr Z 339), (1, jr Z v1), (2, jr Z v2), (3, jI v3), (4, jI v4), (5, jI v5), (6, jI v6)] d_4_middleOf_81 7 rfl (by decide) rfl ?_
                    refine jg_goto (tgt := 46) (pc := 84) X d_4_middleOf_84 (by decide) ?_
                    have r46 : jRng (v7 + (-1)) := by (unfold jRng; exact ⟨by (have z0 : jRng v7 := rv7; unfold jRng at z0; omega), by (have z0 : jRng v7 := rv7; unfold jRng at z0; omega)⟩)
                    refine jg_sub [1, 2, 3, 4, 5, 6, 7, 0] rfl ?_
                    exact ih46 _ _ r46 w45 h
            obtain ⟨N, h⟩ := h
            refine jg_sub [2, 3, 4, 5, 6, 7, 1, 0] rfl ?_
            exact jl46 _ r23 N _ _ rv4 hw h
  obtain ⟨N, h⟩ := h
  refine jg_sub [2, 3, 4, 5, 1, 0] rfl ?_
  exact jl6   N _ _ _ (⟨by decide, by decide⟩ : jRng 0) (⟨by decide, by decide⟩ : jRng 0) hw0 h
set_option maxHeartbeats 4000000 in
set_option maxRecDepth 100000 in
theorem m_11_middle {l : Launch} {Z : jE} {n : Nat} {C : jC} {v1 : Int} {v2 : Int} {ex : String → jC → Prop} {post : Int → jC → Prop} (rv1 : jRng v1) (rv2 : jRng v2) (hw0 : jWF n C) (h : wp_11_middle v1 v2 C ex post) : jXi l y_11_middle prog_1_method_39_code 4 (.int) q_11_middle Z n C [jr Z 0, jI v1, jI v2] ex post := by
  have hn := hw0.2.2.1
  unfold wp_11_middle at h
  refine jXi_of (lv0 := [(0, jr Z 0), (1, jI v1), (2, jI v2)]) (by decide) (Nat.le_of_ble_eq_true rfl) rfl ?_
  intro p e s m args below meth c A sz X hAe hr hlocks htab
  refine jg_aload_n (pc := 0) X d_11_middle_0 0 rfl ?_
  refine jg_iload_n (pc := 1) X d_11_middle_1 1 rfl ?_
  refine jg_pxcallVr (pc := 2) X hAe htab hlocks (m_11_viewNumbered rv1 hw0 h) jM_11_viewNumbered kw_772 (jl_0_11 hn) rfl rfl rfl rfl rfl (Nat.le_of_ble_eq_true rfl) d_11_middle_2 ⟨(Nat.le_of_ble_eq_true rfl), (Nat.le_of_ble_eq_true rfl)⟩ ⟨(Nat.le_of_ble_eq_true rfl), (Nat.le_of_ble_eq_true rfl)⟩ ⟨(Nat.le_of_ble_eq_true rfl), (Nat.le_of_ble_eq_true rfl)⟩ (fun x1 h => ?_)
  obtain ⟨t5, h⟩ := h
  refine jg_eqst (congrArg (· :: _) (jn_pos t5.1)) ?_
  refine jg_astore_n (pc := 5) X [(3, jr Z x1), (0, jr Z 0), (1, jI v1), (2, jI v2)] d_11_middle_5 (by decide) rfl ?_
  refine jg_aload_n (pc := 6) X d_11_middle_6 1 rfl ?_
  refine jg_iload_n (pc := 7) X d_11_middle_7 3 rfl ?_
  refine jg_pxcallVv (pc := 8) X hAe htab hlocks (m_11_needColumn rv2 hw0 h) jM_11_needColumn kw_904 (jl_0_11 hn) rfl rfl rfl rfl rfl (Nat.le_of_ble_eq_true rfl) d_11_middle_8 ⟨(Nat.le_of_ble_eq_true rfl), (Nat.le_of_ble_eq_true rfl)⟩ ⟨(Nat.le_of_ble_eq_true rfl), (Nat.le_of_ble_eq_true rfl)⟩ ⟨(Nat.le_of_ble_eq_true rfl), (Nat.le_of_ble_eq_true rfl)⟩ (fun h => ?_)
  refine jg_aload_n (pc := 11) X d_11_middle_11 1 rfl ?_
  refine jgf_11_3 (pc := 12) X (jl_0_11 hn) kw_339 d_11_middle_12 ?_
  refine jg_aload_n (pc := 15) X d_11_middle_15 1 rfl ?_
  refine jgf_11_2 (pc := 16) X (jl_0_11 hn) kw_338 d_11_middle_16 ?_
  refine jgfN_8_0 (pc := 19) X (jl_35_8 hn) kn_290 d_11_middle_19 ?_
  refine jg_aload_n (pc := 22) X d_11_middle_22 0 rfl ?_
  refine jgfN_10_1 (pc := 23) X t5 kn_275 d_11_middle_23 ?_
  refine jg_iload_n (pc := 26) X d_11_middle_26 3 rfl ?_
  refine jg_callVi (pc := 27) X (m_4_middleOf (jl_36_7 hn) (jc_vi_1 hn t5) rv2 hw0 h) jM_4_middleOf kw_1415 (jl_339_4 hn) rfl rfl rfl rfl rfl (Nat.le_of_ble_eq_true rfl) d_11_middle_27 ⟨(Nat.le_of_ble_eq_true rfl), (Nat.le_of_ble_eq_true rfl)⟩ ⟨(Nat.le_of_ble_eq_true rfl), (Nat.le_of_ble_eq_true rfl)⟩ (fun x10 C11 r12 w13 h => ?_)
  refine jg_ret_x ?_
  exact jg_ireturn (pc := 30) X hAe hlocks hr d_11_middle_30 ⟨(Nat.le_of_ble_eq_true rfl), (Nat.le_of_ble_eq_true rfl)⟩ rfl r12 w13 h
set_option maxHeartbeats 4000000 in
set_option maxRecDepth 100000 in
theorem m_4_isSeenAlike {l : Launch} {Z : jE} {n : Nat} {C : jC} {v1 : Int} {v2 : Int} {v3 : Int} {v4 : Int} {post : Int → Prop} (tv1 : jT n v1 7) (tv2 : jT n v2 10) (rv3 : jRng v3) (rv4 : jRng v4) (hw0 : jWF n C) (h : wp_4_isSeenAlike v1 v2 v3 v4 C post) : jCi l y_4_isSeenAlike prog_6_method_25_code 6 (.boolean) q_4_isSeenAlike Z n C [jr Z 339, jr Z v1, jr Z v2, jI v3, jI v4] (fun x C9 => C9 = C ∧ post x) := by
  have hn := hw0.2.2.1
  unfold wp_4_isSeenAlike at h
  refine jCi_of (lv0 := [(0, jr Z 339), (1, jr Z v1), (2, jr Z v2), (3, jI v3), (4, jI v4)]) (by decide) (Nat.le_of_ble_eq_true rfl) rfl ?_
  intro p e s m args below meth c A sz X hAe hr hlocks
  refine jg_iconst (pc := 0) X d_4_isSeenAlike_0 ?_
  refine jg_istore (pc := 1) X [(5, jI 0), (0, jr Z 339), (1, jr Z v1), (2, jr Z v2), (3, jI v3), (4, jI v4)] d_4_isSeenAlike_1 (by decide) rfl ?_
  have hw : jWF n C := hw0
  have jl3 : ∀  (N : Nat) (v5 : Int) (rv5 : jRng v5), jI1 (wp_4_isSeenAlike_3 v1 v2 v3 v4 C post) N v5 → jG p l e q_4_isSeenAlike s m args below meth c 6 Z A (jws Z n C) 0 0 (MQ below (jQi Z n sz (fun x C9 => C9 = C ∧ post x)) args s q_4_isSeenAlike.cells q_4_isSeenAlike.slots (jA Z n sz)) 3 [(0, jr Z 339), (1, jr Z v1), (2, jr Z v2), (3, jI v3), (4, jI v4), (5, jI v5)] [] := by
    intro   N
    have hn := hw0.2.2.1
    induction N with
    | zero => intro v5 rv5 h; exact h.elim
    | succ N ih3 =>
      intro v5 rv5 h
      have h : wp_4_isSeenAlike_3 v1 v2 v3 v4 C post (jI1 (wp_4_isSeenAlike_3 v1 v2 v3 v4 C post) N) v5 := h
      generalize jI1 (wp_4_isSeenAlike_3 v1 v2 v3 v4 C post) N = k3 at h ih3
      unfold wp_4_isSeenAlike_3 at h
      refine jg_iload (pc := 3) X d_4_isSeenAlike_3 5 rfl ?_
      refine jg_aload_n (pc := 5) X d_4_isSeenAlike_5 1 rfl ?_
      refine jgfN_7_0 (pc := 6) X tv1 kn_176 d_4_isSeenAlike_6 ?_
      refine jg_icmp_ge (tgt := 49) (pc := 9) X d_4_isSeenAlike_9 (by decide) rv5 (hw.1 _ _) h (fun c1 h => ?_) (fun c1 h => ?_)
      · have c1 : (C v1 0) ≤ v5 := c1
        refine jg_iconst (pc := 49) X d_4_isSeenAlike_49 ?_
        exact jg_ireturn (pc := 50) X hAe hlocks hr d_4_isSeenAlike_50 ⟨(Nat.le_of_ble_eq_true rfl), (Nat.le_of_ble_eq_true rfl)⟩ rfl (⟨by decide, by decide⟩ : jRng 1) hw ⟨rfl, h⟩
      · have c1 : ¬ ((C v1 0) ≤ v5) := c1
        refine jg_aload_n (pc := 12) X d_4_isSeenAlike_12 2 rfl ?_
        refine jgfN_10_0 (pc := 13) X tv2 kn_269 d_4_isSeenAlike_13 ?_
        refine jg_iload (pc := 16) X d_4_isSeenAlike_16 5 rfl ?_
        refine jg_pcallVi (pc := 18) X (m_2_hides (jc_vi_0 hn tv2) rv5 hw h) jM_2_hides kw_1434 (jc_vi_0 hn tv2) rfl rfl rfl rfl rfl (Nat.le_of_ble_eq_true rfl) d_4_isSeenAlike_18 ⟨(Nat.le_of_ble_eq_true rfl), (Nat.le_of_ble_eq_true rfl)⟩ ⟨(Nat.le_of_ble_eq_true rfl), (Nat.le_of_ble_eq_true rfl)⟩ (fun x2 r4 h => ?_)
        refine jg_if_ne (tgt := 43) (pc := 21) X d_4_isSeenAlike_21 (by decide) r4 h (fun c6 h => ?_) (fun c6 h => ?_)
        · refine jg_aload_n (pc := 24) X d_4_isSeenAlike_24 0 rfl ?_
          refine jg_aload_n (pc := 25) X d_4_isSeenAlike_25 1 rfl ?_
          refine jg_aload_n (pc := 26) X d_4_isSeenAlike_26 2 rfl ?_
          refine jgfN_10_1 (pc := 27) X tv2 kn_273 d_4_isSeenAlike_27 ?_
          refine jg_iload (pc := 30) X d_4_isSeenAlike_30 5 rfl ?_
          refine jg_iload_n (pc := 32) X d_4_isSeenAlike_32 3 rfl ?_
          refine jg_iload (pc := 33) X d_4_isSeenAlike_33 4 rfl ?_
          refine jg_pcallVi (pc := 35) X (m_4_isAlike tv1 (jc_vi_1 hn tv2) rv5 rv3 rv4 hw h) jM_4_isAlike kw_1359 (jl_339_4 hn) rfl rfl rfl rfl rfl (Nat.le_of_ble_eq_true rfl) d_4_isSeenAlike_35 ⟨(Nat.le_of_ble_eq_true rfl), (Nat.le_of_ble_eq_true rfl)⟩ ⟨(Nat.le_of_ble_eq_true rfl), (Nat.le_of_ble_eq_true rfl)⟩ (fun x7 r9 h => ?_)
          refine jg_if_ne (tgt := 43) (pc := 38) X d_4_isSeenAlike_38 (by decide) r9 h (fun c11 h => ?_) (fun c11 h => ?_)
          · refine jg_iconst (pc := 41) X d_4_isSeenAlike_41 ?_
            exact jg_ireturn (pc := 42) X hAe hlocks hr d_4_isSeenAlike_42 ⟨(Nat.le_of_ble_eq_true rfl), (Nat.le_of_ble_eq_true rfl)⟩ rfl (⟨by decide, by decide⟩ : jRng 0) hw ⟨rfl, h⟩
          · refine jg_iinc (pc := 43) X [(5, jI (v5 + 1)), (0, jr Z 339), (1, jr Z v1), (2, jr Z v2), (3, jI v3), (4, jI v4)] d_4_isSeenAlike_43 5 rfl (by decide) rfl ?_
            refine jg_goto (tgt := 3) (pc := 46) X d_4_isSeenAlike_46 (by decide) ?_
            have r12 : jRng (v5 + 1) := by (unfold jRng; exact ⟨by (have z0 : jRng v5 := rv5; have z1 : jRng (C v1 0) := (hw.1 _ _); unfold jRng at z0 z1; omega), by (have z0 : jRng v5 := rv5; have z1 : jRng (C v1 0) := (hw.1 _ _); unfold jRng at z0 z1; omega)⟩)
            refine jg_sub [1, 2, 3, 4, 5, 0] rfl ?_
            exact ih3 _ r12 h
        · refine jg_iinc (pc := 43) X [(5, jI (v5 + 1)), (0, jr Z 339), (1, jr Z v1), (2, jr Z v2), (3, jI v3), (4, jI v4)] d_4_isSeenAlike_43 5 rfl (by decide) rfl ?_
          refine jg_goto (tgt := 3) (pc := 46) X d_4_isSeenAlike_46 (by decide) ?_
          have r13 : jRng (v5 + 1) := by (unfold jRng; exact ⟨by (have z0 : jRng v5 := rv5; have z1 : jRng (C v1 0) := (hw.1 _ _); unfold jRng at z0 z1; omega), by (have z0 : jRng v5 := rv5; have z1 : jRng (C v1 0) := (hw.1 _ _); unfold jRng at z0 z1; omega)⟩)
          refine jg_sub [1, 2, 3, 4, 5, 0] rfl ?_
          exact ih3 _ r13 h
  obtain ⟨N, h⟩ := h
  refine jg_sub [1, 2, 3, 4, 5, 0] rfl ?_
  exact jl3   N _ (⟨by decide, by decide⟩ : jRng 0) h
set_option maxHeartbeats 4000000 in
set_option maxRecDepth 100000 in
theorem m_4_repeatedBits {l : Launch} {Z : jE} {n : Nat} {C : jC} {v1 : Int} {v2 : Int} {post : Int → Prop} (tv1 : jT n v1 7) (tv2 : jT n v2 10) (hw0 : jWF n C) (h : wp_4_repeatedBits v1 v2 C post) : jCi l y_4_repeatedBits prog_6_method_24_code 6 (.int) q_4_repeatedBits Z n C [jr Z 339, jr Z v1, jr Z v2] (fun x C9 => C9 = C ∧ post x) := by
  have hn := hw0.2.2.1
  unfold wp_4_repeatedBits at h
  refine jCi_of (lv0 := [(0, jr Z 339), (1, jr Z v1), (2, jr Z v2)]) (by decide) (Nat.le_of_ble_eq_true rfl) rfl ?_
  intro p e s m args below meth c A sz X hAe hr hlocks
  refine jg_iconst (pc := 0) X d_4_repeatedBits_0 ?_
  refine jg_istore_n (pc := 1) X [(3, jI 0), (0, jr Z 339), (1, jr Z v1), (2, jr Z v2)] d_4_repeatedBits_1 (by decide) rfl ?_
  refine jg_iconst (pc := 2) X d_4_repeatedBits_2 ?_
  refine jg_istore (pc := 3) X [(4, jI 1), (3, jI 0), (0, jr Z 339), (1, jr Z v1), (2, jr Z v2)] d_4_repeatedBits_3 (by decide) rfl ?_
  have hw : jWF n C := hw0
  have jl5 : ∀  (N : Nat) (v3 : Int) (v4 : Int) (rv3 : jRng v3) (rv4 : jRng v4), jI2 (wp_4_repeatedBits_5 v1 v2 C post) N v3 v4 → jG p l e q_4_repeatedBits s m args below meth c 6 Z A (jws Z n C) 0 0 (MQ below (jQi Z n sz (fun x C9 => C9 = C ∧ post x)) args s q_4_repeatedBits.cells q_4_repeatedBits.slots (jA Z n sz)) 5 [(0, jr Z 339), (1, jr Z v1), (2, jr Z v2), (3, jI v3), (4, jI v4)] [] := by
    intro   N
    have hn := hw0.2.2.1
    induction N with
    | zero => intro v3 v4 rv3 rv4 h; exact h.elim
    | succ N ih5 =>
      intro v3 v4 rv3 rv4 h
      have h : wp_4_repeatedBits_5 v1 v2 C post (jI2 (wp_4_repeatedBits_5 v1 v2 C post) N) v3 v4 := h
      generalize jI2 (wp_4_repeatedBits_5 v1 v2 C post) N = k5 at h ih5
      unfold wp_4_repeatedBits_5 at h
      refine jg_iload (pc := 5) X d_4_repeatedBits_5 4 rfl ?_
      refine jg_aload_n (pc := 7) X d_4_repeatedBits_7 2 rfl ?_
      refine jgfN_10_1 (pc := 8) X tv2 kn_273 d_4_repeatedBits_8 ?_
      refine jg_pcallVi (pc := 11) X (m_6_length (jc_vi_1 hn tv2) hw h) jM_6_length kw_1174 (jc_vi_1 hn tv2) rfl rfl rfl rfl rfl (Nat.le_of_ble_eq_true rfl) d_4_repeatedBits_11 ⟨(Nat.le_of_ble_eq_true rfl), (Nat.le_of_ble_eq_true rfl)⟩ ⟨(Nat.le_of_ble_eq_true rfl), (Nat.le_of_ble_eq_true rfl)⟩ (fun x1 r3 h => ?_)
      refine jg_icmp_ge (tgt := 59) (pc := 14) X d_4_repeatedBits_14 (by decide) rv4 r3 h (fun c5 h => ?_) (fun c5 h => ?_)
      · refine jg_iload_n (pc := 59) X d_4_repeatedBits_59 3 rfl ?_
        exact jg_ireturn (pc := 60) X hAe hlocks hr d_4_repeatedBits_60 ⟨(Nat.le_of_ble_eq_true rfl), (Nat.le_of_ble_eq_true rfl)⟩ rfl rv3 hw ⟨rfl, h⟩
      · refine jg_iconst (pc := 17) X d_4_repeatedBits_17 ?_
        refine jg_istore (pc := 18) X [(5, jI 0), (0, jr Z 339), (1, jr Z v1), (2, jr Z v2), (3, jI v3), (4, jI v4)] d_4_repeatedBits_18 (by decide) rfl ?_
        have jl20 : ∀  (N : Nat) (v3 : Int) (v5 : Int) (rv3 : jRng v3) (rv5 : jRng v5), jI2 (wp_4_repeatedBits_20 v1 v2 v4 C post k5) N v3 v5 → jG p l e q_4_repeatedBits s m args below meth c 6 Z A (jws Z n C) 0 0 (MQ below (jQi Z n sz (fun x C9 => C9 = C ∧ post x)) args s q_4_repeatedBits.cells q_4_repeatedBits.slots (jA Z n sz)) 20 [(0, jr Z 339), (1, jr Z v1), (2, jr Z v2), (4, jI v4), (3, jI v3), (5, jI v5)] [] := by
          intro   N
          have hn := hw0.2.2.1
          induction N with
          | zero => intro v3 v5 rv3 rv5 h; exact h.elim
          | succ N ih20 =>
            intro v3 v5 rv3 rv5 h
            have h : wp_4_repeatedBits_20 v1 v2 v4 C post k5 (jI2 (wp_4_repeatedBits_20 v1 v2 v4 C post k5) N) v3 v5 := h
            generalize jI2 (wp_4_repeatedBits_20 v1 v2 v4 C post k5) N = k20 at h ih20
            unfold wp_4_repeatedBits_20 at h
            refine jg_iload (pc := 20) X d_4_repeatedBits_20 5 rfl ?_
            refine jg_iload (pc := 22) X d_4_repeatedBits_22 3 rfl ?_
            refine jg_icmp_ge (tgt := 53) (pc := 24) X d_4_repeatedBits_24 (by decide) rv5 rv4 h (fun c6 h => ?_) (fun c6 h => ?_)
            · refine jg_iinc (pc := 53) X [(4, jI (v4 + 1)), (0, jr Z 339), (1, jr Z v1), (2, jr Z v2), (3, jI v3), (5, jI v5)] d_4_repeatedBits_53 3 rfl (by decide) rfl ?_
              refine jg_goto (tgt := 5) (pc := 56) X d_4_repeatedBits_56 (by decide) ?_
              obtain ⟨r7, h⟩ := h
              refine jg_sub [1, 2, 3, 4, 0] rfl ?_
              exact ih5 _ _ rv3 r7 h
            · refine jg_aload_n (pc := 27) X d_4_repeatedBits_27 0 rfl ?_
              refine jg_aload_n (pc := 28) X d_4_repeatedBits_28 1 rfl ?_
              refine jg_aload_n (pc := 29) X d_4_repeatedBits_29 2 rfl ?_
              refine jg_iload (pc := 30) X d_4_repeatedBits_30 3 rfl ?_
              refine jg_iload (pc := 32) X d_4_repeatedBits_32 5 rfl ?_
              refine jg_pcallVi (pc := 34) X (m_4_isSeenAlike tv1 tv2 rv4 rv5 hw h) jM_4_isSeenAlike kw_1430 (jl_339_4 hn) rfl rfl rfl rfl rfl (Nat.le_of_ble_eq_true rfl) d_4_repeatedBits_34 ⟨(Nat.le_of_ble_eq_true rfl), (Nat.le_of_ble_eq_true rfl)⟩ ⟨(Nat.le_of_ble_eq_true rfl), (Nat.le_of_ble_eq_true rfl)⟩ (fun x8 r10 h => ?_)
              refine jg_if_eq (tgt := 47) (pc := 37) X d_4_repeatedBits_37 (by decide) r10 h (fun c12 h => ?_) (fun c12 h => ?_)
              · refine jg_iinc (pc := 47) X [(5, jI (v5 + 1)), (0, jr Z 339), (1, jr Z v1), (2, jr Z v2), (4, jI v4), (3, jI v3)] d_4_repeatedBits_47 5 rfl (by decide) rfl ?_
                refine jg_goto (tgt := 20) (pc := 50) X d_4_repeatedBits_50 (by decide) ?_
                have r13 : jRng (v5 + 1) := by (unfold jRng; exact ⟨by (have z0 : jRng v5 := rv5; have z1 : jRng v4 := rv4; unfold jRng at z0 z1; omega), by (have z0 : jRng v5 := rv5; have z1 : jRng v4 := rv4; unfold jRng at z0 z1; omega)⟩)
                refine jg_sub [1, 2, 3, 4, 5, 0] rfl ?_
                exact ih20 _ _ rv3 r13 h
              · refine jg_iload_n (pc := 40) X d_4_repeatedBits_40 4 rfl ?_
                refine jg_iconst (pc := 41) X d_4_repeatedBits_41 ?_
                refine jg_iload (pc := 42) X d_4_repeatedBits_42 3 rfl ?_
                refine jg_ishl (pc := 44) X d_4_repeatedBits_44 ?_
                refine jg_ior (pc := 45) X d_4_repeatedBits_45 ?_
                refine jg_istore_n (pc := 46) X [(3, jI (jOr v3 (jShl 1 v4))), (0, jr Z 339), (1, jr Z v1), (2, jr Z v2), (4, jI v4), (5, jI v5)] d_4_repeatedBits_46 (by decide) rfl ?_
                refine jg_iinc (pc := 47) X [(5, jI (v5 + 1)), (3, jI (jOr v3 (jShl 1 v4))), (0, jr Z 339), (1, jr Z v1), (2, jr Z v2), (4, jI v4)] d_4_repeatedBits_47 5 rfl (by decide) rfl ?_
                refine jg_goto (tgt := 20) (pc := 50) X d_4_repeatedBits_50 (by decide) ?_
                have r14 : jRng (v5 + 1) := by (unfold jRng; exact ⟨by (have z0 : jRng v5 := rv5; have z1 : jRng v4 := rv4; unfold jRng at z0 z1; omega), by (have z0 : jRng v5 := rv5; have z1 : jRng v4 := rv4; unfold jRng at z0 z1; omega)⟩)
                refine jg_sub [2, 3, 4, 5, 1, 0] rfl ?_
                exact ih20 _ _ (jOr_rng _ _) r14 h
        obtain ⟨N, h⟩ := h
        refine jg_sub [1, 2, 3, 5, 4, 0] rfl ?_
        exact jl20   N _ _ rv3 (⟨by decide, by decide⟩ : jRng 0) h
  obtain ⟨N, h⟩ := h
  refine jg_sub [2, 3, 4, 1, 0] rfl ?_
  exact jl5   N _ _ (⟨by decide, by decide⟩ : jRng 0) (⟨by decide, by decide⟩ : jRng 1) h
set_option maxHeartbeats 4000000 in
set_option maxRecDepth 100000 in
theorem m_11_twice {l : Launch} {Z : jE} {n : Nat} {C : jC} {v1 : Int} {ex : String → jC → Prop} {post : Int → Prop} (rv1 : jRng v1) (hw0 : jWF n C) (h : wp_11_twice v1 C ex post) : jXi l y_11_twice prog_1_method_40_code 2 (.int) q_11_twice Z n C [jr Z 0, jI v1] ex (fun x C9 => C9 = C ∧ post x) := by
  have hn := hw0.2.2.1
  unfold wp_11_twice at h
  refine jXi_of (lv0 := [(0, jr Z 0), (1, jI v1)]) (by decide) (Nat.le_of_ble_eq_true rfl) rfl ?_
  intro p e s m args below meth c A sz X hAe hr hlocks htab
  refine jg_aload_n (pc := 0) X d_11_twice_0 0 rfl ?_
  refine jgf_11_3 (pc := 1) X (jl_0_11 hn) kw_339 d_11_twice_1 ?_
  refine jg_aload_n (pc := 4) X d_11_twice_4 0 rfl ?_
  refine jgf_11_2 (pc := 5) X (jl_0_11 hn) kw_338 d_11_twice_5 ?_
  refine jgfN_8_0 (pc := 8) X (jl_35_8 hn) kn_290 d_11_twice_8 ?_
  refine jg_aload_n (pc := 11) X d_11_twice_11 0 rfl ?_
  refine jg_iload_n (pc := 12) X d_11_twice_12 1 rfl ?_
  refine jg_pxcallVr (pc := 13) X hAe htab hlocks (m_11_viewNumbered rv1 hw0 h) jM_11_viewNumbered kw_772 (jl_0_11 hn) rfl rfl rfl rfl rfl (Nat.le_of_ble_eq_true rfl) d_11_twice_13 ⟨(Nat.le_of_ble_eq_true rfl), (Nat.le_of_ble_eq_true rfl)⟩ ⟨(Nat.le_of_ble_eq_true rfl), (Nat.le_of_ble_eq_true rfl)⟩ ⟨(Nat.le_of_ble_eq_true rfl), (Nat.le_of_ble_eq_true rfl)⟩ (fun x1 h => ?_)
  obtain ⟨t5, h⟩ := h
  refine jg_eqst (congrArg (· :: _) (jn_pos t5.1)) ?_
  refine jg_pcallVi (pc := 16) X (m_4_repeatedBits (jl_36_7 hn) t5 hw0 h) jM_4_repeatedBits kw_1426 (jl_339_4 hn) rfl rfl rfl rfl rfl (Nat.le_of_ble_eq_true rfl) d_11_twice_16 ⟨(Nat.le_of_ble_eq_true rfl), (Nat.le_of_ble_eq_true rfl)⟩ ⟨(Nat.le_of_ble_eq_true rfl), (Nat.le_of_ble_eq_true rfl)⟩ (fun x6 r8 h => ?_)
  refine jg_ret_x ?_
  exact jg_ireturn (pc := 19) X hAe hlocks hr d_11_twice_19 ⟨(Nat.le_of_ble_eq_true rfl), (Nat.le_of_ble_eq_true rfl)⟩ rfl r8 hw0 ⟨rfl, h⟩
set_option maxHeartbeats 4000000 in
set_option maxRecDepth 100000 in
theorem m_11_barred {l : Launch} {Z : jE} {n : Nat} {C : jC} {v1 : Int} {ex : String → jC → Prop} {post : Int → Prop} (rv1 : jRng v1) (hw0 : jWF n C) (h : wp_11_barred v1 C ex post) : jXi l y_11_barred prog_1_method_41_code 3 (.int) q_11_barred Z n C [jr Z 0, jI v1] ex (fun x C9 => C9 = C ∧ post x) := by
  have hn := hw0.2.2.1
  unfold wp_11_barred at h
  refine jXi_of (lv0 := [(0, jr Z 0), (1, jI v1)]) (by decide) (Nat.le_of_ble_eq_true rfl) rfl ?_
  intro p e s m args below meth c A sz X hAe hr hlocks htab
  refine jg_aload_n (pc := 0) X d_11_barred_0 0 rfl ?_
  refine jg_iload_n (pc := 1) X d_11_barred_1 1 rfl ?_
  refine jg_pxcallVr (pc := 2) X hAe htab hlocks (m_11_viewNumbered rv1 hw0 h) jM_11_viewNumbered kw_772 (jl_0_11 hn) rfl rfl rfl rfl rfl (Nat.le_of_ble_eq_true rfl) d_11_barred_2 ⟨(Nat.le_of_ble_eq_true rfl), (Nat.le_of_ble_eq_true rfl)⟩ ⟨(Nat.le_of_ble_eq_true rfl), (Nat.le_of_ble_eq_true rfl)⟩ ⟨(Nat.le_of_ble_eq_true rfl), (Nat.le_of_ble_eq_true rfl)⟩ (fun x1 h => ?_)
  obtain ⟨t5, h⟩ := h
  refine jg_eqst (congrArg (· :: _) (jn_pos t5.1)) ?_
  refine jg_pcallVr (pc := 5) X (m_10_latestEdit t5 hw0 h) jM_10_latestEdit kw_1185 t5 rfl rfl rfl rfl rfl (Nat.le_of_ble_eq_true rfl) d_11_barred_5 ⟨(Nat.le_of_ble_eq_true rfl), (Nat.le_of_ble_eq_true rfl)⟩ ⟨(Nat.le_of_ble_eq_true rfl), (Nat.le_of_ble_eq_true rfl)⟩ (fun x6 h => ?_)
  obtain ⟨t10, h⟩ := h
  refine jg_qstore_n (pc := 8) X [(2, jn Z x6), (0, jr Z 0), (1, jI v1)] d_11_barred_8 (by decide) rfl ?_
  refine jg_qload_n (pc := 9) X d_11_barred_9 0 rfl ?_
  refine jg_ifnonnull (tgt := 17) (pc := 10) X d_11_barred_10 (by decide) h (fun c11 h => ?_) (fun c11 h => ?_)
  · refine jg_iconst (pc := 13) X d_11_barred_13 ?_
    refine jg_goto (tgt := 28) (pc := 14) X d_11_barred_14 (by decide) ?_
    refine jg_ret_x ?_
    exact jg_ireturn (pc := 28) X hAe hlocks hr d_11_barred_28 ⟨(Nat.le_of_ble_eq_true rfl), (Nat.le_of_ble_eq_true rfl)⟩ rfl (⟨by decide, by decide⟩ : jRng (-1)) hw0 ⟨rfl, h⟩
  · refine jg_eqlv (lv2 := [(2, jr Z x6), (0, jr Z 0), (1, jI v1)]) (by rw [jn_pos c11]) ?_
    refine jg_aload_n (pc := 17) X d_11_barred_17 0 rfl ?_
    refine jg_aload_n (pc := 18) X d_11_barred_18 1 rfl ?_
    refine jgf_11_2 (pc := 19) X (jl_0_11 hn) kw_338 d_11_barred_19 ?_
    refine jgfN_8_0 (pc := 22) X (jl_35_8 hn) kn_290 d_11_barred_22 ?_
    refine jg_pcallVi (pc := 25) X (m_0_firstBarred (Or.resolve_left t10 (Int.not_lt.mpr c11)) (jl_36_7 hn) hw0 h) jM_0_firstBarred kw_1189 (Or.resolve_left t10 (Int.not_lt.mpr c11)) rfl rfl rfl rfl rfl (Nat.le_of_ble_eq_true rfl) d_11_barred_25 ⟨(Nat.le_of_ble_eq_true rfl), (Nat.le_of_ble_eq_true rfl)⟩ ⟨(Nat.le_of_ble_eq_true rfl), (Nat.le_of_ble_eq_true rfl)⟩ (fun x12 r14 h => ?_)
    refine jg_ret_x ?_
    exact jg_ireturn (pc := 28) X hAe hlocks hr d_11_barred_28 ⟨(Nat.le_of_ble_eq_true rfl), (Nat.le_of_ble_eq_true rfl)⟩ rfl r14 hw0 ⟨rfl, h⟩
set_option maxHeartbeats 4000000 in
set_option maxRecDepth 100000 in
theorem m_11_find {l : Launch} {Z : jE} {n : Nat} {C : jC} {v1 : Int} {v2 : Int} {v3 : Int} {v4 : Int} {ex : String → jC → Prop} {post : Int → Prop} (rv1 : jRng v1) (rv2 : jRng v2) (rv3 : jRng v3) (rv4 : jRng v4) (hw0 : jWF n C) (h : wp_11_find v1 v2 v3 v4 C ex post) : jXi l y_11_find prog_1_method_42_code 7 (.int) q_11_find Z n C [jr Z 0, jI v1, jI v2, jI v3, jI v4] ex (fun x C9 => C9 = C ∧ post x) := by
  have hn := hw0.2.2.1
  unfold wp_11_find at h
  refine jXi_of (lv0 := [(0, jr Z 0), (1, jI v1), (2, jI v2), (3, jI v3), (4, jI v4)]) (by decide) (Nat.le_of_ble_eq_true rfl) rfl ?_
  intro p e s m args below meth c A sz X hAe hr hlocks htab
  refine jg_aload_n (pc := 0) X d_11_find_0 0 rfl ?_
  refine jg_iload_n (pc := 1) X d_11_find_1 1 rfl ?_
  refine jg_pxcallVr (pc := 2) X hAe htab hlocks (m_11_viewNumbered rv1 hw0 h) jM_11_viewNumbered kw_772 (jl_0_11 hn) rfl rfl rfl rfl rfl (Nat.le_of_ble_eq_true rfl) d_11_find_2 ⟨(Nat.le_of_ble_eq_true rfl), (Nat.le_of_ble_eq_true rfl)⟩ ⟨(Nat.le_of_ble_eq_true rfl), (Nat.le_of_ble_eq_true rfl)⟩ ⟨(Nat.le_of_ble_eq_true rfl), (Nat.le_of_ble_eq_true rfl)⟩ (fun x1 h => ?_)
  obtain ⟨t5, h⟩ := h
  refine jg_eqst (congrArg (· :: _) (jn_pos t5.1)) ?_
  refine jg_astore (pc := 5) X [(5, jr Z x1), (0, jr Z 0), (1, jI v1), (2, jI v2), (3, jI v3), (4, jI v4)] d_11_find_5 (by decide) rfl ?_
  refine jg_aload_n (pc := 7) X d_11_find_7 1 rfl ?_
  refine jg_iload_n (pc := 8) X d_11_find_8 3 rfl ?_
  refine jg_pxcallVv (pc := 9) X hAe htab hlocks (m_11_needColumn rv2 hw0 h) jM_11_needColumn kw_904 (jl_0_11 hn) rfl rfl rfl rfl rfl (Nat.le_of_ble_eq_true rfl) d_11_find_9 ⟨(Nat.le_of_ble_eq_true rfl), (Nat.le_of_ble_eq_true rfl)⟩ ⟨(Nat.le_of_ble_eq_true rfl), (Nat.le_of_ble_eq_true rfl)⟩ ⟨(Nat.le_of_ble_eq_true rfl), (Nat.le_of_ble_eq_true rfl)⟩ (fun h => ?_)
  refine jg_iload (pc := 12) X d_11_find_12 5 rfl ?_
  refine jg_if_lt (tgt := 32) (pc := 14) X d_11_find_14 (by decide) rv4 h (fun c10 h => ?_) (fun c10 h => ?_)
  · exact jg_throw (pc := 32) X hAe htab hlocks (by decide) kw_612 kw_22 th_58 tg_58 d_11_find_32 d_11_find_35 d_11_find_36 d_11_find_39 ⟨(Nat.le_of_ble_eq_true rfl), (Nat.le_of_ble_eq_true rfl), (Nat.le_of_ble_eq_true rfl), (Nat.le_of_ble_eq_true rfl)⟩ ⟨(Nat.le_of_ble_eq_true rfl), (Nat.le_of_ble_eq_true rfl)⟩ hw0 h
  · refine jg_aload_n (pc := 17) X d_11_find_17 1 rfl ?_
    refine jgf_11_2 (pc := 18) X (jl_0_11 hn) kw_338 d_11_find_18 ?_
    refine jgfN_8_0 (pc := 21) X (jl_35_8 hn) kn_290 d_11_find_21 ?_
    refine jg_iload_n (pc := 24) X d_11_find_24 3 rfl ?_
    refine jg_iload_n (pc := 25) X d_11_find_25 4 rfl ?_
    refine jg_pcallVi (pc := 26) X (m_7_mayHoldOrBlank (jl_36_7 hn) rv2 rv3 hw0 h) jM_7_mayHoldOrBlank kw_1079 (jl_36_7 hn) rfl rfl rfl rfl rfl (Nat.le_of_ble_eq_true rfl) d_11_find_26 ⟨(Nat.le_of_ble_eq_true rfl), (Nat.le_of_ble_eq_true rfl)⟩ ⟨(Nat.le_of_ble_eq_true rfl), (Nat.le_of_ble_eq_true rfl)⟩ (fun x11 r13 h => ?_)
    refine jg_if_ne (tgt := 40) (pc := 29) X d_11_find_29 (by decide) r13 h (fun c15 h => ?_) (fun c15 h => ?_)
    · exact jg_throw (pc := 32) X hAe htab hlocks (by decide) kw_612 kw_22 th_58 tg_58 d_11_find_32 d_11_find_35 d_11_find_36 d_11_find_39 ⟨(Nat.le_of_ble_eq_true rfl), (Nat.le_of_ble_eq_true rfl), (Nat.le_of_ble_eq_true rfl), (Nat.le_of_ble_eq_true rfl)⟩ ⟨(Nat.le_of_ble_eq_true rfl), (Nat.le_of_ble_eq_true rfl)⟩ hw0 h
    · refine jg_iload (pc := 40) X d_11_find_40 5 rfl ?_
      refine jg_istore (pc := 42) X [(6, jI v4), (5, jr Z x1), (0, jr Z 0), (1, jI v1), (2, jI v2), (3, jI v3), (4, jI v4)] d_11_find_42 (by decide) rfl ?_
      have hw : jWF n C := hw0
      have jl44 : ∀ (v5 : Int) (tv5 : jT n v5 10) (N : Nat) (v6 : Int) (rv6 : jRng v6), jI1 (wp_11_find_44 v2 v3 v5 C ex post) N v6 → jG p l e q_11_find s m args below meth c 7 Z A (jws Z n C) 2 12 (vx_MQ below (jQi Z n sz (fun x C9 => C9 = C ∧ post x)) (jXC Z n sz ex) args s q_11_find.cells q_11_find.slots (jA Z n sz)) 44 [(0, jr Z 0), (2, jI v2), (3, jI v3), (5, jr Z v5), (6, jI v6)] [] := by
        intro v5 tv5 N
        have hn := hw0.2.2.1
        induction N with
        | zero => intro v6 rv6 h; exact h.elim
        | succ N ih44 =>
          intro v6 rv6 h
          have h : wp_11_find_44 v2 v3 v5 C ex post (jI1 (wp_11_find_44 v2 v3 v5 C ex post) N) v6 := h
          generalize jI1 (wp_11_find_44 v2 v3 v5 C ex post) N = k44 at h ih44
          unfold wp_11_find_44 at h
          refine jg_iload (pc := 44) X d_11_find_44 4 rfl ?_
          refine jg_aload (pc := 46) X d_11_find_46 3 rfl ?_
          refine jgfN_10_1 (pc := 48) X tv5 kn_275 d_11_find_48 ?_
          refine jg_pcallVi (pc := 51) X (m_6_length (jc_vi_1 hn tv5) hw h) jM_6_length kw_896 (jc_vi_1 hn tv5) rfl rfl rfl rfl rfl (Nat.le_of_ble_eq_true rfl) d_11_find_51 ⟨(Nat.le_of_ble_eq_true rfl), (Nat.le_of_ble_eq_true rfl)⟩ ⟨(Nat.le_of_ble_eq_true rfl), (Nat.le_of_ble_eq_true rfl)⟩ (fun x16 r18 h => ?_)
          refine jg_icmp_ge (tgt := 91) (pc := 54) X d_11_find_54 (by decide) rv6 r18 h (fun c20 h => ?_) (fun c20 h => ?_)
          · refine jg_iconst (pc := 91) X d_11_find_91 ?_
            refine jg_ret_x ?_
            exact jg_ireturn (pc := 92) X hAe hlocks hr d_11_find_92 ⟨(Nat.le_of_ble_eq_true rfl), (Nat.le_of_ble_eq_true rfl)⟩ rfl (⟨by decide, by decide⟩ : jRng (-1)) hw ⟨rfl, h⟩
          · refine jg_aload_n (pc := 57) X d_11_find_57 0 rfl ?_
            refine jgf_11_2 (pc := 58) X (jl_0_11 hn) kw_338 d_11_find_58 ?_
            refine jgfN_8_0 (pc := 61) X (jl_35_8 hn) kn_290 d_11_find_61 ?_
            refine jg_aload (pc := 64) X d_11_find_64 3 rfl ?_
            refine jgfN_10_1 (pc := 66) X tv5 kn_275 d_11_find_66 ?_
            refine jg_iload (pc := 69) X d_11_find_69 4 rfl ?_
            refine jg_pcallVi (pc := 71) X (m_6_at (jc_vi_1 hn tv5) rv6 hw h) jM_6_at kw_372 (jc_vi_1 hn tv5) rfl rfl rfl rfl rfl (Nat.le_of_ble_eq_true rfl) d_11_find_71 ⟨(Nat.le_of_ble_eq_true rfl), (Nat.le_of_ble_eq_true rfl)⟩ ⟨(Nat.le_of_ble_eq_true rfl), (Nat.le_of_ble_eq_true rfl)⟩ (fun x21 r23 h => ?_)
            refine jg_iload_n (pc := 74) X d_11_find_74 1 rfl ?_
            refine jg_pcallVi (pc := 75) X (m_7_valueAt (jl_36_7 hn) r23 rv2 hw h) jM_7_valueAt kw_930 (jl_36_7 hn) rfl rfl rfl rfl rfl (Nat.le_of_ble_eq_true rfl) d_11_find_75 ⟨(Nat.le_of_ble_eq_true rfl), (Nat.le_of_ble_eq_true rfl)⟩ ⟨(Nat.le_of_ble_eq_true rfl), (Nat.le_of_ble_eq_true rfl)⟩ (fun x25 r27 h => ?_)
            refine jg_iload_n (pc := 78) X d_11_find_78 2 rfl ?_
            refine jg_icmp_ne (tgt := 85) (pc := 79) X d_11_find_79 (by decide) r27 rv3 h (fun c29 h => ?_) (fun c29 h => ?_)
            · refine jg_iload (pc := 82) X d_11_find_82 4 rfl ?_
              refine jg_ret_x ?_
              exact jg_ireturn (pc := 84) X hAe hlocks hr d_11_find_84 ⟨(Nat.le_of_ble_eq_true rfl), (Nat.le_of_ble_eq_true rfl)⟩ rfl rv6 hw ⟨rfl, h⟩
            · refine jg_iinc (pc := 85) X [(6, jI (v6 + 1)), (0, jr Z 0), (2, jI v2), (3, jI v3), (5, jr Z v5)] d_11_find_85 4 rfl (by decide) rfl ?_
              refine jg_goto (tgt := 44) (pc := 88) X d_11_find_88 (by decide) ?_
              have r30 : jRng (v6 + 1) := by (unfold jRng; exact ⟨by (have z0 : jRng v6 := rv6; have z1 : jRng x16 := r18; unfold jRng at z0 z1; omega), by (have z0 : jRng v6 := rv6; have z1 : jRng x16 := r18; unfold jRng at z0 z1; omega)⟩)
              refine jg_sub [1, 2, 3, 4, 0] rfl ?_
              exact ih44 _ r30 h
      obtain ⟨N, h⟩ := h
      refine jg_sub [2, 4, 5, 1, 0] rfl ?_
      exact jl44 _ t5 N _ rv4 h
set_option maxHeartbeats 4000000 in
set_option maxRecDepth 100000 in
theorem m_3_partOf {l : Launch} {Z : jE} {n : Nat} {C : jC} {v0 : Int} {v1 : Int} {v2 : Int} {post : Int → Prop} (tv0 : jT n v0 3) (rv1 : jRng v1) (rv2 : jRng v2) (hw0 : jWF n C) (h : wp_3_partOf v0 v1 v2 C post) : jCi l y_3_partOf prog_5_method_3_code 3 (.int) q_3_partOf Z n C [jr Z v0, jI v1, jI v2] (fun x C9 => C9 = C ∧ post x) := by
  have hn := hw0.2.2.1
  unfold wp_3_partOf at h
  refine jCi_of (lv0 := [(0, jr Z v0), (1, jI v1), (2, jI v2)]) (by decide) (Nat.le_of_ble_eq_true rfl) rfl ?_
  intro p e s m args below meth c A sz X hAe hr hlocks
  refine jg_iload_n (pc := 0) X d_3_partOf_0 1 rfl ?_
  refine jg_if_lt (tgt := 21) (pc := 1) X d_3_partOf_1 (by decide) rv1 h (fun c1 h => ?_) (fun c1 h => ?_)
  · refine jg_iconst (pc := 21) X d_3_partOf_21 ?_
    exact jg_ireturn (pc := 22) X hAe hlocks hr d_3_partOf_22 ⟨(Nat.le_of_ble_eq_true rfl), (Nat.le_of_ble_eq_true rfl)⟩ rfl (⟨by decide, by decide⟩ : jRng (-1)) hw0 ⟨rfl, h⟩
  · refine jg_iload_n (pc := 4) X d_3_partOf_4 1 rfl ?_
    refine jg_aload_n (pc := 5) X d_3_partOf_5 0 rfl ?_
    refine jgf_3_2 (pc := 6) X tv0 kw_220 d_3_partOf_6 ?_
    refine jg_icmp_ge (tgt := 21) (pc := 9) X d_3_partOf_9 (by decide) rv1 (hw0.1 _ _) h (fun c2 h => ?_) (fun c2 h => ?_)
    · have c2 : (C v0 2) ≤ v1 := c2
      refine jg_iconst (pc := 21) X d_3_partOf_21 ?_
      exact jg_ireturn (pc := 22) X hAe hlocks hr d_3_partOf_22 ⟨(Nat.le_of_ble_eq_true rfl), (Nat.le_of_ble_eq_true rfl)⟩ rfl (⟨by decide, by decide⟩ : jRng (-1)) hw0 ⟨rfl, h⟩
    · have c2 : ¬ ((C v0 2) ≤ v1) := c2
      refine jg_iload_n (pc := 12) X d_3_partOf_12 2 rfl ?_
      refine jg_if_lt (tgt := 21) (pc := 13) X d_3_partOf_13 (by decide) rv2 h (fun c3 h => ?_) (fun c3 h => ?_)
      · refine jg_iconst (pc := 21) X d_3_partOf_21 ?_
        exact jg_ireturn (pc := 22) X hAe hlocks hr d_3_partOf_22 ⟨(Nat.le_of_ble_eq_true rfl), (Nat.le_of_ble_eq_true rfl)⟩ rfl (⟨by decide, by decide⟩ : jRng (-1)) hw0 ⟨rfl, h⟩
      · refine jg_iload_n (pc := 16) X d_3_partOf_16 2 rfl ?_
        refine jg_iconst (pc := 17) X d_3_partOf_17 ?_
        refine jg_icmp_lt (tgt := 23) (pc := 18) X d_3_partOf_18 (by decide) rv2 (⟨by decide, by decide⟩ : jRng 5) h (fun c4 h => ?_) (fun c4 h => ?_)
        · refine jg_aload_n (pc := 23) X d_3_partOf_23 0 rfl ?_
          refine jgf_3_0 (pc := 24) X tv0 kw_218 d_3_partOf_24 ?_
          refine jg_aload_n (pc := 27) X d_3_partOf_27 0 rfl ?_
          refine jgf_3_1 (pc := 28) X tv0 kw_219 d_3_partOf_28 ?_
          refine jg_iconst (pc := 31) X d_3_partOf_31 ?_
          refine jg_isub (pc := 32) X d_3_partOf_32 ?_
          refine jg_iload_n (pc := 33) X d_3_partOf_33 1 rfl ?_
          refine jg_isub (pc := 34) X d_3_partOf_34 ?_
          refine jg_bipush (pc := 35) X d_3_partOf_35 rfl ?_
          obtain ⟨r5, h⟩ := h
          have r6 : jRng ((((C v0 1) - 1) - v1) % 40) := by (unfold jRng; omega)
          refine jg_floorMod (pc := 37) X kw_1460 d_3_partOf_37 hw0 r5 (by decide) (by decide) (Nat.le_of_ble_eq_true rfl) ⟨(Nat.le_of_ble_eq_true rfl), (Nat.le_of_ble_eq_true rfl)⟩ ⟨(Nat.le_of_ble_eq_true rfl), (Nat.le_of_ble_eq_true rfl)⟩ ?_
          refine jg_iconst (pc := 40) X d_3_partOf_40 ?_
          refine jg_imul (pc := 41) X d_3_partOf_41 ?_
          refine jg_iload_n (pc := 42) X d_3_partOf_42 2 rfl ?_
          refine jg_iadd (pc := 43) X d_3_partOf_43 ?_
          have b7 : 0 ≤ ((((((C v0 1) - 1) - v1) % 40) * 5) + v2) := by (have z0 : jRng ((((C v0 1) - 1) - v1) % 40) := r6; have z1 : jRng (((C v0 1) - 1) - v1) := r5; have z2 : jRng v1 := rv1; have z3 : jRng (C v0 2) := (hw0.1 _ _); have z4 : jRng v2 := rv2; unfold jRng at z0 z1 z2 z3 z4; omega)
          have b8 : ((((((C v0 1) - 1) - v1) % 40) * 5) + v2) < 200 := by (have z0 : jRng ((((C v0 1) - 1) - v1) % 40) := r6; have z1 : jRng (((C v0 1) - 1) - v1) := r5; have z2 : jRng v1 := rv1; have z3 : jRng (C v0 2) := (hw0.1 _ _); have z4 : jRng v2 := rv2; unfold jRng at z0 z1 z2 z3 z4; omega)
          refine jg_iaload (len := 200) (pc := 44) X d_3_partOf_44 (jc_lo_0 hn tv0) (fun _ => rfl) (by decide) b7 b8 ?_
          exact jg_ireturn (pc := 45) X hAe hlocks hr d_3_partOf_45 ⟨(Nat.le_of_ble_eq_true rfl), (Nat.le_of_ble_eq_true rfl)⟩ rfl (hw0.1 _ _) hw0 ⟨rfl, h⟩
        · refine jg_iconst (pc := 21) X d_3_partOf_21 ?_
          exact jg_ireturn (pc := 22) X hAe hlocks hr d_3_partOf_22 ⟨(Nat.le_of_ble_eq_true rfl), (Nat.le_of_ble_eq_true rfl)⟩ rfl (⟨by decide, by decide⟩ : jRng (-1)) hw0 ⟨rfl, h⟩
set_option maxHeartbeats 4000000 in
set_option maxRecDepth 100000 in
theorem m_11_log {l : Launch} {Z : jE} {n : Nat} {C : jC} {v1 : Int} {v2 : Int} {ex : String → jC → Prop} {post : Int → Prop} (rv1 : jRng v1) (rv2 : jRng v2) (hw0 : jWF n C) (h : wp_11_log v1 v2 C ex post) : jXi l y_11_log prog_1_method_43_code 3 (.int) q_11_log Z n C [jr Z 0, jI v1, jI v2] ex (fun x C9 => C9 = C ∧ post x) := by
  have hn := hw0.2.2.1
  unfold wp_11_log at h
  refine jXi_of (lv0 := [(0, jr Z 0), (1, jI v1), (2, jI v2)]) (by decide) (Nat.le_of_ble_eq_true rfl) rfl ?_
  intro p e s m args below meth c A sz X hAe hr hlocks htab
  refine jg_iload_n (pc := 0) X d_11_log_0 2 rfl ?_
  refine jg_if_lt (tgt := 9) (pc := 1) X d_11_log_1 (by decide) rv2 h (fun c1 h => ?_) (fun c1 h => ?_)
  · exact jg_throw (pc := 9) X hAe htab hlocks (by decide) kw_958 kw_25 th_153 tg_153 d_11_log_9 d_11_log_12 d_11_log_13 d_11_log_16 ⟨(Nat.le_of_ble_eq_true rfl), (Nat.le_of_ble_eq_true rfl), (Nat.le_of_ble_eq_true rfl), (Nat.le_of_ble_eq_true rfl)⟩ ⟨(Nat.le_of_ble_eq_true rfl), (Nat.le_of_ble_eq_true rfl)⟩ hw0 h
  · refine jg_iload_n (pc := 4) X d_11_log_4 2 rfl ?_
    refine jg_iconst (pc := 5) X d_11_log_5 ?_
    refine jg_icmp_lt (tgt := 17) (pc := 6) X d_11_log_6 (by decide) rv2 (⟨by decide, by decide⟩ : jRng 5) h (fun c2 h => ?_) (fun c2 h => ?_)
    · refine jg_aload_n (pc := 17) X d_11_log_17 0 rfl ?_
      refine jgf_11_2 (pc := 18) X (jl_0_11 hn) kw_338 d_11_log_18 ?_
      refine jgfN_8_2 (pc := 21) X (jl_35_8 hn) kn_294 d_11_log_21 ?_
      refine jg_iload_n (pc := 24) X d_11_log_24 1 rfl ?_
      refine jg_iload_n (pc := 25) X d_11_log_25 2 rfl ?_
      refine jg_pcallVi (pc := 26) X (m_3_partOf (jl_44_3 hn) rv1 rv2 hw0 h) jM_3_partOf kw_1456 (jl_44_3 hn) rfl rfl rfl rfl rfl (Nat.le_of_ble_eq_true rfl) d_11_log_26 ⟨(Nat.le_of_ble_eq_true rfl), (Nat.le_of_ble_eq_true rfl)⟩ ⟨(Nat.le_of_ble_eq_true rfl), (Nat.le_of_ble_eq_true rfl)⟩ (fun x3 r5 h => ?_)
      refine jg_ret_x ?_
      exact jg_ireturn (pc := 29) X hAe hlocks hr d_11_log_29 ⟨(Nat.le_of_ble_eq_true rfl), (Nat.le_of_ble_eq_true rfl)⟩ rfl r5 hw0 ⟨rfl, h⟩
    · exact jg_throw (pc := 9) X hAe htab hlocks (by decide) kw_958 kw_25 th_153 tg_153 d_11_log_9 d_11_log_12 d_11_log_13 d_11_log_16 ⟨(Nat.le_of_ble_eq_true rfl), (Nat.le_of_ble_eq_true rfl), (Nat.le_of_ble_eq_true rfl), (Nat.le_of_ble_eq_true rfl)⟩ ⟨(Nat.le_of_ble_eq_true rfl), (Nat.le_of_ble_eq_true rfl)⟩ hw0 h
set_option maxHeartbeats 4000000 in
set_option maxRecDepth 100000 in
theorem m_12_thrown {l : Launch} {Z : jE} {n : Nat} {C : jC}  {post : Int → Prop}  (hw0 : jWF n C) (h : wp_12_thrown C post) : jCi l y_12_thrown prog_14_method_1_code 1 (.int) q_12_thrown Z n C [jr Z 345] (fun x C9 => C9 = C ∧ post x) := by
  have hn := hw0.2.2.1
  unfold wp_12_thrown at h
  refine jCi_of (lv0 := [(0, jr Z 345)]) (by decide) (Nat.le_of_ble_eq_true rfl) rfl ?_
  intro p e s m args below meth c A sz X hAe hr hlocks
  refine jg_aload_n (pc := 0) X d_12_thrown_0 0 rfl ?_
  refine jgf_12_0 (pc := 1) X (jl_345_12 hn) kw_1473 d_12_thrown_1 ?_
  exact jg_ireturn (pc := 4) X hAe hlocks hr d_12_thrown_4 ⟨(Nat.le_of_ble_eq_true rfl), (Nat.le_of_ble_eq_true rfl)⟩ rfl (hw0.1 _ _) hw0 ⟨rfl, h⟩
set_option maxHeartbeats 4000000 in
set_option maxRecDepth 100000 in
theorem m_12_image {l : Launch} {Z : jE} {n : Nat} {C : jC}  {post : jC → Prop}  (hw0 : jWF n C) (h : wp_12_image C post) : jCv l y_12_image prog_14_method_6_code 2 q_12_image Z n C [jr Z 345] post := by
  have hn := hw0.2.2.1
  unfold wp_12_image at h
  refine jCv_of (lv0 := [(0, jr Z 345)]) (by decide) (Nat.le_of_ble_eq_true rfl) rfl ?_
  intro p e s m args below meth c A sz X hAe hr hlocks
  refine jg_aload_n (pc := 0) X d_12_image_0 0 rfl ?_
  refine jg_iconst (pc := 1) X d_12_image_1 ?_
  refine jgp_12_0 (pc := 2) X (jl_345_12 hn) kw_1473 d_12_image_2 ?_
  have w1 := jWF.u (k := 0) (v := 0) hw0 (jl_345_12 hn) (by decide) (⟨by decide, by decide⟩ : jRng 0)
  refine jg_iconst (pc := 5) X d_12_image_5 ?_
  refine jg_istore_n (pc := 6) X [(1, jI 0), (0, jr Z 345)] d_12_image_6 (by decide) rfl ?_
  have jl7 : ∀  (N : Nat) (v1 : Int) (C : jC) (rv1 : jRng v1) (hw : jWF n C), jI2 (wp_12_image_7  post) N v1 C → jG p l e q_12_image s m args below meth c 2 Z A (jws Z n C) 0 0 (MQ below (jQv Z n sz post) args s q_12_image.cells q_12_image.slots (jA Z n sz)) 7 [(0, jr Z 345), (1, jI v1)] [] := by
    intro   N
    have hn := hw0.2.2.1
    induction N with
    | zero => intro v1 C rv1 hw h; exact h.elim
    | succ N ih7 =>
      intro v1 C rv1 hw h
      have h : wp_12_image_7  post (jI2 (wp_12_image_7  post) N) v1 C := h
      generalize jI2 (wp_12_image_7  post) N = k7 at h ih7
      unfold wp_12_image_7 at h
      refine jg_iload_n (pc := 7) X d_12_image_7 1 rfl ?_
      refine jg_sipush (pc := 8) X d_12_image_8 rfl ?_
      refine jg_icmp_ge (tgt := 32) (pc := 11) X d_12_image_11 (by decide) rv1 (⟨by decide, by decide⟩ : jRng 8954) h (fun c2 h => ?_) (fun c2 h => ?_)
      · refine jg_aload_n (pc := 32) X d_12_image_32 0 rfl ?_
        refine jg_iconst (pc := 33) X d_12_image_33 ?_
        refine jgp_12_4 (pc := 34) X (jl_345_12 hn) kw_1477 d_12_image_34 ?_
        have w3 := jWF.u (k := 4) (v := 1) hw (jl_345_12 hn) (by decide) (⟨by decide, by decide⟩ : jRng 1)
        exact jg_return (pc := 37) X hAe hlocks hr d_12_image_37 ⟨(Nat.le_of_ble_eq_true rfl), (Nat.le_of_ble_eq_true rfl)⟩ w3 h
      · refine jg_aload_n (pc := 14) X d_12_image_14 0 rfl ?_
        refine jgf_12_2 (pc := 15) X (jl_345_12 hn) kw_1475 d_12_image_15 ?_
        refine jg_iload_n (pc := 18) X d_12_image_18 1 rfl ?_
        refine jg_aload_n (pc := 19) X d_12_image_19 0 rfl ?_
        refine jgf_12_1 (pc := 20) X (jl_345_12 hn) kw_1474 d_12_image_20 ?_
        refine jg_iload_n (pc := 23) X d_12_image_23 1 rfl ?_
        obtain ⟨b4, h⟩ := h
        have b5 : v1 < 8954 := by (have z0 : jRng v1 := rv1; unfold jRng at z0; omega)
        refine jg_iaload (len := 8954) (pc := 24) X d_12_image_24 (jl_346_9954 hn) (fun _ => rfl) (by decide) b4 b5 ?_
        have b6 : 0 ≤ v1 := by (have z0 : jRng v1 := rv1; unfold jRng at z0; omega)
        have b7 : v1 < 8954 := by (have z0 : jRng v1 := rv1; unfold jRng at z0; omega)
        refine jg_iastore (len := 8954) (pc := 25) X d_12_image_25 (jl_347_9954 hn) (fun _ => rfl) (by decide) b6 b7 ?_
        have w8 := jWF.u (k := v1) (v := (C 346 v1)) hw (jl_347_9954 hn) (by decide) (hw.1 _ _)
        refine jg_iinc (pc := 26) X [(1, jI (v1 + 1)), (0, jr Z 345)] d_12_image_26 1 rfl (by decide) rfl ?_
        refine jg_goto (tgt := 7) (pc := 29) X d_12_image_29 (by decide) ?_
        have r9 : jRng (v1 + 1) := by (unfold jRng; exact ⟨by (have z0 : jRng v1 := rv1; unfold jRng at z0; omega), by (have z0 : jRng v1 := rv1; unfold jRng at z0; omega)⟩)
        refine jg_sub [1, 0] rfl ?_
        exact ih7 _ _ r9 w8 h
  obtain ⟨N, h⟩ := h
  refine jg_sub [1, 0] rfl ?_
  exact jl7   N _ _ (⟨by decide, by decide⟩ : jRng 0) w1 h
set_option maxHeartbeats 4000000 in
set_option maxRecDepth 100000 in
theorem m_12_back {l : Launch} {Z : jE} {n : Nat} {C : jC}  {post : Int → jC → Prop}  (hw0 : jWF n C) (h : wp_12_back C post) : jCi l y_12_back prog_14_method_7_code 2 (.boolean) q_12_back Z n C [jr Z 345] post := by
  have hn := hw0.2.2.1
  unfold wp_12_back at h
  refine jCi_of (lv0 := [(0, jr Z 345)]) (by decide) (Nat.le_of_ble_eq_true rfl) rfl ?_
  intro p e s m args below meth c A sz X hAe hr hlocks
  refine jg_aload_n (pc := 0) X d_12_back_0 0 rfl ?_
  refine jg_iconst (pc := 1) X d_12_back_1 ?_
  refine jgp_12_0 (pc := 2) X (jl_345_12 hn) kw_1473 d_12_back_2 ?_
  have w1 := jWF.u (k := 0) (v := 0) hw0 (jl_345_12 hn) (by decide) (⟨by decide, by decide⟩ : jRng 0)
  refine jg_aload_n (pc := 5) X d_12_back_5 0 rfl ?_
  refine jgf_12_4 (pc := 6) X (jl_345_12 hn) kw_1477 d_12_back_6 ?_
  refine jg_if_ne (tgt := 14) (pc := 9) X d_12_back_9 (by decide) (w1.1 _ _) h (fun c2 h => ?_) (fun c2 h => ?_)
  · have c2 : ((jU C 345 0 0) 345 4) = 0 := c2
    refine jg_iconst (pc := 12) X d_12_back_12 ?_
    exact jg_ireturn (pc := 13) X hAe hlocks hr d_12_back_13 ⟨(Nat.le_of_ble_eq_true rfl), (Nat.le_of_ble_eq_true rfl)⟩ rfl (⟨by decide, by decide⟩ : jRng 0) w1 h
  · have c2 : ¬ (((jU C 345 0 0) 345 4) = 0) := c2
    refine jg_iconst (pc := 14) X d_12_back_14 ?_
    refine jg_istore_n (pc := 15) X [(1, jI 0), (0, jr Z 345)] d_12_back_15 (by decide) rfl ?_
    have jl16 : ∀  (N : Nat) (v1 : Int) (C : jC) (rv1 : jRng v1) (hw : jWF n C), jI2 (wp_12_back_16  post) N v1 C → jG p l e q_12_back s m args below meth c 2 Z A (jws Z n C) 0 0 (MQ below (jQi Z n sz post) args s q_12_back.cells q_12_back.slots (jA Z n sz)) 16 [(0, jr Z 345), (1, jI v1)] [] := by
      intro   N
      have hn := hw0.2.2.1
      induction N with
      | zero => intro v1 C rv1 hw h; exact h.elim
      | succ N ih16 =>
        intro v1 C rv1 hw h
        have h : wp_12_back_16  post (jI2 (wp_12_back_16  post) N) v1 C := h
        generalize jI2 (wp_12_back_16  post) N = k16 at h ih16
        unfold wp_12_back_16 at h
        refine jg_iload_n (pc := 16) X d_12_back_16 1 rfl ?_
        refine jg_sipush (pc := 17) X d_12_back_17 rfl ?_
        refine jg_icmp_ge (tgt := 41) (pc := 20) X d_12_back_20 (by decide) rv1 (⟨by decide, by decide⟩ : jRng 8954) h (fun c3 h => ?_) (fun c3 h => ?_)
        · refine jg_iconst (pc := 41) X d_12_back_41 ?_
          exact jg_ireturn (pc := 42) X hAe hlocks hr d_12_back_42 ⟨(Nat.le_of_ble_eq_true rfl), (Nat.le_of_ble_eq_true rfl)⟩ rfl (⟨by decide, by decide⟩ : jRng 1) hw h
        · refine jg_aload_n (pc := 23) X d_12_back_23 0 rfl ?_
          refine jgf_12_1 (pc := 24) X (jl_345_12 hn) kw_1474 d_12_back_24 ?_
          refine jg_iload_n (pc := 27) X d_12_back_27 1 rfl ?_
          refine jg_aload_n (pc := 28) X d_12_back_28 0 rfl ?_
          refine jgf_12_2 (pc := 29) X (jl_345_12 hn) kw_1475 d_12_back_29 ?_
          refine jg_iload_n (pc := 32) X d_12_back_32 1 rfl ?_
          obtain ⟨b4, h⟩ := h
          have b5 : v1 < 8954 := by (have z0 : jRng v1 := rv1; unfold jRng at z0; omega)
          refine jg_iaload (len := 8954) (pc := 33) X d_12_back_33 (jl_347_9954 hn) (fun _ => rfl) (by decide) b4 b5 ?_
          have b6 : 0 ≤ v1 := by (have z0 : jRng v1 := rv1; unfold jRng at z0; omega)
          have b7 : v1 < 8954 := by (have z0 : jRng v1 := rv1; unfold jRng at z0; omega)
          refine jg_iastore (len := 8954) (pc := 34) X d_12_back_34 (jl_346_9954 hn) (fun _ => rfl) (by decide) b6 b7 ?_
          have w8 := jWF.u (k := v1) (v := (C 347 v1)) hw (jl_346_9954 hn) (by decide) (hw.1 _ _)
          refine jg_iinc (pc := 35) X [(1, jI (v1 + 1)), (0, jr Z 345)] d_12_back_35 1 rfl (by decide) rfl ?_
          refine jg_goto (tgt := 16) (pc := 38) X d_12_back_38 (by decide) ?_
          have r9 : jRng (v1 + 1) := by (unfold jRng; exact ⟨by (have z0 : jRng v1 := rv1; unfold jRng at z0; omega), by (have z0 : jRng v1 := rv1; unfold jRng at z0; omega)⟩)
          refine jg_sub [1, 0] rfl ?_
          exact ih16 _ _ r9 w8 h
    obtain ⟨N, h⟩ := h
    refine jg_sub [1, 0] rfl ?_
    exact jl16   N _ _ (⟨by decide, by decide⟩ : jRng 0) w1 h
set_option maxHeartbeats 4000000 in
set_option maxRecDepth 100000 in
theorem m_12_feed {l : Launch} {Z : jE} {n : Nat} {C : jC} {v1 : Int} {v2 : Int} {v3 : Int} {v4 : Int} {v5 : Int} {post : Int → jC → Prop} (rv1 : jRng v1) (rv2 : jRng v2) (rv3 : jRng v3) (rv4 : jRng v4) (rv5 : jRng v5) (hw0 : jWF n C) (h : wp_12_feed v1 v2 v3 v4 v5 C post) : jCi l y_12_feed prog_14_method_27_code 7 (.int) q_12_feed Z n C [jr Z 345, jI v1, jI v2, jI v3, jI v4, jI v5] post := by
  have hn := hw0.2.2.1
  unfold wp_12_feed at h
  refine jCi_of (lv0 := [(0, jr Z 345), (1, jI v1), (2, jI v2), (3, jI v3), (4, jI v4), (5, jI v5)]) (by decide) (Nat.le_of_ble_eq_true rfl) rfl ?_
  intro p e s m args below meth c A sz X hAe hr hlocks
  refine jg_aload_n (pc := 0) X d_12_feed_0 0 rfl ?_
  refine jg_iconst (pc := 1) X d_12_feed_1 ?_
  refine jgp_12_0 (pc := 2) X (jl_345_12 hn) kw_1473 d_12_feed_2 ?_
  have w1 := jWF.u (k := 0) (v := 0) hw0 (jl_345_12 hn) (by decide) (⟨by decide, by decide⟩ : jRng 0)
  refine jg_aload_n (pc := 5) X d_12_feed_5 0 rfl ?_
  refine jgf_12_6 (pc := 6) X (jl_345_12 hn) kw_1479 d_12_feed_6 ?_
  refine jg_bipush (pc := 9) X d_12_feed_9 rfl ?_
  refine jg_iadd (pc := 11) X d_12_feed_11 ?_
  refine jg_sipush (pc := 12) X d_12_feed_12 rfl ?_
  obtain ⟨r2, h⟩ := h
  refine jg_icmp_le (tgt := 20) (pc := 15) X d_12_feed_15 (by decide) r2 (⟨by decide, by decide⟩ : jRng 400) h (fun c3 h => ?_) (fun c3 h => ?_)
  · have c3 : (((jU C 345 0 0) 345 6) + 20) ≤ 400 := c3
    refine jg_aload_n (pc := 20) X d_12_feed_20 0 rfl ?_
    refine jgf_12_12 (pc := 21) X (jl_345_12 hn) kw_1485 d_12_feed_21 ?_
    refine jg_iconst (pc := 24) X d_12_feed_24 ?_
    refine jg_iload_n (pc := 25) X d_12_feed_25 1 rfl ?_
    refine jg_iastore (len := 5) (pc := 26) X d_12_feed_26 (jl_350_1005 hn) (fun _ => rfl) (by decide) (by decide) (by decide) ?_
    have w6 := jWF.u (k := 0) (v := v1) w1 (jl_350_1005 hn) (by decide) rv1
    refine jg_aload_n (pc := 27) X d_12_feed_27 0 rfl ?_
    refine jgf_12_12 (pc := 28) X (jl_345_12 hn) kw_1485 d_12_feed_28 ?_
    refine jg_iconst (pc := 31) X d_12_feed_31 ?_
    refine jg_iload_n (pc := 32) X d_12_feed_32 2 rfl ?_
    refine jg_iastore (len := 5) (pc := 33) X d_12_feed_33 (jl_350_1005 hn) (fun _ => rfl) (by decide) (by decide) (by decide) ?_
    have w9 := jWF.u (k := 1) (v := v2) w6 (jl_350_1005 hn) (by decide) rv2
    refine jg_aload_n (pc := 34) X d_12_feed_34 0 rfl ?_
    refine jgf_12_12 (pc := 35) X (jl_345_12 hn) kw_1485 d_12_feed_35 ?_
    refine jg_iconst (pc := 38) X d_12_feed_38 ?_
    refine jg_iload_n (pc := 39) X d_12_feed_39 3 rfl ?_
    refine jg_iastore (len := 5) (pc := 40) X d_12_feed_40 (jl_350_1005 hn) (fun _ => rfl) (by decide) (by decide) (by decide) ?_
    have w12 := jWF.u (k := 2) (v := v3) w9 (jl_350_1005 hn) (by decide) rv3
    refine jg_aload_n (pc := 41) X d_12_feed_41 0 rfl ?_
    refine jgf_12_12 (pc := 42) X (jl_345_12 hn) kw_1485 d_12_feed_42 ?_
    refine jg_iconst (pc := 45) X d_12_feed_45 ?_
    refine jg_iload (pc := 46) X d_12_feed_46 4 rfl ?_
    refine jg_iastore (len := 5) (pc := 48) X d_12_feed_48 (jl_350_1005 hn) (fun _ => rfl) (by decide) (by decide) (by decide) ?_
    have w15 := jWF.u (k := 3) (v := v4) w12 (jl_350_1005 hn) (by decide) rv4
    refine jg_aload_n (pc := 49) X d_12_feed_49 0 rfl ?_
    refine jgf_12_12 (pc := 50) X (jl_345_12 hn) kw_1485 d_12_feed_50 ?_
    refine jg_iconst (pc := 53) X d_12_feed_53 ?_
    refine jg_iload (pc := 54) X d_12_feed_54 5 rfl ?_
    refine jg_iastore (len := 5) (pc := 56) X d_12_feed_56 (jl_350_1005 hn) (fun _ => rfl) (by decide) (by decide) (by decide) ?_
    have w18 := jWF.u (k := 4) (v := v5) w15 (jl_350_1005 hn) (by decide) rv5
    refine jg_iconst (pc := 57) X d_12_feed_57 ?_
    refine jg_istore (pc := 58) X [(6, jI 0), (0, jr Z 345), (1, jI v1), (2, jI v2), (3, jI v3), (4, jI v4), (5, jI v5)] d_12_feed_58 (by decide) rfl ?_
    have jl60 : ∀  (N : Nat) (v6 : Int) (C : jC) (rv6 : jRng v6) (hw : jWF n C), jI2 (wp_12_feed_60  post) N v6 C → jG p l e q_12_feed s m args below meth c 7 Z A (jws Z n C) 0 0 (MQ below (jQi Z n sz post) args s q_12_feed.cells q_12_feed.slots (jA Z n sz)) 60 [(0, jr Z 345), (6, jI v6)] [] := by
      intro   N
      have hn := hw0.2.2.1
      induction N with
      | zero => intro v6 C rv6 hw h; exact h.elim
      | succ N ih60 =>
        intro v6 C rv6 hw h
        have h : wp_12_feed_60  post (jI2 (wp_12_feed_60  post) N) v6 C := h
        generalize jI2 (wp_12_feed_60  post) N = k60 at h ih60
        unfold wp_12_feed_60 at h
        refine jg_iload (pc := 60) X d_12_feed_60 1 rfl ?_
        refine jg_bipush (pc := 62) X d_12_feed_62 rfl ?_
        refine jg_icmp_ge (tgt := 106) (pc := 64) X d_12_feed_64 (by decide) rv6 (⟨by decide, by decide⟩ : jRng 20) h (fun c19 h => ?_) (fun c19 h => ?_)
        · refine jg_aload_n (pc := 106) X d_12_feed_106 0 rfl ?_
          refine jg_dup (pc := 107) X d_12_feed_107 rfl ?_
          refine jgf_12_6 (pc := 108) X (jl_345_12 hn) kw_1479 d_12_feed_108 ?_
          refine jg_bipush (pc := 111) X d_12_feed_111 rfl ?_
          refine jg_iadd (pc := 113) X d_12_feed_113 ?_
          obtain ⟨r20, h⟩ := h
          refine jgp_12_6 (pc := 114) X (jl_345_12 hn) kw_1479 d_12_feed_114 ?_
          have w21 := jWF.u (k := 6) (v := ((C 345 6) + 20)) hw (jl_345_12 hn) (by decide) r20
          refine jg_aload_n (pc := 117) X d_12_feed_117 0 rfl ?_
          refine jgf_12_6 (pc := 118) X (jl_345_12 hn) kw_1479 d_12_feed_118 ?_
          exact jg_ireturn (pc := 121) X hAe hlocks hr d_12_feed_121 ⟨(Nat.le_of_ble_eq_true rfl), (Nat.le_of_ble_eq_true rfl)⟩ rfl (w21.1 _ _) w21 h
        · refine jg_aload_n (pc := 67) X d_12_feed_67 0 rfl ?_
          refine jgf_12_5 (pc := 68) X (jl_345_12 hn) kw_1478 d_12_feed_68 ?_
          refine jg_aload_n (pc := 71) X d_12_feed_71 0 rfl ?_
          refine jgf_12_6 (pc := 72) X (jl_345_12 hn) kw_1479 d_12_feed_72 ?_
          refine jg_iload (pc := 75) X d_12_feed_75 1 rfl ?_
          refine jg_iadd (pc := 77) X d_12_feed_77 ?_
          refine jg_aload_n (pc := 78) X d_12_feed_78 0 rfl ?_
          refine jgf_12_12 (pc := 79) X (jl_345_12 hn) kw_1485 d_12_feed_79 ?_
          refine jg_iload (pc := 82) X d_12_feed_82 1 rfl ?_
          refine jg_iconst (pc := 84) X d_12_feed_84 ?_
          have r22 : jRng (v6.tdiv 4) := jrng_tdiv rv6 (by decide) (by decide)
          refine jg_idiv (pc := 85) X d_12_feed_85 rv6 (by decide) (by decide) ?_
          obtain ⟨b23, b24, h⟩ := h
          refine jg_iaload (len := 5) (pc := 86) X d_12_feed_86 (jl_350_1005 hn) (fun _ => rfl) (by decide) b23 b24 ?_
          refine jg_bipush (pc := 87) X d_12_feed_87 rfl ?_
          refine jg_bipush (pc := 89) X d_12_feed_89 rfl ?_
          refine jg_iload (pc := 91) X d_12_feed_91 1 rfl ?_
          refine jg_iconst (pc := 93) X d_12_feed_93 ?_
          have r25 : jRng (v6.tmod 4) := jrng_tmod rv6 (by decide) (by decide)
          refine jg_irem (pc := 94) X d_12_feed_94 rv6 (by decide) (by decide) ?_
          refine jg_imul (pc := 95) X d_12_feed_95 ?_
          refine jg_isub (pc := 96) X d_12_feed_96 ?_
          refine jg_ishr (pc := 97) X d_12_feed_97 ?_
          refine jg_i2b (pc := 98) X d_12_feed_98 ?_
          obtain ⟨b26, b27, h⟩ := h
          refine jg_bastore (pc := 99) X d_12_feed_99 (jl_349_20 hn) b26 b27 ?_
          have w28 := jWF.u (k := ((C 345 6) + v6)) (v := (jByte (jByte (jShr (C 350 (v6.tdiv 4)) (24 - (8 * (v6.tmod 4))))))) hw (jl_349_20 hn) (by decide) (jByte_rng _)
          refine jg_iinc (pc := 100) X [(6, jI (v6 + 1)), (0, jr Z 345)] d_12_feed_100 1 rfl (by decide) rfl ?_
          refine jg_goto (tgt := 60) (pc := 103) X d_12_feed_103 (by decide) ?_
          have r29 : jRng (v6 + 1) := by (unfold jRng; exact ⟨by (have z0 : jRng v6 := rv6; unfold jRng at z0; omega), by (have z0 : jRng v6 := rv6; unfold jRng at z0; omega)⟩)
          refine jg_sub [1, 0] rfl ?_
          exact ih60 _ _ r29 w28 h
    obtain ⟨N, h⟩ := h
    refine jg_sub [1, 0] rfl ?_
    exact jl60   N _ _ (⟨by decide, by decide⟩ : jRng 0) w18 h
  · have c3 : ¬ ((((jU C 345 0 0) 345 6) + 20) ≤ 400) := c3
    refine jg_iconst (pc := 18) X d_12_feed_18 ?_
    exact jg_ireturn (pc := 19) X hAe hlocks hr d_12_feed_19 ⟨(Nat.le_of_ble_eq_true rfl), (Nat.le_of_ble_eq_true rfl)⟩ rfl (⟨by decide, by decide⟩ : jRng (-1)) w1 h

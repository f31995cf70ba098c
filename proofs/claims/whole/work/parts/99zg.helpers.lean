/-- what a helper of the law leaves: 0 and the answer in out, or the number of what was thrown; the model owes the same -/
def hP (cv : Int → Int64) (wpm : jC → (Int → jC → Prop) → Prop) (K : Int) (r : Int) (v : Nat) (C : jC) : Prop := (r = 0 ∧ ∃ x, jRng x ∧ Int64.ofNat v = cv x ∧ oR wpm K x C) ∨ (1 ≤ r ∧ r ≤ 4 ∧ oM wpm K r C)
def cvI (x : Int) : Int64 := (Int32.ofInt x).toInt64
def cvB (x : Int) : Int64 := if x = 0 then 0 else 1
set_option maxHeartbeats 4000000 in
set_option maxRecDepth 100000 in
theorem h_sheet {l : Launch} {Z : jE} {n : Nat} {C : jC} {K : Int} (hw0 : jWF n C) (h : rAll C K) (hK : K < 800000) : jH l y_L_sheet method_3_code 3 hh_sheet q_L_sheet Z n C [jr Z 0, jr Z 356] (hP cvI wp_12_sheet (K + 14)) := by
  have hn := hw0.2.2.1
  refine jH_of (lv0 := [(0, jr Z 0), (1, jr Z 356)]) (by decide) (Nat.le_of_ble_eq_true rfl) rfl ?_
  intro p e s m args below meth c A sz X hAe hr hlocks htab hN
  refine jg_aload_n (pc := 0) X d_L_sheet_0 1 rfl ?_
  refine jg_iconst (pc := 1) X d_L_sheet_1 ?_
  refine jg_aload_n (pc := 2) X d_L_sheet_2 0 rfl ?_
  refine jg_hcall (pc := 3) X (m_11_sheet hw0 (op_sheet h hK)) jM_11_sheet ky_453 (jl_0_11 hn) rfl rfl rfl rfl rfl (Nat.le_of_ble_eq_true rfl) d_L_sheet_3 ⟨Nat.le_of_ble_eq_true rfl, Nat.le_of_ble_eq_true rfl⟩ ⟨Nat.le_of_ble_eq_true rfl, Nat.le_of_ble_eq_true rfl⟩ (fun E C1 hw1 hE => ?_) (fun x C1 rx hw1 hp => ?_)
  · rcases hE with ⟨rfl, hE⟩ | ⟨rfl, hE⟩
    · refine ⟨[], ⟨0, 8, 11, 13⟩, [⟨0, 8, 14, 15⟩], htab, (fun z hz => by cases hz), by decide, by decide, ky_451, kn_614, fun q9 => ?_⟩
      refine jg_sastore_n (pc := 11) X [(2, .ref q9), (0, jr Z 0), (1, jr Z 356)] d_L_sheet_11 (by decide) rfl ?_
      refine jg_iconst (pc := 12) X d_L_sheet_12 ?_
      refine jg_ws (ws' := jws (jZo Z (jsV Z 5000)) n C1) (by rw [jZo_id]) ?_
      exact jg_hret (pc := 13) X hAe hlocks hr d_L_sheet_13 ⟨Nat.le_of_ble_eq_true rfl, Nat.le_of_ble_eq_true rfl⟩ ⟨by decide, by decide⟩ hw1 (Or.inr ⟨by decide, by decide, hE⟩)
    · refine ⟨[⟨0, 8, 11, 13⟩], ⟨0, 8, 14, 15⟩, [], htab, (fun z hz => by
          simp only [List.mem_cons, List.not_mem_nil, or_false] at hz
          rcases hz with rfl
          · exact ⟨by decide, jIAE, ky_451, hN _ (by decide +kernel) _ (by decide +kernel) (by decide +kernel)⟩), by decide, by decide, ky_452, kn_680, fun q9 => ?_⟩
      refine jg_sastore_n (pc := 14) X [(2, .ref q9), (0, jr Z 0), (1, jr Z 356)] d_L_sheet_14 (by decide) rfl ?_
      refine jg_iconst (pc := 15) X d_L_sheet_15 ?_
      refine jg_ws (ws' := jws (jZo Z (jsV Z 5000)) n C1) (by rw [jZo_id]) ?_
      exact jg_hret (pc := 16) X hAe hlocks hr d_L_sheet_16 ⟨Nat.le_of_ble_eq_true rfl, Nat.le_of_ble_eq_true rfl⟩ ⟨by decide, by decide⟩ hw1 (Or.inr ⟨by decide, by decide, hE⟩)
  · have hn1 := hw1.2.2.1
    refine jg_i2l (pc := 6) X d_L_sheet_6 ?_
    refine jg_lastO (pc := 7) X hn d_L_sheet_7 (fun v hv => ?_)
    refine jg_goto (tgt := 17) (pc := 8) X d_L_sheet_8 (by decide) ?_
    refine jg_iconst (pc := 17) X d_L_sheet_17 ?_
    exact jg_hret (pc := 18) X hAe hlocks hr d_L_sheet_18 ⟨Nat.le_of_ble_eq_true rfl, Nat.le_of_ble_eq_true rfl⟩ ⟨by decide, by decide⟩ hw1 (Or.inl ⟨rfl, x, rx, hv, hp⟩)
set_option maxHeartbeats 4000000 in
set_option maxRecDepth 100000 in
theorem h_view {l : Launch} {Z : jE} {n : Nat} {C : jC} {K : Int} {v1 : Int} (rv1 : jRng v1) (hw0 : jWF n C) (h : rAll C K) : jH l y_L_view method_4_code 4 hh_view q_L_view Z n C [jr Z 0, jI v1, jr Z 356] (hP cvI (wp_12_view v1) K) := by
  have hn := hw0.2.2.1
  refine jH_of (lv0 := [(0, jr Z 0), (1, jI v1), (2, jr Z 356)]) (by decide) (Nat.le_of_ble_eq_true rfl) rfl ?_
  intro p e s m args below meth c A sz X hAe hr hlocks htab hN
  refine jg_aload_n (pc := 0) X d_L_view_0 2 rfl ?_
  refine jg_iconst (pc := 1) X d_L_view_1 ?_
  refine jg_aload_n (pc := 2) X d_L_view_2 0 rfl ?_
  refine jg_iload_n (pc := 3) X d_L_view_3 1 rfl ?_
  refine jg_hcall (pc := 4) X (m_11_view rv1 hw0 (op_view h)) jM_11_view ky_767 (jl_0_11 hn) rfl rfl rfl rfl rfl (Nat.le_of_ble_eq_true rfl) d_L_view_4 ⟨Nat.le_of_ble_eq_true rfl, Nat.le_of_ble_eq_true rfl⟩ ⟨Nat.le_of_ble_eq_true rfl, Nat.le_of_ble_eq_true rfl⟩ (fun E C1 hw1 hE => ?_) (fun x C1 rx hw1 hp => ?_)
  · rcases hE with ⟨rfl, hE⟩ | ⟨rfl, hE⟩
    · refine ⟨[], ⟨0, 9, 12, 21⟩, [⟨0, 9, 15, 13⟩], htab, (fun z hz => by cases hz), by decide, by decide, ky_766, kn_778, fun q9 => ?_⟩
      refine jg_sastore_n (pc := 12) X [(3, .ref q9), (0, jr Z 0), (1, jI v1), (2, jr Z 356)] d_L_view_12 (by decide) rfl ?_
      refine jg_iconst (pc := 13) X d_L_view_13 ?_
      refine jg_ws (ws' := jws (jZo Z (jsV Z 5000)) n C1) (by rw [jZo_id]) ?_
      exact jg_hret (pc := 14) X hAe hlocks hr d_L_view_14 ⟨Nat.le_of_ble_eq_true rfl, Nat.le_of_ble_eq_true rfl⟩ ⟨by decide, by decide⟩ hw1 (Or.inr ⟨by decide, by decide, hE⟩)
    · refine ⟨[⟨0, 9, 12, 21⟩], ⟨0, 9, 15, 13⟩, [], htab, (fun z hz => by
          simp only [List.mem_cons, List.not_mem_nil, or_false] at hz
          rcases hz with rfl
          · exact ⟨by decide, jIOB, ky_766, hN _ (by decide +kernel) _ (by decide +kernel) (by decide +kernel)⟩), by decide, by decide, ky_451, kn_614, fun q9 => ?_⟩
      refine jg_sastore_n (pc := 15) X [(3, .ref q9), (0, jr Z 0), (1, jI v1), (2, jr Z 356)] d_L_view_15 (by decide) rfl ?_
      refine jg_iconst (pc := 16) X d_L_view_16 ?_
      refine jg_ws (ws' := jws (jZo Z (jsV Z 5000)) n C1) (by rw [jZo_id]) ?_
      exact jg_hret (pc := 17) X hAe hlocks hr d_L_view_17 ⟨Nat.le_of_ble_eq_true rfl, Nat.le_of_ble_eq_true rfl⟩ ⟨by decide, by decide⟩ hw1 (Or.inr ⟨by decide, by decide, hE⟩)
  · have hn1 := hw1.2.2.1
    refine jg_i2l (pc := 7) X d_L_view_7 ?_
    refine jg_lastO (pc := 8) X hn d_L_view_8 (fun v hv => ?_)
    refine jg_goto (tgt := 18) (pc := 9) X d_L_view_9 (by decide) ?_
    refine jg_iconst (pc := 18) X d_L_view_18 ?_
    exact jg_hret (pc := 19) X hAe hlocks hr d_L_view_19 ⟨Nat.le_of_ble_eq_true rfl, Nat.le_of_ble_eq_true rfl⟩ ⟨by decide, by decide⟩ hw1 (Or.inl ⟨rfl, x, rx, hv, hp⟩)
set_option maxHeartbeats 4000000 in
set_option maxRecDepth 100000 in
theorem h_kind {l : Launch} {Z : jE} {n : Nat} {C : jC} {K : Int} {v1 : Int} (rv1 : jRng v1) (hw0 : jWF n C) (h : rAll C K) : jH l y_L_kind method_5_code 4 hh_kind q_L_kind Z n C [jr Z 0, jI v1, jr Z 356] (hP cvI (wp_12_kind v1) K) := by
  have hn := hw0.2.2.1
  refine jH_of (lv0 := [(0, jr Z 0), (1, jI v1), (2, jr Z 356)]) (by decide) (Nat.le_of_ble_eq_true rfl) rfl ?_
  intro p e s m args below meth c A sz X hAe hr hlocks htab hN
  refine jg_aload_n (pc := 0) X d_L_kind_0 2 rfl ?_
  refine jg_iconst (pc := 1) X d_L_kind_1 ?_
  refine jg_aload_n (pc := 2) X d_L_kind_2 0 rfl ?_
  refine jg_iload_n (pc := 3) X d_L_kind_3 1 rfl ?_
  refine jg_hcall (pc := 4) X (m_11_kind rv1 hw0 (op_kind h)) jM_11_kind ky_900 (jl_0_11 hn) rfl rfl rfl rfl rfl (Nat.le_of_ble_eq_true rfl) d_L_kind_4 ⟨Nat.le_of_ble_eq_true rfl, Nat.le_of_ble_eq_true rfl⟩ ⟨Nat.le_of_ble_eq_true rfl, Nat.le_of_ble_eq_true rfl⟩ (fun E C1 hw1 hE => ?_) (fun x C1 rx hw1 hp => ?_)
  · obtain ⟨rfl, hE⟩ := hE
    refine ⟨[], ⟨0, 9, 12, 21⟩, [], htab, (fun z hz => by cases hz), by decide, by decide, ky_766, kn_778, fun q9 => ?_⟩
    refine jg_sastore_n (pc := 12) X [(3, .ref q9), (0, jr Z 0), (1, jI v1), (2, jr Z 356)] d_L_kind_12 (by decide) rfl ?_
    refine jg_iconst (pc := 13) X d_L_kind_13 ?_
    refine jg_ws (ws' := jws (jZo Z (jsV Z 5000)) n C1) (by rw [jZo_id]) ?_
    exact jg_hret (pc := 14) X hAe hlocks hr d_L_kind_14 ⟨Nat.le_of_ble_eq_true rfl, Nat.le_of_ble_eq_true rfl⟩ ⟨by decide, by decide⟩ hw1 (Or.inr ⟨by decide, by decide, hE⟩)
  · obtain ⟨rfl, hp⟩ := hp
    refine jg_i2l (pc := 7) X d_L_kind_7 ?_
    refine jg_lastO (pc := 8) X hn d_L_kind_8 (fun v hv => ?_)
    refine jg_goto (tgt := 15) (pc := 9) X d_L_kind_9 (by decide) ?_
    refine jg_iconst (pc := 15) X d_L_kind_15 ?_
    exact jg_hret (pc := 16) X hAe hlocks hr d_L_kind_16 ⟨Nat.le_of_ble_eq_true rfl, Nat.le_of_ble_eq_true rfl⟩ ⟨by decide, by decide⟩ hw1 (Or.inl ⟨rfl, x, rx, hv, hp⟩)
set_option maxHeartbeats 4000000 in
set_option maxRecDepth 100000 in
theorem h_cell {l : Launch} {Z : jE} {n : Nat} {C : jC} {K : Int} {v1 : Int} {v2 : Int} (rv1 : jRng v1) (rv2 : jRng v2) (hw0 : jWF n C) (h : rAll C K) : jH l y_L_cell method_6_code 5 hh_cell q_L_cell Z n C [jr Z 0, jI v1, jI v2, jr Z 356] (hP cvI (wp_12_cell v1 v2) K) := by
  have hn := hw0.2.2.1
  refine jH_of (lv0 := [(0, jr Z 0), (1, jI v1), (2, jI v2), (3, jr Z 356)]) (by decide) (Nat.le_of_ble_eq_true rfl) rfl ?_
  intro p e s m args below meth c A sz X hAe hr hlocks htab hN
  refine jg_aload_n (pc := 0) X d_L_cell_0 3 rfl ?_
  refine jg_iconst (pc := 1) X d_L_cell_1 ?_
  refine jg_aload_n (pc := 2) X d_L_cell_2 0 rfl ?_
  refine jg_iload_n (pc := 3) X d_L_cell_3 1 rfl ?_
  refine jg_iload_n (pc := 4) X d_L_cell_4 2 rfl ?_
  refine jg_hcall (pc := 5) X (m_11_cell rv1 rv2 hw0 (op_cell h)) jM_11_cell ky_916 (jl_0_11 hn) rfl rfl rfl rfl rfl (Nat.le_of_ble_eq_true rfl) d_L_cell_5 ⟨Nat.le_of_ble_eq_true rfl, Nat.le_of_ble_eq_true rfl⟩ ⟨Nat.le_of_ble_eq_true rfl, Nat.le_of_ble_eq_true rfl⟩ (fun E C1 hw1 hE => ?_) (fun x C1 rx hw1 hp => ?_)
  · obtain ⟨rfl, hE⟩ := hE
    refine ⟨[], ⟨0, 10, 13, 21⟩, [], htab, (fun z hz => by cases hz), by decide, by decide, ky_766, kn_778, fun q9 => ?_⟩
    refine jg_sastore (pc := 13) X [(4, .ref q9), (0, jr Z 0), (1, jI v1), (2, jI v2), (3, jr Z 356)] d_L_cell_13 (by decide) rfl ?_
    refine jg_iconst (pc := 15) X d_L_cell_15 ?_
    refine jg_ws (ws' := jws (jZo Z (jsV Z 5000)) n C1) (by rw [jZo_id]) ?_
    exact jg_hret (pc := 16) X hAe hlocks hr d_L_cell_16 ⟨Nat.le_of_ble_eq_true rfl, Nat.le_of_ble_eq_true rfl⟩ ⟨by decide, by decide⟩ hw1 (Or.inr ⟨by decide, by decide, hE⟩)
  · obtain ⟨rfl, hp⟩ := hp
    refine jg_i2l (pc := 8) X d_L_cell_8 ?_
    refine jg_lastO (pc := 9) X hn d_L_cell_9 (fun v hv => ?_)
    refine jg_goto (tgt := 17) (pc := 10) X d_L_cell_10 (by decide) ?_
    refine jg_iconst (pc := 17) X d_L_cell_17 ?_
    exact jg_hret (pc := 18) X hAe hlocks hr d_L_cell_18 ⟨Nat.le_of_ble_eq_true rfl, Nat.le_of_ble_eq_true rfl⟩ ⟨by decide, by decide⟩ hw1 (Or.inl ⟨rfl, x, rx, hv, hp⟩)
set_option maxHeartbeats 4000000 in
set_option maxRecDepth 100000 in
theorem h_row {l : Launch} {Z : jE} {n : Nat} {C : jC} {K : Int} {v1 : Int} {v2 : Int} (rv1 : jRng v1) (rv2 : jRng v2) (hw0 : jWF n C) (h : rAll C K) : jH l y_L_row method_7_code 5 hh_row q_L_row Z n C [jr Z 0, jI v1, jI v2, jr Z 356] (hP cvI (wp_12_row v1 v2) K) := by
  have hn := hw0.2.2.1
  refine jH_of (lv0 := [(0, jr Z 0), (1, jI v1), (2, jI v2), (3, jr Z 356)]) (by decide) (Nat.le_of_ble_eq_true rfl) rfl ?_
  intro p e s m args below meth c A sz X hAe hr hlocks htab hN
  refine jg_aload_n (pc := 0) X d_L_row_0 3 rfl ?_
  refine jg_iconst (pc := 1) X d_L_row_1 ?_
  refine jg_aload_n (pc := 2) X d_L_row_2 0 rfl ?_
  refine jg_iload_n (pc := 3) X d_L_row_3 1 rfl ?_
  refine jg_iload_n (pc := 4) X d_L_row_4 2 rfl ?_
  refine jg_hcall (pc := 5) X (m_11_row rv1 rv2 hw0 (op_row h)) jM_11_row ky_934 (jl_0_11 hn) rfl rfl rfl rfl rfl (Nat.le_of_ble_eq_true rfl) d_L_row_5 ⟨Nat.le_of_ble_eq_true rfl, Nat.le_of_ble_eq_true rfl⟩ ⟨Nat.le_of_ble_eq_true rfl, Nat.le_of_ble_eq_true rfl⟩ (fun E C1 hw1 hE => ?_) (fun x C1 rx hw1 hp => ?_)
  · obtain ⟨rfl, hE⟩ := hE
    refine ⟨[], ⟨0, 10, 13, 21⟩, [], htab, (fun z hz => by cases hz), by decide, by decide, ky_766, kn_778, fun q9 => ?_⟩
    refine jg_sastore (pc := 13) X [(4, .ref q9), (0, jr Z 0), (1, jI v1), (2, jI v2), (3, jr Z 356)] d_L_row_13 (by decide) rfl ?_
    refine jg_iconst (pc := 15) X d_L_row_15 ?_
    refine jg_ws (ws' := jws (jZo Z (jsV Z 5000)) n C1) (by rw [jZo_id]) ?_
    exact jg_hret (pc := 16) X hAe hlocks hr d_L_row_16 ⟨Nat.le_of_ble_eq_true rfl, Nat.le_of_ble_eq_true rfl⟩ ⟨by decide, by decide⟩ hw1 (Or.inr ⟨by decide, by decide, hE⟩)
  · obtain ⟨rfl, hp⟩ := hp
    refine jg_i2l (pc := 8) X d_L_row_8 ?_
    refine jg_lastO (pc := 9) X hn d_L_row_9 (fun v hv => ?_)
    refine jg_goto (tgt := 17) (pc := 10) X d_L_row_10 (by decide) ?_
    refine jg_iconst (pc := 17) X d_L_row_17 ?_
    exact jg_hret (pc := 18) X hAe hlocks hr d_L_row_18 ⟨Nat.le_of_ble_eq_true rfl, Nat.le_of_ble_eq_true rfl⟩ ⟨by decide, by decide⟩ hw1 (Or.inl ⟨rfl, x, rx, hv, hp⟩)
set_option maxHeartbeats 4000000 in
set_option maxRecDepth 100000 in
theorem h_place {l : Launch} {Z : jE} {n : Nat} {C : jC} {K : Int} {v1 : Int} {v2 : Int} (rv1 : jRng v1) (rv2 : jRng v2) (hw0 : jWF n C) (h : rAll C K) : jH l y_L_place method_8_code 5 hh_place q_L_place Z n C [jr Z 0, jI v1, jI v2, jr Z 356] (hP cvI (wp_12_place v1 v2) K) := by
  have hn := hw0.2.2.1
  refine jH_of (lv0 := [(0, jr Z 0), (1, jI v1), (2, jI v2), (3, jr Z 356)]) (by decide) (Nat.le_of_ble_eq_true rfl) rfl ?_
  intro p e s m args below meth c A sz X hAe hr hlocks htab hN
  refine jg_aload_n (pc := 0) X d_L_place_0 3 rfl ?_
  refine jg_iconst (pc := 1) X d_L_place_1 ?_
  refine jg_aload_n (pc := 2) X d_L_place_2 0 rfl ?_
  refine jg_iload_n (pc := 3) X d_L_place_3 1 rfl ?_
  refine jg_iload_n (pc := 4) X d_L_place_4 2 rfl ?_
  refine jg_hcall (pc := 5) X (m_11_place rv1 rv2 hw0 (op_place h)) jM_11_place ky_941 (jl_0_11 hn) rfl rfl rfl rfl rfl (Nat.le_of_ble_eq_true rfl) d_L_place_5 ⟨Nat.le_of_ble_eq_true rfl, Nat.le_of_ble_eq_true rfl⟩ ⟨Nat.le_of_ble_eq_true rfl, Nat.le_of_ble_eq_true rfl⟩ (fun E C1 hw1 hE => ?_) (fun x C1 rx hw1 hp => ?_)
  · obtain ⟨rfl, hE⟩ := hE
    refine ⟨[], ⟨0, 10, 13, 21⟩, [], htab, (fun z hz => by cases hz), by decide, by decide, ky_766, kn_778, fun q9 => ?_⟩
    refine jg_sastore (pc := 13) X [(4, .ref q9), (0, jr Z 0), (1, jI v1), (2, jI v2), (3, jr Z 356)] d_L_place_13 (by decide) rfl ?_
    refine jg_iconst (pc := 15) X d_L_place_15 ?_
    refine jg_ws (ws' := jws (jZo Z (jsV Z 5000)) n C1) (by rw [jZo_id]) ?_
    exact jg_hret (pc := 16) X hAe hlocks hr d_L_place_16 ⟨Nat.le_of_ble_eq_true rfl, Nat.le_of_ble_eq_true rfl⟩ ⟨by decide, by decide⟩ hw1 (Or.inr ⟨by decide, by decide, hE⟩)
  · obtain ⟨rfl, hp⟩ := hp
    refine jg_i2l (pc := 8) X d_L_place_8 ?_
    refine jg_lastO (pc := 9) X hn d_L_place_9 (fun v hv => ?_)
    refine jg_goto (tgt := 17) (pc := 10) X d_L_place_10 (by decide) ?_
    refine jg_iconst (pc := 17) X d_L_place_17 ?_
    exact jg_hret (pc := 18) X hAe hlocks hr d_L_place_18 ⟨Nat.le_of_ble_eq_true rfl, Nat.le_of_ble_eq_true rfl⟩ ⟨by decide, by decide⟩ hw1 (Or.inl ⟨rfl, x, rx, hv, hp⟩)
set_option maxHeartbeats 4000000 in
set_option maxRecDepth 100000 in
theorem h_about {l : Launch} {Z : jE} {n : Nat} {C : jC} {K : Int} {v1 : Int} {v2 : Int} (rv1 : jRng v1) (rv2 : jRng v2) (hw0 : jWF n C) (h : rAll C K) : jH l y_L_about method_9_code 5 hh_about q_L_about Z n C [jr Z 0, jI v1, jI v2, jr Z 356] (hP cvI (wp_12_about v1 v2) K) := by
  have hn := hw0.2.2.1
  refine jH_of (lv0 := [(0, jr Z 0), (1, jI v1), (2, jI v2), (3, jr Z 356)]) (by decide) (Nat.le_of_ble_eq_true rfl) rfl ?_
  intro p e s m args below meth c A sz X hAe hr hlocks htab hN
  refine jg_aload_n (pc := 0) X d_L_about_0 3 rfl ?_
  refine jg_iconst (pc := 1) X d_L_about_1 ?_
  refine jg_aload_n (pc := 2) X d_L_about_2 0 rfl ?_
  refine jg_iload_n (pc := 3) X d_L_about_3 1 rfl ?_
  refine jg_iload_n (pc := 4) X d_L_about_4 2 rfl ?_
  refine jg_hcall (pc := 5) X (m_11_about rv1 rv2 hw0 (op_about h)) jM_11_about ky_950 (jl_0_11 hn) rfl rfl rfl rfl rfl (Nat.le_of_ble_eq_true rfl) d_L_about_5 ⟨Nat.le_of_ble_eq_true rfl, Nat.le_of_ble_eq_true rfl⟩ ⟨Nat.le_of_ble_eq_true rfl, Nat.le_of_ble_eq_true rfl⟩ (fun E C1 hw1 hE => ?_) (fun x C1 rx hw1 hp => ?_)
  · rcases hE with ⟨rfl, hE⟩ | ⟨rfl, hE⟩
    · refine ⟨[], ⟨0, 10, 13, 21⟩, [⟨0, 10, 17, 39⟩], htab, (fun z hz => by cases hz), by decide, by decide, ky_766, kn_778, fun q9 => ?_⟩
      refine jg_sastore (pc := 13) X [(4, .ref q9), (0, jr Z 0), (1, jI v1), (2, jI v2), (3, jr Z 356)] d_L_about_13 (by decide) rfl ?_
      refine jg_iconst (pc := 15) X d_L_about_15 ?_
      refine jg_ws (ws' := jws (jZo Z (jsV Z 5000)) n C1) (by rw [jZo_id]) ?_
      exact jg_hret (pc := 16) X hAe hlocks hr d_L_about_16 ⟨Nat.le_of_ble_eq_true rfl, Nat.le_of_ble_eq_true rfl⟩ ⟨by decide, by decide⟩ hw1 (Or.inr ⟨by decide, by decide, hE⟩)
    · refine ⟨[⟨0, 10, 13, 21⟩], ⟨0, 10, 17, 39⟩, [], htab, (fun z hz => by
          simp only [List.mem_cons, List.not_mem_nil, or_false] at hz
          rcases hz with rfl
          · exact ⟨by decide, jIOB, ky_766, hN _ (by decide +kernel) _ (by decide +kernel) (by decide +kernel)⟩), by decide, by decide, ky_949, kn_960, fun q9 => ?_⟩
      refine jg_sastore (pc := 17) X [(4, .ref q9), (0, jr Z 0), (1, jI v1), (2, jI v2), (3, jr Z 356)] d_L_about_17 (by decide) rfl ?_
      refine jg_iconst (pc := 19) X d_L_about_19 ?_
      refine jg_ws (ws' := jws (jZo Z (jsV Z 5000)) n C1) (by rw [jZo_id]) ?_
      exact jg_hret (pc := 20) X hAe hlocks hr d_L_about_20 ⟨Nat.le_of_ble_eq_true rfl, Nat.le_of_ble_eq_true rfl⟩ ⟨by decide, by decide⟩ hw1 (Or.inr ⟨by decide, by decide, hE⟩)
  · obtain ⟨rfl, hp⟩ := hp
    refine jg_i2l (pc := 8) X d_L_about_8 ?_
    refine jg_lastO (pc := 9) X hn d_L_about_9 (fun v hv => ?_)
    refine jg_goto (tgt := 21) (pc := 10) X d_L_about_10 (by decide) ?_
    refine jg_iconst (pc := 21) X d_L_about_21 ?_
    exact jg_hret (pc := 22) X hAe hlocks hr d_L_about_22 ⟨Nat.le_of_ble_eq_true rfl, Nat.le_of_ble_eq_true rfl⟩ ⟨by decide, by decide⟩ hw1 (Or.inl ⟨rfl, x, rx, hv, hp⟩)
set_option maxHeartbeats 4000000 in
set_option maxRecDepth 100000 in
theorem h_sorts {l : Launch} {Z : jE} {n : Nat} {C : jC} {K : Int} {v1 : Int} {v2 : Int} (rv1 : jRng v1) (rv2 : jRng v2) (hw0 : jWF n C) (h : rAll C K) : jH l y_L_sorts method_10_code 5 hh_sorts q_L_sorts Z n C [jr Z 0, jI v1, jI v2, jr Z 356] (hP cvI (wp_12_sorts v1 v2) K) := by
  have hn := hw0.2.2.1
  refine jH_of (lv0 := [(0, jr Z 0), (1, jI v1), (2, jI v2), (3, jr Z 356)]) (by decide) (Nat.le_of_ble_eq_true rfl) rfl ?_
  intro p e s m args below meth c A sz X hAe hr hlocks htab hN
  refine jg_aload_n (pc := 0) X d_L_sorts_0 3 rfl ?_
  refine jg_iconst (pc := 1) X d_L_sorts_1 ?_
  refine jg_aload_n (pc := 2) X d_L_sorts_2 0 rfl ?_
  refine jg_iload_n (pc := 3) X d_L_sorts_3 1 rfl ?_
  refine jg_iload_n (pc := 4) X d_L_sorts_4 2 rfl ?_
  refine jg_hcall (pc := 5) X (m_11_sorts rv1 rv2 hw0 (op_sorts h)) jM_11_sorts ky_976 (jl_0_11 hn) rfl rfl rfl rfl rfl (Nat.le_of_ble_eq_true rfl) d_L_sorts_5 ⟨Nat.le_of_ble_eq_true rfl, Nat.le_of_ble_eq_true rfl⟩ ⟨Nat.le_of_ble_eq_true rfl, Nat.le_of_ble_eq_true rfl⟩ (fun E C1 hw1 hE => ?_) (fun x C1 rx hw1 hp => ?_)
  · obtain ⟨rfl, hE⟩ := hE
    refine ⟨[], ⟨0, 10, 13, 21⟩, [], htab, (fun z hz => by cases hz), by decide, by decide, ky_766, kn_778, fun q9 => ?_⟩
    refine jg_sastore (pc := 13) X [(4, .ref q9), (0, jr Z 0), (1, jI v1), (2, jI v2), (3, jr Z 356)] d_L_sorts_13 (by decide) rfl ?_
    refine jg_iconst (pc := 15) X d_L_sorts_15 ?_
    refine jg_ws (ws' := jws (jZo Z (jsV Z 5000)) n C1) (by rw [jZo_id]) ?_
    exact jg_hret (pc := 16) X hAe hlocks hr d_L_sorts_16 ⟨Nat.le_of_ble_eq_true rfl, Nat.le_of_ble_eq_true rfl⟩ ⟨by decide, by decide⟩ hw1 (Or.inr ⟨by decide, by decide, hE⟩)
  · obtain ⟨rfl, hp⟩ := hp
    refine jg_i2l (pc := 8) X d_L_sorts_8 ?_
    refine jg_lastO (pc := 9) X hn d_L_sorts_9 (fun v hv => ?_)
    refine jg_goto (tgt := 17) (pc := 10) X d_L_sorts_10 (by decide) ?_
    refine jg_iconst (pc := 17) X d_L_sorts_17 ?_
    exact jg_hret (pc := 18) X hAe hlocks hr d_L_sorts_18 ⟨Nat.le_of_ble_eq_true rfl, Nat.le_of_ble_eq_true rfl⟩ ⟨by decide, by decide⟩ hw1 (Or.inl ⟨rfl, x, rx, hv, hp⟩)
set_option maxHeartbeats 4000000 in
set_option maxRecDepth 100000 in
theorem h_set {l : Launch} {Z : jE} {n : Nat} {C : jC} {K : Int} {v1 : Int} {v2 : Int} {v3 : Int} {v4 : Int} (rv1 : jRng v1) (rv2 : jRng v2) (rv3 : jRng v3) (rv4 : jRng v4) (hw0 : jWF n C) (h : rAll C K) : jH l y_L_set method_11_code 7 hh_set q_L_set Z n C [jr Z 0, jI v1, jI v2, jI v3, jI v4, jr Z 356] (hP cvI (wp_12_set v1 v2 v3 v4) K) := by
  have hn := hw0.2.2.1
  refine jH_of (lv0 := [(0, jr Z 0), (1, jI v1), (2, jI v2), (3, jI v3), (4, jI v4), (5, jr Z 356)]) (by decide) (Nat.le_of_ble_eq_true rfl) rfl ?_
  intro p e s m args below meth c A sz X hAe hr hlocks htab hN
  refine jg_aload (pc := 0) X d_L_set_0 5 rfl ?_
  refine jg_iconst (pc := 2) X d_L_set_2 ?_
  refine jg_aload_n (pc := 3) X d_L_set_3 0 rfl ?_
  refine jg_iload_n (pc := 4) X d_L_set_4 1 rfl ?_
  refine jg_iload_n (pc := 5) X d_L_set_5 2 rfl ?_
  refine jg_iload_n (pc := 6) X d_L_set_6 3 rfl ?_
  refine jg_iload (pc := 7) X d_L_set_7 4 rfl ?_
  refine jg_hcall (pc := 9) X (m_11_set rv1 rv2 rv3 rv4 hw0 (op_set h)) jM_11_set ky_985 (jl_0_11 hn) rfl rfl rfl rfl rfl (Nat.le_of_ble_eq_true rfl) d_L_set_9 ⟨Nat.le_of_ble_eq_true rfl, Nat.le_of_ble_eq_true rfl⟩ ⟨Nat.le_of_ble_eq_true rfl, Nat.le_of_ble_eq_true rfl⟩ (fun E C1 hw1 hE => ?_) (fun x C1 rx hw1 hp => ?_)
  · rcases hE with ⟨rfl, hE⟩ | ⟨rfl, hE⟩ | ⟨rfl, hE⟩
    · refine ⟨[], ⟨0, 14, 17, 21⟩, [⟨0, 14, 21, 48⟩, ⟨0, 14, 25, 13⟩], htab, (fun z hz => by cases hz), by decide, by decide, ky_766, kn_778, fun q9 => ?_⟩
      refine jg_sastore (pc := 17) X [(6, .ref q9), (0, jr Z 0), (1, jI v1), (2, jI v2), (3, jI v3), (4, jI v4), (5, jr Z 356)] d_L_set_17 (by decide) rfl ?_
      refine jg_iconst (pc := 19) X d_L_set_19 ?_
      refine jg_ws (ws' := jws (jZo Z (jsV Z 5000)) n C1) (by rw [jZo_id]) ?_
      exact jg_hret (pc := 20) X hAe hlocks hr d_L_set_20 ⟨Nat.le_of_ble_eq_true rfl, Nat.le_of_ble_eq_true rfl⟩ ⟨by decide, by decide⟩ hw1 (Or.inr ⟨by decide, by decide, hE⟩)
    · refine ⟨[⟨0, 14, 17, 21⟩], ⟨0, 14, 21, 48⟩, [⟨0, 14, 25, 13⟩], htab, (fun z hz => by
          simp only [List.mem_cons, List.not_mem_nil, or_false] at hz
          rcases hz with rfl
          · exact ⟨by decide, jIOB, ky_766, hN _ (by decide +kernel) _ (by decide +kernel) (by decide +kernel)⟩), by decide, by decide, ky_984, kn_1000, fun q9 => ?_⟩
      refine jg_sastore (pc := 21) X [(6, .ref q9), (0, jr Z 0), (1, jI v1), (2, jI v2), (3, jI v3), (4, jI v4), (5, jr Z 356)] d_L_set_21 (by decide) rfl ?_
      refine jg_iconst (pc := 23) X d_L_set_23 ?_
      refine jg_ws (ws' := jws (jZo Z (jsV Z 5000)) n C1) (by rw [jZo_id]) ?_
      exact jg_hret (pc := 24) X hAe hlocks hr d_L_set_24 ⟨Nat.le_of_ble_eq_true rfl, Nat.le_of_ble_eq_true rfl⟩ ⟨by decide, by decide⟩ hw1 (Or.inr ⟨by decide, by decide, hE⟩)
    · refine ⟨[⟨0, 14, 17, 21⟩, ⟨0, 14, 21, 48⟩], ⟨0, 14, 25, 13⟩, [], htab, (fun z hz => by
          simp only [List.mem_cons, List.not_mem_nil, or_false] at hz
          rcases hz with rfl | rfl
          · exact ⟨by decide, jIOB, ky_766, hN _ (by decide +kernel) _ (by decide +kernel) (by decide +kernel)⟩
          · exact ⟨by decide, jISE, ky_984, hN _ (by decide +kernel) _ (by decide +kernel) (by decide +kernel)⟩), by decide, by decide, ky_451, kn_614, fun q9 => ?_⟩
      refine jg_sastore (pc := 25) X [(6, .ref q9), (0, jr Z 0), (1, jI v1), (2, jI v2), (3, jI v3), (4, jI v4), (5, jr Z 356)] d_L_set_25 (by decide) rfl ?_
      refine jg_iconst (pc := 27) X d_L_set_27 ?_
      refine jg_ws (ws' := jws (jZo Z (jsV Z 5000)) n C1) (by rw [jZo_id]) ?_
      exact jg_hret (pc := 28) X hAe hlocks hr d_L_set_28 ⟨Nat.le_of_ble_eq_true rfl, Nat.le_of_ble_eq_true rfl⟩ ⟨by decide, by decide⟩ hw1 (Or.inr ⟨by decide, by decide, hE⟩)
  · have hn1 := hw1.2.2.1
    refine jg_i2l (pc := 12) X d_L_set_12 ?_
    refine jg_lastO (pc := 13) X hn d_L_set_13 (fun v hv => ?_)
    refine jg_goto (tgt := 29) (pc := 14) X d_L_set_14 (by decide) ?_
    refine jg_iconst (pc := 29) X d_L_set_29 ?_
    exact jg_hret (pc := 30) X hAe hlocks hr d_L_set_30 ⟨Nat.le_of_ble_eq_true rfl, Nat.le_of_ble_eq_true rfl⟩ ⟨by decide, by decide⟩ hw1 (Or.inl ⟨rfl, x, rx, hv, hp⟩)
set_option maxHeartbeats 4000000 in
set_option maxRecDepth 100000 in
theorem h_clear {l : Launch} {Z : jE} {n : Nat} {C : jC} {K : Int} {v1 : Int} {v2 : Int} {v3 : Int} (rv1 : jRng v1) (rv2 : jRng v2) (rv3 : jRng v3) (hw0 : jWF n C) (h : rAll C K) : jH l y_L_clear method_12_code 6 hh_clear q_L_clear Z n C [jr Z 0, jI v1, jI v2, jI v3, jr Z 356] (hP cvI (wp_12_clear v1 v2 v3) K) := by
  have hn := hw0.2.2.1
  refine jH_of (lv0 := [(0, jr Z 0), (1, jI v1), (2, jI v2), (3, jI v3), (4, jr Z 356)]) (by decide) (Nat.le_of_ble_eq_true rfl) rfl ?_
  intro p e s m args below meth c A sz X hAe hr hlocks htab hN
  refine jg_aload (pc := 0) X d_L_clear_0 4 rfl ?_
  refine jg_iconst (pc := 2) X d_L_clear_2 ?_
  refine jg_aload_n (pc := 3) X d_L_clear_3 0 rfl ?_
  refine jg_iload_n (pc := 4) X d_L_clear_4 1 rfl ?_
  refine jg_iload_n (pc := 5) X d_L_clear_5 2 rfl ?_
  refine jg_iload_n (pc := 6) X d_L_clear_6 3 rfl ?_
  refine jg_hcall (pc := 7) X (m_11_clear rv1 rv2 rv3 hw0 (op_clear h)) jM_11_clear ky_1060 (jl_0_11 hn) rfl rfl rfl rfl rfl (Nat.le_of_ble_eq_true rfl) d_L_clear_7 ⟨Nat.le_of_ble_eq_true rfl, Nat.le_of_ble_eq_true rfl⟩ ⟨Nat.le_of_ble_eq_true rfl, Nat.le_of_ble_eq_true rfl⟩ (fun E C1 hw1 hE => ?_) (fun x C1 rx hw1 hp => ?_)
  · rcases hE with ⟨rfl, hE⟩ | ⟨rfl, hE⟩
    · refine ⟨[], ⟨0, 12, 15, 21⟩, [⟨0, 12, 19, 48⟩], htab, (fun z hz => by cases hz), by decide, by decide, ky_766, kn_778, fun q9 => ?_⟩
      refine jg_sastore (pc := 15) X [(5, .ref q9), (0, jr Z 0), (1, jI v1), (2, jI v2), (3, jI v3), (4, jr Z 356)] d_L_clear_15 (by decide) rfl ?_
      refine jg_iconst (pc := 17) X d_L_clear_17 ?_
      refine jg_ws (ws' := jws (jZo Z (jsV Z 5000)) n C1) (by rw [jZo_id]) ?_
      exact jg_hret (pc := 18) X hAe hlocks hr d_L_clear_18 ⟨Nat.le_of_ble_eq_true rfl, Nat.le_of_ble_eq_true rfl⟩ ⟨by decide, by decide⟩ hw1 (Or.inr ⟨by decide, by decide, hE⟩)
    · refine ⟨[⟨0, 12, 15, 21⟩], ⟨0, 12, 19, 48⟩, [], htab, (fun z hz => by
          simp only [List.mem_cons, List.not_mem_nil, or_false] at hz
          rcases hz with rfl
          · exact ⟨by decide, jIOB, ky_766, hN _ (by decide +kernel) _ (by decide +kernel) (by decide +kernel)⟩), by decide, by decide, ky_984, kn_1000, fun q9 => ?_⟩
      refine jg_sastore (pc := 19) X [(5, .ref q9), (0, jr Z 0), (1, jI v1), (2, jI v2), (3, jI v3), (4, jr Z 356)] d_L_clear_19 (by decide) rfl ?_
      refine jg_iconst (pc := 21) X d_L_clear_21 ?_
      refine jg_ws (ws' := jws (jZo Z (jsV Z 5000)) n C1) (by rw [jZo_id]) ?_
      exact jg_hret (pc := 22) X hAe hlocks hr d_L_clear_22 ⟨Nat.le_of_ble_eq_true rfl, Nat.le_of_ble_eq_true rfl⟩ ⟨by decide, by decide⟩ hw1 (Or.inr ⟨by decide, by decide, hE⟩)
  · have hn1 := hw1.2.2.1
    refine jg_i2l (pc := 10) X d_L_clear_10 ?_
    refine jg_lastO (pc := 11) X hn d_L_clear_11 (fun v hv => ?_)
    refine jg_goto (tgt := 23) (pc := 12) X d_L_clear_12 (by decide) ?_
    refine jg_iconst (pc := 23) X d_L_clear_23 ?_
    exact jg_hret (pc := 24) X hAe hlocks hr d_L_clear_24 ⟨Nat.le_of_ble_eq_true rfl, Nat.le_of_ble_eq_true rfl⟩ ⟨by decide, by decide⟩ hw1 (Or.inl ⟨rfl, x, rx, hv, hp⟩)
set_option maxHeartbeats 4000000 in
set_option maxRecDepth 100000 in
theorem h_fill {l : Launch} {Z : jE} {n : Nat} {C : jC} {K : Int} {v1 : Int} {v2 : Int} {v3 : Int} {v4 : Int} (rv1 : jRng v1) (rv2 : jRng v2) (rv3 : jRng v3) (rv4 : jRng v4) (hw0 : jWF n C) (h : rAll C K) : jH l y_L_fill method_13_code 7 hh_fill q_L_fill Z n C [jr Z 0, jI v1, jI v2, jI v3, jI v4, jr Z 356] (hP cvI (wp_12_fill v1 v2 v3 v4) K) := by
  have hn := hw0.2.2.1
  refine jH_of (lv0 := [(0, jr Z 0), (1, jI v1), (2, jI v2), (3, jI v3), (4, jI v4), (5, jr Z 356)]) (by decide) (Nat.le_of_ble_eq_true rfl) rfl ?_
  intro p e s m args below meth c A sz X hAe hr hlocks htab hN
  refine jg_aload (pc := 0) X d_L_fill_0 5 rfl ?_
  refine jg_iconst (pc := 2) X d_L_fill_2 ?_
  refine jg_aload_n (pc := 3) X d_L_fill_3 0 rfl ?_
  refine jg_iload_n (pc := 4) X d_L_fill_4 1 rfl ?_
  refine jg_iload_n (pc := 5) X d_L_fill_5 2 rfl ?_
  refine jg_iload_n (pc := 6) X d_L_fill_6 3 rfl ?_
  refine jg_iload (pc := 7) X d_L_fill_7 4 rfl ?_
  refine jg_hcall (pc := 9) X (m_11_fill rv1 rv2 rv3 rv4 hw0 (op_fill h)) jM_11_fill ky_1068 (jl_0_11 hn) rfl rfl rfl rfl rfl (Nat.le_of_ble_eq_true rfl) d_L_fill_9 ⟨Nat.le_of_ble_eq_true rfl, Nat.le_of_ble_eq_true rfl⟩ ⟨Nat.le_of_ble_eq_true rfl, Nat.le_of_ble_eq_true rfl⟩ (fun E C1 hw1 hE => ?_) (fun x C1 rx hw1 hp => ?_)
  · rcases hE with ⟨rfl, hE⟩ | ⟨rfl, hE⟩ | ⟨rfl, hE⟩
    · refine ⟨[], ⟨0, 14, 17, 21⟩, [⟨0, 14, 21, 13⟩, ⟨0, 14, 25, 48⟩], htab, (fun z hz => by cases hz), by decide, by decide, ky_766, kn_778, fun q9 => ?_⟩
      refine jg_sastore (pc := 17) X [(6, .ref q9), (0, jr Z 0), (1, jI v1), (2, jI v2), (3, jI v3), (4, jI v4), (5, jr Z 356)] d_L_fill_17 (by decide) rfl ?_
      refine jg_iconst (pc := 19) X d_L_fill_19 ?_
      refine jg_ws (ws' := jws (jZo Z (jsV Z 5000)) n C1) (by rw [jZo_id]) ?_
      exact jg_hret (pc := 20) X hAe hlocks hr d_L_fill_20 ⟨Nat.le_of_ble_eq_true rfl, Nat.le_of_ble_eq_true rfl⟩ ⟨by decide, by decide⟩ hw1 (Or.inr ⟨by decide, by decide, hE⟩)
    · refine ⟨[⟨0, 14, 17, 21⟩], ⟨0, 14, 21, 13⟩, [⟨0, 14, 25, 48⟩], htab, (fun z hz => by
          simp only [List.mem_cons, List.not_mem_nil, or_false] at hz
          rcases hz with rfl
          · exact ⟨by decide, jIOB, ky_766, hN _ (by decide +kernel) _ (by decide +kernel) (by decide +kernel)⟩), by decide, by decide, ky_451, kn_614, fun q9 => ?_⟩
      refine jg_sastore (pc := 21) X [(6, .ref q9), (0, jr Z 0), (1, jI v1), (2, jI v2), (3, jI v3), (4, jI v4), (5, jr Z 356)] d_L_fill_21 (by decide) rfl ?_
      refine jg_iconst (pc := 23) X d_L_fill_23 ?_
      refine jg_ws (ws' := jws (jZo Z (jsV Z 5000)) n C1) (by rw [jZo_id]) ?_
      exact jg_hret (pc := 24) X hAe hlocks hr d_L_fill_24 ⟨Nat.le_of_ble_eq_true rfl, Nat.le_of_ble_eq_true rfl⟩ ⟨by decide, by decide⟩ hw1 (Or.inr ⟨by decide, by decide, hE⟩)
    · refine ⟨[⟨0, 14, 17, 21⟩, ⟨0, 14, 21, 13⟩], ⟨0, 14, 25, 48⟩, [], htab, (fun z hz => by
          simp only [List.mem_cons, List.not_mem_nil, or_false] at hz
          rcases hz with rfl | rfl
          · exact ⟨by decide, jIOB, ky_766, hN _ (by decide +kernel) _ (by decide +kernel) (by decide +kernel)⟩
          · exact ⟨by decide, jIAE, ky_451, hN _ (by decide +kernel) _ (by decide +kernel) (by decide +kernel)⟩), by decide, by decide, ky_984, kn_1000, fun q9 => ?_⟩
      refine jg_sastore (pc := 25) X [(6, .ref q9), (0, jr Z 0), (1, jI v1), (2, jI v2), (3, jI v3), (4, jI v4), (5, jr Z 356)] d_L_fill_25 (by decide) rfl ?_
      refine jg_iconst (pc := 27) X d_L_fill_27 ?_
      refine jg_ws (ws' := jws (jZo Z (jsV Z 5000)) n C1) (by rw [jZo_id]) ?_
      exact jg_hret (pc := 28) X hAe hlocks hr d_L_fill_28 ⟨Nat.le_of_ble_eq_true rfl, Nat.le_of_ble_eq_true rfl⟩ ⟨by decide, by decide⟩ hw1 (Or.inr ⟨by decide, by decide, hE⟩)
  · have hn1 := hw1.2.2.1
    refine jg_i2l (pc := 12) X d_L_fill_12 ?_
    refine jg_lastO (pc := 13) X hn d_L_fill_13 (fun v hv => ?_)
    refine jg_goto (tgt := 29) (pc := 14) X d_L_fill_14 (by decide) ?_
    refine jg_iconst (pc := 29) X d_L_fill_29 ?_
    exact jg_hret (pc := 30) X hAe hlocks hr d_L_fill_30 ⟨Nat.le_of_ble_eq_true rfl, Nat.le_of_ble_eq_true rfl⟩ ⟨by decide, by decide⟩ hw1 (Or.inl ⟨rfl, x, rx, hv, hp⟩)
set_option maxHeartbeats 4000000 in
set_option maxRecDepth 100000 in
theorem h_replace {l : Launch} {Z : jE} {n : Nat} {C : jC} {K : Int} {v1 : Int} {v2 : Int} {v3 : Int} {v4 : Int} (rv1 : jRng v1) (rv2 : jRng v2) (rv3 : jRng v3) (rv4 : jRng v4) (hw0 : jWF n C) (h : rAll C K) : jH l y_L_replace method_14_code 7 hh_replace q_L_replace Z n C [jr Z 0, jI v1, jI v2, jI v3, jI v4, jr Z 356] (hP cvI (wp_12_replace v1 v2 v3 v4) K) := by
  have hn := hw0.2.2.1
  refine jH_of (lv0 := [(0, jr Z 0), (1, jI v1), (2, jI v2), (3, jI v3), (4, jI v4), (5, jr Z 356)]) (by decide) (Nat.le_of_ble_eq_true rfl) rfl ?_
  intro p e s m args below meth c A sz X hAe hr hlocks htab hN
  refine jg_aload (pc := 0) X d_L_replace_0 5 rfl ?_
  refine jg_iconst (pc := 2) X d_L_replace_2 ?_
  refine jg_aload_n (pc := 3) X d_L_replace_3 0 rfl ?_
  refine jg_iload_n (pc := 4) X d_L_replace_4 1 rfl ?_
  refine jg_iload_n (pc := 5) X d_L_replace_5 2 rfl ?_
  refine jg_iload_n (pc := 6) X d_L_replace_6 3 rfl ?_
  refine jg_iload (pc := 7) X d_L_replace_7 4 rfl ?_
  refine jg_hcall (pc := 9) X (m_11_replace rv1 rv2 rv3 rv4 hw0 (op_replace h)) jM_11_replace ky_1075 (jl_0_11 hn) rfl rfl rfl rfl rfl (Nat.le_of_ble_eq_true rfl) d_L_replace_9 ⟨Nat.le_of_ble_eq_true rfl, Nat.le_of_ble_eq_true rfl⟩ ⟨Nat.le_of_ble_eq_true rfl, Nat.le_of_ble_eq_true rfl⟩ (fun E C1 hw1 hE => ?_) (fun x C1 rx hw1 hp => ?_)
  · rcases hE with ⟨rfl, hE⟩ | ⟨rfl, hE⟩ | ⟨rfl, hE⟩
    · refine ⟨[], ⟨0, 14, 17, 21⟩, [⟨0, 14, 21, 48⟩, ⟨0, 14, 25, 13⟩], htab, (fun z hz => by cases hz), by decide, by decide, ky_766, kn_778, fun q9 => ?_⟩
      refine jg_sastore (pc := 17) X [(6, .ref q9), (0, jr Z 0), (1, jI v1), (2, jI v2), (3, jI v3), (4, jI v4), (5, jr Z 356)] d_L_replace_17 (by decide) rfl ?_
      refine jg_iconst (pc := 19) X d_L_replace_19 ?_
      refine jg_ws (ws' := jws (jZo Z (jsV Z 5000)) n C1) (by rw [jZo_id]) ?_
      exact jg_hret (pc := 20) X hAe hlocks hr d_L_replace_20 ⟨Nat.le_of_ble_eq_true rfl, Nat.le_of_ble_eq_true rfl⟩ ⟨by decide, by decide⟩ hw1 (Or.inr ⟨by decide, by decide, hE⟩)
    · refine ⟨[⟨0, 14, 17, 21⟩], ⟨0, 14, 21, 48⟩, [⟨0, 14, 25, 13⟩], htab, (fun z hz => by
          simp only [List.mem_cons, List.not_mem_nil, or_false] at hz
          rcases hz with rfl
          · exact ⟨by decide, jIOB, ky_766, hN _ (by decide +kernel) _ (by decide +kernel) (by decide +kernel)⟩), by decide, by decide, ky_984, kn_1000, fun q9 => ?_⟩
      refine jg_sastore (pc := 21) X [(6, .ref q9), (0, jr Z 0), (1, jI v1), (2, jI v2), (3, jI v3), (4, jI v4), (5, jr Z 356)] d_L_replace_21 (by decide) rfl ?_
      refine jg_iconst (pc := 23) X d_L_replace_23 ?_
      refine jg_ws (ws' := jws (jZo Z (jsV Z 5000)) n C1) (by rw [jZo_id]) ?_
      exact jg_hret (pc := 24) X hAe hlocks hr d_L_replace_24 ⟨Nat.le_of_ble_eq_true rfl, Nat.le_of_ble_eq_true rfl⟩ ⟨by decide, by decide⟩ hw1 (Or.inr ⟨by decide, by decide, hE⟩)
    · refine ⟨[⟨0, 14, 17, 21⟩, ⟨0, 14, 21, 48⟩], ⟨0, 14, 25, 13⟩, [], htab, (fun z hz => by
          simp only [List.mem_cons, List.not_mem_nil, or_false] at hz
          rcases hz with rfl | rfl
          · exact ⟨by decide, jIOB, ky_766, hN _ (by decide +kernel) _ (by decide +kernel) (by decide +kernel)⟩
          · exact ⟨by decide, jISE, ky_984, hN _ (by decide +kernel) _ (by decide +kernel) (by decide +kernel)⟩), by decide, by decide, ky_451, kn_614, fun q9 => ?_⟩
      refine jg_sastore (pc := 25) X [(6, .ref q9), (0, jr Z 0), (1, jI v1), (2, jI v2), (3, jI v3), (4, jI v4), (5, jr Z 356)] d_L_replace_25 (by decide) rfl ?_
      refine jg_iconst (pc := 27) X d_L_replace_27 ?_
      refine jg_ws (ws' := jws (jZo Z (jsV Z 5000)) n C1) (by rw [jZo_id]) ?_
      exact jg_hret (pc := 28) X hAe hlocks hr d_L_replace_28 ⟨Nat.le_of_ble_eq_true rfl, Nat.le_of_ble_eq_true rfl⟩ ⟨by decide, by decide⟩ hw1 (Or.inr ⟨by decide, by decide, hE⟩)
  · have hn1 := hw1.2.2.1
    refine jg_i2l (pc := 12) X d_L_replace_12 ?_
    refine jg_lastO (pc := 13) X hn d_L_replace_13 (fun v hv => ?_)
    refine jg_goto (tgt := 29) (pc := 14) X d_L_replace_14 (by decide) ?_
    refine jg_iconst (pc := 29) X d_L_replace_29 ?_
    exact jg_hret (pc := 30) X hAe hlocks hr d_L_replace_30 ⟨Nat.le_of_ble_eq_true rfl, Nat.le_of_ble_eq_true rfl⟩ ⟨by decide, by decide⟩ hw1 (Or.inl ⟨rfl, x, rx, hv, hp⟩)
set_option maxHeartbeats 4000000 in
set_option maxRecDepth 100000 in
theorem h_swap {l : Launch} {Z : jE} {n : Nat} {C : jC} {K : Int} {v1 : Int} {v2 : Int} {v3 : Int} {v4 : Int} (rv1 : jRng v1) (rv2 : jRng v2) (rv3 : jRng v3) (rv4 : jRng v4) (hw0 : jWF n C) (h : rAll C K) : jH l y_L_swap method_15_code 7 hh_swap q_L_swap Z n C [jr Z 0, jI v1, jI v2, jI v3, jI v4, jr Z 356] (hP cvI (wp_12_swap v1 v2 v3 v4) K) := by
  have hn := hw0.2.2.1
  refine jH_of (lv0 := [(0, jr Z 0), (1, jI v1), (2, jI v2), (3, jI v3), (4, jI v4), (5, jr Z 356)]) (by decide) (Nat.le_of_ble_eq_true rfl) rfl ?_
  intro p e s m args below meth c A sz X hAe hr hlocks htab hN
  refine jg_aload (pc := 0) X d_L_swap_0 5 rfl ?_
  refine jg_iconst (pc := 2) X d_L_swap_2 ?_
  refine jg_aload_n (pc := 3) X d_L_swap_3 0 rfl ?_
  refine jg_iload_n (pc := 4) X d_L_swap_4 1 rfl ?_
  refine jg_iload_n (pc := 5) X d_L_swap_5 2 rfl ?_
  refine jg_iload_n (pc := 6) X d_L_swap_6 3 rfl ?_
  refine jg_iload (pc := 7) X d_L_swap_7 4 rfl ?_
  refine jg_hcall (pc := 9) X (m_11_swap rv1 rv2 rv3 rv4 hw0 (op_swap h)) jM_11_swap ky_1087 (jl_0_11 hn) rfl rfl rfl rfl rfl (Nat.le_of_ble_eq_true rfl) d_L_swap_9 ⟨Nat.le_of_ble_eq_true rfl, Nat.le_of_ble_eq_true rfl⟩ ⟨Nat.le_of_ble_eq_true rfl, Nat.le_of_ble_eq_true rfl⟩ (fun E C1 hw1 hE => ?_) (fun x C1 rx hw1 hp => ?_)
  · rcases hE with ⟨rfl, hE⟩ | ⟨rfl, hE⟩ | ⟨rfl, hE⟩
    · refine ⟨[], ⟨0, 14, 17, 21⟩, [⟨0, 14, 21, 13⟩, ⟨0, 14, 25, 48⟩], htab, (fun z hz => by cases hz), by decide, by decide, ky_766, kn_778, fun q9 => ?_⟩
      refine jg_sastore (pc := 17) X [(6, .ref q9), (0, jr Z 0), (1, jI v1), (2, jI v2), (3, jI v3), (4, jI v4), (5, jr Z 356)] d_L_swap_17 (by decide) rfl ?_
      refine jg_iconst (pc := 19) X d_L_swap_19 ?_
      refine jg_ws (ws' := jws (jZo Z (jsV Z 5000)) n C1) (by rw [jZo_id]) ?_
      exact jg_hret (pc := 20) X hAe hlocks hr d_L_swap_20 ⟨Nat.le_of_ble_eq_true rfl, Nat.le_of_ble_eq_true rfl⟩ ⟨by decide, by decide⟩ hw1 (Or.inr ⟨by decide, by decide, hE⟩)
    · refine ⟨[⟨0, 14, 17, 21⟩], ⟨0, 14, 21, 13⟩, [⟨0, 14, 25, 48⟩], htab, (fun z hz => by
          simp only [List.mem_cons, List.not_mem_nil, or_false] at hz
          rcases hz with rfl
          · exact ⟨by decide, jIOB, ky_766, hN _ (by decide +kernel) _ (by decide +kernel) (by decide +kernel)⟩), by decide, by decide, ky_451, kn_614, fun q9 => ?_⟩
      refine jg_sastore (pc := 21) X [(6, .ref q9), (0, jr Z 0), (1, jI v1), (2, jI v2), (3, jI v3), (4, jI v4), (5, jr Z 356)] d_L_swap_21 (by decide) rfl ?_
      refine jg_iconst (pc := 23) X d_L_swap_23 ?_
      refine jg_ws (ws' := jws (jZo Z (jsV Z 5000)) n C1) (by rw [jZo_id]) ?_
      exact jg_hret (pc := 24) X hAe hlocks hr d_L_swap_24 ⟨Nat.le_of_ble_eq_true rfl, Nat.le_of_ble_eq_true rfl⟩ ⟨by decide, by decide⟩ hw1 (Or.inr ⟨by decide, by decide, hE⟩)
    · refine ⟨[⟨0, 14, 17, 21⟩, ⟨0, 14, 21, 13⟩], ⟨0, 14, 25, 48⟩, [], htab, (fun z hz => by
          simp only [List.mem_cons, List.not_mem_nil, or_false] at hz
          rcases hz with rfl | rfl
          · exact ⟨by decide, jIOB, ky_766, hN _ (by decide +kernel) _ (by decide +kernel) (by decide +kernel)⟩
          · exact ⟨by decide, jIAE, ky_451, hN _ (by decide +kernel) _ (by decide +kernel) (by decide +kernel)⟩), by decide, by decide, ky_984, kn_1000, fun q9 => ?_⟩
      refine jg_sastore (pc := 25) X [(6, .ref q9), (0, jr Z 0), (1, jI v1), (2, jI v2), (3, jI v3), (4, jI v4), (5, jr Z 356)] d_L_swap_25 (by decide) rfl ?_
      refine jg_iconst (pc := 27) X d_L_swap_27 ?_
      refine jg_ws (ws' := jws (jZo Z (jsV Z 5000)) n C1) (by rw [jZo_id]) ?_
      exact jg_hret (pc := 28) X hAe hlocks hr d_L_swap_28 ⟨Nat.le_of_ble_eq_true rfl, Nat.le_of_ble_eq_true rfl⟩ ⟨by decide, by decide⟩ hw1 (Or.inr ⟨by decide, by decide, hE⟩)
  · have hn1 := hw1.2.2.1
    refine jg_i2l (pc := 12) X d_L_swap_12 ?_
    refine jg_lastO (pc := 13) X hn d_L_swap_13 (fun v hv => ?_)
    refine jg_goto (tgt := 29) (pc := 14) X d_L_swap_14 (by decide) ?_
    refine jg_iconst (pc := 29) X d_L_swap_29 ?_
    exact jg_hret (pc := 30) X hAe hlocks hr d_L_swap_30 ⟨Nat.le_of_ble_eq_true rfl, Nat.le_of_ble_eq_true rfl⟩ ⟨by decide, by decide⟩ hw1 (Or.inl ⟨rfl, x, rx, hv, hp⟩)
set_option maxHeartbeats 4000000 in
set_option maxRecDepth 100000 in
theorem h_paste {l : Launch} {Z : jE} {n : Nat} {C : jC} {K : Int} {v1 : Int} {v2 : Int} {v3 : Int} (rv1 : jRng v1) (rv2 : jRng v2) (rv3 : jRng v3) (hw0 : jWF n C) (h : rAll C K) (hK : K < 800000) : jH l y_L_paste method_16_code 6 hh_paste q_L_paste Z n C [jr Z 0, jI v1, jI v2, jI v3, jr Z 356] (hP cvI (wp_12_paste v1 v2 v3) (K + 12)) := by
  have hn := hw0.2.2.1
  refine jH_of (lv0 := [(0, jr Z 0), (1, jI v1), (2, jI v2), (3, jI v3), (4, jr Z 356)]) (by decide) (Nat.le_of_ble_eq_true rfl) rfl ?_
  intro p e s m args below meth c A sz X hAe hr hlocks htab hN
  refine jg_aload (pc := 0) X d_L_paste_0 4 rfl ?_
  refine jg_iconst (pc := 2) X d_L_paste_2 ?_
  refine jg_aload_n (pc := 3) X d_L_paste_3 0 rfl ?_
  refine jg_iload_n (pc := 4) X d_L_paste_4 1 rfl ?_
  refine jg_iload_n (pc := 5) X d_L_paste_5 2 rfl ?_
  refine jg_iload_n (pc := 6) X d_L_paste_6 3 rfl ?_
  refine jg_hcall (pc := 7) X (m_11_paste rv1 rv2 rv3 hw0 (op_paste h hK)) jM_11_paste ky_1094 (jl_0_11 hn) rfl rfl rfl rfl rfl (Nat.le_of_ble_eq_true rfl) d_L_paste_7 ⟨Nat.le_of_ble_eq_true rfl, Nat.le_of_ble_eq_true rfl⟩ ⟨Nat.le_of_ble_eq_true rfl, Nat.le_of_ble_eq_true rfl⟩ (fun E C1 hw1 hE => ?_) (fun x C1 rx hw1 hp => ?_)
  · rcases hE with ⟨rfl, hE⟩ | ⟨rfl, hE⟩ | ⟨rfl, hE⟩ | ⟨rfl, hE⟩
    · refine ⟨[], ⟨0, 12, 15, 21⟩, [⟨0, 12, 19, 48⟩, ⟨0, 12, 23, 13⟩, ⟨0, 12, 27, 15⟩], htab, (fun z hz => by cases hz), by decide, by decide, ky_766, kn_778, fun q9 => ?_⟩
      refine jg_sastore (pc := 15) X [(5, .ref q9), (0, jr Z 0), (1, jI v1), (2, jI v2), (3, jI v3), (4, jr Z 356)] d_L_paste_15 (by decide) rfl ?_
      refine jg_iconst (pc := 17) X d_L_paste_17 ?_
      refine jg_ws (ws' := jws (jZo Z (jsV Z 5000)) n C1) (by rw [jZo_id]) ?_
      exact jg_hret (pc := 18) X hAe hlocks hr d_L_paste_18 ⟨Nat.le_of_ble_eq_true rfl, Nat.le_of_ble_eq_true rfl⟩ ⟨by decide, by decide⟩ hw1 (Or.inr ⟨by decide, by decide, hE⟩)
    · refine ⟨[⟨0, 12, 15, 21⟩], ⟨0, 12, 19, 48⟩, [⟨0, 12, 23, 13⟩, ⟨0, 12, 27, 15⟩], htab, (fun z hz => by
          simp only [List.mem_cons, List.not_mem_nil, or_false] at hz
          rcases hz with rfl
          · exact ⟨by decide, jIOB, ky_766, hN _ (by decide +kernel) _ (by decide +kernel) (by decide +kernel)⟩), by decide, by decide, ky_984, kn_1000, fun q9 => ?_⟩
      refine jg_sastore (pc := 19) X [(5, .ref q9), (0, jr Z 0), (1, jI v1), (2, jI v2), (3, jI v3), (4, jr Z 356)] d_L_paste_19 (by decide) rfl ?_
      refine jg_iconst (pc := 21) X d_L_paste_21 ?_
      refine jg_ws (ws' := jws (jZo Z (jsV Z 5000)) n C1) (by rw [jZo_id]) ?_
      exact jg_hret (pc := 22) X hAe hlocks hr d_L_paste_22 ⟨Nat.le_of_ble_eq_true rfl, Nat.le_of_ble_eq_true rfl⟩ ⟨by decide, by decide⟩ hw1 (Or.inr ⟨by decide, by decide, hE⟩)
    · refine ⟨[⟨0, 12, 15, 21⟩, ⟨0, 12, 19, 48⟩], ⟨0, 12, 23, 13⟩, [⟨0, 12, 27, 15⟩], htab, (fun z hz => by
          simp only [List.mem_cons, List.not_mem_nil, or_false] at hz
          rcases hz with rfl | rfl
          · exact ⟨by decide, jIOB, ky_766, hN _ (by decide +kernel) _ (by decide +kernel) (by decide +kernel)⟩
          · exact ⟨by decide, jISE, ky_984, hN _ (by decide +kernel) _ (by decide +kernel) (by decide +kernel)⟩), by decide, by decide, ky_451, kn_614, fun q9 => ?_⟩
      refine jg_sastore (pc := 23) X [(5, .ref q9), (0, jr Z 0), (1, jI v1), (2, jI v2), (3, jI v3), (4, jr Z 356)] d_L_paste_23 (by decide) rfl ?_
      refine jg_iconst (pc := 25) X d_L_paste_25 ?_
      refine jg_ws (ws' := jws (jZo Z (jsV Z 5000)) n C1) (by rw [jZo_id]) ?_
      exact jg_hret (pc := 26) X hAe hlocks hr d_L_paste_26 ⟨Nat.le_of_ble_eq_true rfl, Nat.le_of_ble_eq_true rfl⟩ ⟨by decide, by decide⟩ hw1 (Or.inr ⟨by decide, by decide, hE⟩)
    · refine ⟨[⟨0, 12, 15, 21⟩, ⟨0, 12, 19, 48⟩, ⟨0, 12, 23, 13⟩], ⟨0, 12, 27, 15⟩, [], htab, (fun z hz => by
          simp only [List.mem_cons, List.not_mem_nil, or_false] at hz
          rcases hz with rfl | rfl | rfl
          · exact ⟨by decide, jIOB, ky_766, hN _ (by decide +kernel) _ (by decide +kernel) (by decide +kernel)⟩
          · exact ⟨by decide, jISE, ky_984, hN _ (by decide +kernel) _ (by decide +kernel) (by decide +kernel)⟩
          · exact ⟨by decide, jIAE, ky_451, hN _ (by decide +kernel) _ (by decide +kernel) (by decide +kernel)⟩), by decide, by decide, ky_452, kn_680, fun q9 => ?_⟩
      refine jg_sastore (pc := 27) X [(5, .ref q9), (0, jr Z 0), (1, jI v1), (2, jI v2), (3, jI v3), (4, jr Z 356)] d_L_paste_27 (by decide) rfl ?_
      refine jg_iconst (pc := 29) X d_L_paste_29 ?_
      refine jg_ws (ws' := jws (jZo Z (jsV Z 5000)) n C1) (by rw [jZo_id]) ?_
      exact jg_hret (pc := 30) X hAe hlocks hr d_L_paste_30 ⟨Nat.le_of_ble_eq_true rfl, Nat.le_of_ble_eq_true rfl⟩ ⟨by decide, by decide⟩ hw1 (Or.inr ⟨by decide, by decide, hE⟩)
  · have hn1 := hw1.2.2.1
    refine jg_i2l (pc := 10) X d_L_paste_10 ?_
    refine jg_lastO (pc := 11) X hn d_L_paste_11 (fun v hv => ?_)
    refine jg_goto (tgt := 31) (pc := 12) X d_L_paste_12 (by decide) ?_
    refine jg_iconst (pc := 31) X d_L_paste_31 ?_
    exact jg_hret (pc := 32) X hAe hlocks hr d_L_paste_32 ⟨Nat.le_of_ble_eq_true rfl, Nat.le_of_ble_eq_true rfl⟩ ⟨by decide, by decide⟩ hw1 (Or.inl ⟨rfl, x, rx, hv, hp⟩)
set_option maxHeartbeats 4000000 in
set_option maxRecDepth 100000 in
theorem h_add {l : Launch} {Z : jE} {n : Nat} {C : jC} {K : Int} {v1 : Int} {v2 : Int} (rv1 : jRng v1) (rv2 : jRng v2) (hw0 : jWF n C) (h : rAll C K) (hK : K < 800000) : jH l y_L_add method_17_code 5 hh_add q_L_add Z n C [jr Z 0, jI v1, jI v2, jr Z 356] (hP cvI (wp_12_add v1 v2) (K + 1)) := by
  have hn := hw0.2.2.1
  refine jH_of (lv0 := [(0, jr Z 0), (1, jI v1), (2, jI v2), (3, jr Z 356)]) (by decide) (Nat.le_of_ble_eq_true rfl) rfl ?_
  intro p e s m args below meth c A sz X hAe hr hlocks htab hN
  refine jg_aload_n (pc := 0) X d_L_add_0 3 rfl ?_
  refine jg_iconst (pc := 1) X d_L_add_1 ?_
  refine jg_aload_n (pc := 2) X d_L_add_2 0 rfl ?_
  refine jg_iload_n (pc := 3) X d_L_add_3 1 rfl ?_
  refine jg_iload_n (pc := 4) X d_L_add_4 2 rfl ?_
  refine jg_hcall (pc := 5) X (m_11_add rv1 rv2 hw0 (op_add h (by omega))) jM_11_add ky_1124 (jl_0_11 hn) rfl rfl rfl rfl rfl (Nat.le_of_ble_eq_true rfl) d_L_add_5 ⟨Nat.le_of_ble_eq_true rfl, Nat.le_of_ble_eq_true rfl⟩ ⟨Nat.le_of_ble_eq_true rfl, Nat.le_of_ble_eq_true rfl⟩ (fun E C1 hw1 hE => ?_) (fun x C1 rx hw1 hp => ?_)
  · rcases hE with ⟨rfl, hE⟩ | ⟨rfl, hE⟩
    · refine ⟨[], ⟨0, 10, 13, 21⟩, [⟨0, 10, 17, 15⟩], htab, (fun z hz => by cases hz), by decide, by decide, ky_766, kn_778, fun q9 => ?_⟩
      refine jg_sastore (pc := 13) X [(4, .ref q9), (0, jr Z 0), (1, jI v1), (2, jI v2), (3, jr Z 356)] d_L_add_13 (by decide) rfl ?_
      refine jg_iconst (pc := 15) X d_L_add_15 ?_
      refine jg_ws (ws' := jws (jZo Z (jsV Z 5000)) n C1) (by rw [jZo_id]) ?_
      exact jg_hret (pc := 16) X hAe hlocks hr d_L_add_16 ⟨Nat.le_of_ble_eq_true rfl, Nat.le_of_ble_eq_true rfl⟩ ⟨by decide, by decide⟩ hw1 (Or.inr ⟨by decide, by decide, hE⟩)
    · refine ⟨[⟨0, 10, 13, 21⟩], ⟨0, 10, 17, 15⟩, [], htab, (fun z hz => by
          simp only [List.mem_cons, List.not_mem_nil, or_false] at hz
          rcases hz with rfl
          · exact ⟨by decide, jIOB, ky_766, hN _ (by decide +kernel) _ (by decide +kernel) (by decide +kernel)⟩), by decide, by decide, ky_452, kn_680, fun q9 => ?_⟩
      refine jg_sastore (pc := 17) X [(4, .ref q9), (0, jr Z 0), (1, jI v1), (2, jI v2), (3, jr Z 356)] d_L_add_17 (by decide) rfl ?_
      refine jg_iconst (pc := 19) X d_L_add_19 ?_
      refine jg_ws (ws' := jws (jZo Z (jsV Z 5000)) n C1) (by rw [jZo_id]) ?_
      exact jg_hret (pc := 20) X hAe hlocks hr d_L_add_20 ⟨Nat.le_of_ble_eq_true rfl, Nat.le_of_ble_eq_true rfl⟩ ⟨by decide, by decide⟩ hw1 (Or.inr ⟨by decide, by decide, hE⟩)
  · have hn1 := hw1.2.2.1
    refine jg_i2l (pc := 8) X d_L_add_8 ?_
    refine jg_lastO (pc := 9) X hn d_L_add_9 (fun v hv => ?_)
    refine jg_goto (tgt := 21) (pc := 10) X d_L_add_10 (by decide) ?_
    refine jg_iconst (pc := 21) X d_L_add_21 ?_
    exact jg_hret (pc := 22) X hAe hlocks hr d_L_add_22 ⟨Nat.le_of_ble_eq_true rfl, Nat.le_of_ble_eq_true rfl⟩ ⟨by decide, by decide⟩ hw1 (Or.inl ⟨rfl, x, rx, hv, hp⟩)
set_option maxHeartbeats 4000000 in
set_option maxRecDepth 100000 in
theorem h_drop {l : Launch} {Z : jE} {n : Nat} {C : jC} {K : Int} {v1 : Int} {v2 : Int} (rv1 : jRng v1) (rv2 : jRng v2) (hw0 : jWF n C) (h : rAll C K) : jH l y_L_drop method_18_code 5 hh_drop q_L_drop Z n C [jr Z 0, jI v1, jI v2, jr Z 356] (hP cvI (wp_12_drop v1 v2) K) := by
  have hn := hw0.2.2.1
  refine jH_of (lv0 := [(0, jr Z 0), (1, jI v1), (2, jI v2), (3, jr Z 356)]) (by decide) (Nat.le_of_ble_eq_true rfl) rfl ?_
  intro p e s m args below meth c A sz X hAe hr hlocks htab hN
  refine jg_aload_n (pc := 0) X d_L_drop_0 3 rfl ?_
  refine jg_iconst (pc := 1) X d_L_drop_1 ?_
  refine jg_aload_n (pc := 2) X d_L_drop_2 0 rfl ?_
  refine jg_iload_n (pc := 3) X d_L_drop_3 1 rfl ?_
  refine jg_iload_n (pc := 4) X d_L_drop_4 2 rfl ?_
  refine jg_hcall (pc := 5) X (m_11_drop rv1 rv2 hw0 (op_drop h)) jM_11_drop ky_1134 (jl_0_11 hn) rfl rfl rfl rfl rfl (Nat.le_of_ble_eq_true rfl) d_L_drop_5 ⟨Nat.le_of_ble_eq_true rfl, Nat.le_of_ble_eq_true rfl⟩ ⟨Nat.le_of_ble_eq_true rfl, Nat.le_of_ble_eq_true rfl⟩ (fun E C1 hw1 hE => ?_) (fun x C1 rx hw1 hp => ?_)
  · obtain ⟨rfl, hE⟩ := hE
    refine ⟨[], ⟨0, 10, 13, 21⟩, [], htab, (fun z hz => by cases hz), by decide, by decide, ky_766, kn_778, fun q9 => ?_⟩
    refine jg_sastore (pc := 13) X [(4, .ref q9), (0, jr Z 0), (1, jI v1), (2, jI v2), (3, jr Z 356)] d_L_drop_13 (by decide) rfl ?_
    refine jg_iconst (pc := 15) X d_L_drop_15 ?_
    refine jg_ws (ws' := jws (jZo Z (jsV Z 5000)) n C1) (by rw [jZo_id]) ?_
    exact jg_hret (pc := 16) X hAe hlocks hr d_L_drop_16 ⟨Nat.le_of_ble_eq_true rfl, Nat.le_of_ble_eq_true rfl⟩ ⟨by decide, by decide⟩ hw1 (Or.inr ⟨by decide, by decide, hE⟩)
  · have hn1 := hw1.2.2.1
    refine jg_i2l (pc := 8) X d_L_drop_8 ?_
    refine jg_lastO (pc := 9) X hn d_L_drop_9 (fun v hv => ?_)
    refine jg_goto (tgt := 17) (pc := 10) X d_L_drop_10 (by decide) ?_
    refine jg_iconst (pc := 17) X d_L_drop_17 ?_
    exact jg_hret (pc := 18) X hAe hlocks hr d_L_drop_18 ⟨Nat.le_of_ble_eq_true rfl, Nat.le_of_ble_eq_true rfl⟩ ⟨by decide, by decide⟩ hw1 (Or.inl ⟨rfl, x, rx, hv, hp⟩)
set_option maxHeartbeats 4000000 in
set_option maxRecDepth 100000 in
theorem h_drag {l : Launch} {Z : jE} {n : Nat} {C : jC} {K : Int} {v1 : Int} {v2 : Int} {v3 : Int} (rv1 : jRng v1) (rv2 : jRng v2) (rv3 : jRng v3) (hw0 : jWF n C) (h : rAll C K) : jH l y_L_drag method_19_code 6 hh_drag q_L_drag Z n C [jr Z 0, jI v1, jI v2, jI v3, jr Z 356] (hP cvI (wp_12_drag v1 v2 v3) K) := by
  have hn := hw0.2.2.1
  refine jH_of (lv0 := [(0, jr Z 0), (1, jI v1), (2, jI v2), (3, jI v3), (4, jr Z 356)]) (by decide) (Nat.le_of_ble_eq_true rfl) rfl ?_
  intro p e s m args below meth c A sz X hAe hr hlocks htab hN
  refine jg_aload (pc := 0) X d_L_drag_0 4 rfl ?_
  refine jg_iconst (pc := 2) X d_L_drag_2 ?_
  refine jg_aload_n (pc := 3) X d_L_drag_3 0 rfl ?_
  refine jg_iload_n (pc := 4) X d_L_drag_4 1 rfl ?_
  refine jg_iload_n (pc := 5) X d_L_drag_5 2 rfl ?_
  refine jg_iload_n (pc := 6) X d_L_drag_6 3 rfl ?_
  refine jg_hcall (pc := 7) X (m_11_drag rv1 rv2 rv3 hw0 (op_drag h)) jM_11_drag ky_1149 (jl_0_11 hn) rfl rfl rfl rfl rfl (Nat.le_of_ble_eq_true rfl) d_L_drag_7 ⟨Nat.le_of_ble_eq_true rfl, Nat.le_of_ble_eq_true rfl⟩ ⟨Nat.le_of_ble_eq_true rfl, Nat.le_of_ble_eq_true rfl⟩ (fun E C1 hw1 hE => ?_) (fun x C1 rx hw1 hp => ?_)
  · rcases hE with ⟨rfl, hE⟩ | ⟨rfl, hE⟩
    · refine ⟨[], ⟨0, 12, 15, 21⟩, [⟨0, 12, 19, 13⟩], htab, (fun z hz => by cases hz), by decide, by decide, ky_766, kn_778, fun q9 => ?_⟩
      refine jg_sastore (pc := 15) X [(5, .ref q9), (0, jr Z 0), (1, jI v1), (2, jI v2), (3, jI v3), (4, jr Z 356)] d_L_drag_15 (by decide) rfl ?_
      refine jg_iconst (pc := 17) X d_L_drag_17 ?_
      refine jg_ws (ws' := jws (jZo Z (jsV Z 5000)) n C1) (by rw [jZo_id]) ?_
      exact jg_hret (pc := 18) X hAe hlocks hr d_L_drag_18 ⟨Nat.le_of_ble_eq_true rfl, Nat.le_of_ble_eq_true rfl⟩ ⟨by decide, by decide⟩ hw1 (Or.inr ⟨by decide, by decide, hE⟩)
    · refine ⟨[⟨0, 12, 15, 21⟩], ⟨0, 12, 19, 13⟩, [], htab, (fun z hz => by
          simp only [List.mem_cons, List.not_mem_nil, or_false] at hz
          rcases hz with rfl
          · exact ⟨by decide, jIOB, ky_766, hN _ (by decide +kernel) _ (by decide +kernel) (by decide +kernel)⟩), by decide, by decide, ky_451, kn_614, fun q9 => ?_⟩
      refine jg_sastore (pc := 19) X [(5, .ref q9), (0, jr Z 0), (1, jI v1), (2, jI v2), (3, jI v3), (4, jr Z 356)] d_L_drag_19 (by decide) rfl ?_
      refine jg_iconst (pc := 21) X d_L_drag_21 ?_
      refine jg_ws (ws' := jws (jZo Z (jsV Z 5000)) n C1) (by rw [jZo_id]) ?_
      exact jg_hret (pc := 22) X hAe hlocks hr d_L_drag_22 ⟨Nat.le_of_ble_eq_true rfl, Nat.le_of_ble_eq_true rfl⟩ ⟨by decide, by decide⟩ hw1 (Or.inr ⟨by decide, by decide, hE⟩)
  · have hn1 := hw1.2.2.1
    refine jg_i2l (pc := 10) X d_L_drag_10 ?_
    refine jg_lastO (pc := 11) X hn d_L_drag_11 (fun v hv => ?_)
    refine jg_goto (tgt := 23) (pc := 12) X d_L_drag_12 (by decide) ?_
    refine jg_iconst (pc := 23) X d_L_drag_23 ?_
    exact jg_hret (pc := 24) X hAe hlocks hr d_L_drag_24 ⟨Nat.le_of_ble_eq_true rfl, Nat.le_of_ble_eq_true rfl⟩ ⟨by decide, by decide⟩ hw1 (Or.inl ⟨rfl, x, rx, hv, hp⟩)
set_option maxHeartbeats 4000000 in
set_option maxRecDepth 100000 in
theorem h_refresh {l : Launch} {Z : jE} {n : Nat} {C : jC} {K : Int} {v1 : Int} (rv1 : jRng v1) (hw0 : jWF n C) (h : rAll C K) : jH l y_L_refresh method_20_code 4 hh_refresh q_L_refresh Z n C [jr Z 0, jI v1, jr Z 356] (hP cvI (wp_12_refresh v1) K) := by
  have hn := hw0.2.2.1
  refine jH_of (lv0 := [(0, jr Z 0), (1, jI v1), (2, jr Z 356)]) (by decide) (Nat.le_of_ble_eq_true rfl) rfl ?_
  intro p e s m args below meth c A sz X hAe hr hlocks htab hN
  refine jg_aload_n (pc := 0) X d_L_refresh_0 2 rfl ?_
  refine jg_iconst (pc := 1) X d_L_refresh_1 ?_
  refine jg_aload_n (pc := 2) X d_L_refresh_2 0 rfl ?_
  refine jg_iload_n (pc := 3) X d_L_refresh_3 1 rfl ?_
  refine jg_hcall (pc := 4) X (m_11_refresh rv1 hw0 (op_refresh h)) jM_11_refresh ky_1165 (jl_0_11 hn) rfl rfl rfl rfl rfl (Nat.le_of_ble_eq_true rfl) d_L_refresh_4 ⟨Nat.le_of_ble_eq_true rfl, Nat.le_of_ble_eq_true rfl⟩ ⟨Nat.le_of_ble_eq_true rfl, Nat.le_of_ble_eq_true rfl⟩ (fun E C1 hw1 hE => ?_) (fun x C1 rx hw1 hp => ?_)
  · obtain ⟨rfl, hE⟩ := hE
    refine ⟨[], ⟨0, 9, 12, 21⟩, [], htab, (fun z hz => by cases hz), by decide, by decide, ky_766, kn_778, fun q9 => ?_⟩
    refine jg_sastore_n (pc := 12) X [(3, .ref q9), (0, jr Z 0), (1, jI v1), (2, jr Z 356)] d_L_refresh_12 (by decide) rfl ?_
    refine jg_iconst (pc := 13) X d_L_refresh_13 ?_
    refine jg_ws (ws' := jws (jZo Z (jsV Z 5000)) n C1) (by rw [jZo_id]) ?_
    exact jg_hret (pc := 14) X hAe hlocks hr d_L_refresh_14 ⟨Nat.le_of_ble_eq_true rfl, Nat.le_of_ble_eq_true rfl⟩ ⟨by decide, by decide⟩ hw1 (Or.inr ⟨by decide, by decide, hE⟩)
  · have hn1 := hw1.2.2.1
    refine jg_i2l (pc := 7) X d_L_refresh_7 ?_
    refine jg_lastO (pc := 8) X hn d_L_refresh_8 (fun v hv => ?_)
    refine jg_goto (tgt := 15) (pc := 9) X d_L_refresh_9 (by decide) ?_
    refine jg_iconst (pc := 15) X d_L_refresh_15 ?_
    exact jg_hret (pc := 16) X hAe hlocks hr d_L_refresh_16 ⟨Nat.le_of_ble_eq_true rfl, Nat.le_of_ble_eq_true rfl⟩ ⟨by decide, by decide⟩ hw1 (Or.inl ⟨rfl, x, rx, hv, hp⟩)
set_option maxHeartbeats 4000000 in
set_option maxRecDepth 100000 in
theorem h_undo {l : Launch} {Z : jE} {n : Nat} {C : jC} {K : Int} {v1 : Int} (rv1 : jRng v1) (hw0 : jWF n C) (h : rAll C K) : jH l y_L_undo method_21_code 4 hh_undo q_L_undo Z n C [jr Z 0, jI v1, jr Z 356] (hP cvI (wp_12_undo v1) K) := by
  have hn := hw0.2.2.1
  refine jH_of (lv0 := [(0, jr Z 0), (1, jI v1), (2, jr Z 356)]) (by decide) (Nat.le_of_ble_eq_true rfl) rfl ?_
  intro p e s m args below meth c A sz X hAe hr hlocks htab hN
  refine jg_aload_n (pc := 0) X d_L_undo_0 2 rfl ?_
  refine jg_iconst (pc := 1) X d_L_undo_1 ?_
  refine jg_aload_n (pc := 2) X d_L_undo_2 0 rfl ?_
  refine jg_iload_n (pc := 3) X d_L_undo_3 1 rfl ?_
  refine jg_hcall (pc := 4) X (m_11_undo rv1 hw0 (op_undo h)) jM_11_undo ky_1181 (jl_0_11 hn) rfl rfl rfl rfl rfl (Nat.le_of_ble_eq_true rfl) d_L_undo_4 ⟨Nat.le_of_ble_eq_true rfl, Nat.le_of_ble_eq_true rfl⟩ ⟨Nat.le_of_ble_eq_true rfl, Nat.le_of_ble_eq_true rfl⟩ (fun E C1 hw1 hE => ?_) (fun x C1 rx hw1 hp => ?_)
  · rcases hE with ⟨rfl, hE⟩ | ⟨rfl, hE⟩
    · refine ⟨[], ⟨0, 9, 12, 21⟩, [⟨0, 9, 15, 48⟩], htab, (fun z hz => by cases hz), by decide, by decide, ky_766, kn_778, fun q9 => ?_⟩
      refine jg_sastore_n (pc := 12) X [(3, .ref q9), (0, jr Z 0), (1, jI v1), (2, jr Z 356)] d_L_undo_12 (by decide) rfl ?_
      refine jg_iconst (pc := 13) X d_L_undo_13 ?_
      refine jg_ws (ws' := jws (jZo Z (jsV Z 5000)) n C1) (by rw [jZo_id]) ?_
      exact jg_hret (pc := 14) X hAe hlocks hr d_L_undo_14 ⟨Nat.le_of_ble_eq_true rfl, Nat.le_of_ble_eq_true rfl⟩ ⟨by decide, by decide⟩ hw1 (Or.inr ⟨by decide, by decide, hE⟩)
    · refine ⟨[⟨0, 9, 12, 21⟩], ⟨0, 9, 15, 48⟩, [], htab, (fun z hz => by
          simp only [List.mem_cons, List.not_mem_nil, or_false] at hz
          rcases hz with rfl
          · exact ⟨by decide, jIOB, ky_766, hN _ (by decide +kernel) _ (by decide +kernel) (by decide +kernel)⟩), by decide, by decide, ky_984, kn_1000, fun q9 => ?_⟩
      refine jg_sastore_n (pc := 15) X [(3, .ref q9), (0, jr Z 0), (1, jI v1), (2, jr Z 356)] d_L_undo_15 (by decide) rfl ?_
      refine jg_iconst (pc := 16) X d_L_undo_16 ?_
      refine jg_ws (ws' := jws (jZo Z (jsV Z 5000)) n C1) (by rw [jZo_id]) ?_
      exact jg_hret (pc := 17) X hAe hlocks hr d_L_undo_17 ⟨Nat.le_of_ble_eq_true rfl, Nat.le_of_ble_eq_true rfl⟩ ⟨by decide, by decide⟩ hw1 (Or.inr ⟨by decide, by decide, hE⟩)
  · have hn1 := hw1.2.2.1
    refine jg_i2l (pc := 7) X d_L_undo_7 ?_
    refine jg_lastO (pc := 8) X hn d_L_undo_8 (fun v hv => ?_)
    refine jg_goto (tgt := 18) (pc := 9) X d_L_undo_9 (by decide) ?_
    refine jg_iconst (pc := 18) X d_L_undo_18 ?_
    exact jg_hret (pc := 19) X hAe hlocks hr d_L_undo_19 ⟨Nat.le_of_ble_eq_true rfl, Nat.le_of_ble_eq_true rfl⟩ ⟨by decide, by decide⟩ hw1 (Or.inl ⟨rfl, x, rx, hv, hp⟩)
set_option maxHeartbeats 4000000 in
set_option maxRecDepth 100000 in
theorem h_fits {l : Launch} {Z : jE} {n : Nat} {C : jC} {K : Int} {v1 : Int} {v2 : Int} (rv1 : jRng v1) (rv2 : jRng v2) (hw0 : jWF n C) (h : rAll C K) : jH l y_L_fits method_22_code 5 hh_fits q_L_fits Z n C [jr Z 0, jI v1, jI v2, jr Z 356] (hP cvB (wp_12_fits v1 v2) K) := by
  have hn := hw0.2.2.1
  refine jH_of (lv0 := [(0, jr Z 0), (1, jI v1), (2, jI v2), (3, jr Z 356)]) (by decide) (Nat.le_of_ble_eq_true rfl) rfl ?_
  intro p e s m args below meth c A sz X hAe hr hlocks htab hN
  refine jg_aload_n (pc := 0) X d_L_fits_0 3 rfl ?_
  refine jg_iconst (pc := 1) X d_L_fits_1 ?_
  refine jg_aload_n (pc := 2) X d_L_fits_2 0 rfl ?_
  refine jg_iload_n (pc := 3) X d_L_fits_3 1 rfl ?_
  refine jg_iload_n (pc := 4) X d_L_fits_4 2 rfl ?_
  refine jg_hcall (pc := 5) X (m_11_fits rv1 rv2 hw0 (op_fits h)) jM_11_fits ky_1208 (jl_0_11 hn) rfl rfl rfl rfl rfl (Nat.le_of_ble_eq_true rfl) d_L_fits_5 ⟨Nat.le_of_ble_eq_true rfl, Nat.le_of_ble_eq_true rfl⟩ ⟨Nat.le_of_ble_eq_true rfl, Nat.le_of_ble_eq_true rfl⟩ (fun E C1 hw1 hE => ?_) (fun x C1 rx hw1 hp => ?_)
  · obtain ⟨rfl, hE⟩ := hE
    refine ⟨[], ⟨0, 17, 20, 21⟩, [], htab, (fun z hz => by cases hz), by decide, by decide, ky_766, kn_778, fun q9 => ?_⟩
    refine jg_sastore (pc := 20) X [(4, .ref q9), (0, jr Z 0), (1, jI v1), (2, jI v2), (3, jr Z 356)] d_L_fits_20 (by decide) rfl ?_
    refine jg_iconst (pc := 22) X d_L_fits_22 ?_
    refine jg_ws (ws' := jws (jZo Z (jsV Z 5000)) n C1) (by rw [jZo_id]) ?_
    exact jg_hret (pc := 23) X hAe hlocks hr d_L_fits_23 ⟨Nat.le_of_ble_eq_true rfl, Nat.le_of_ble_eq_true rfl⟩ ⟨by decide, by decide⟩ hw1 (Or.inr ⟨by decide, by decide, hE⟩)
  · obtain ⟨rfl, hp⟩ := hp
    refine jg_if_eq (T := True) (F := True) (tgt := 15) (pc := 8) X d_L_fits_8 (by decide) rx (by split <;> trivial) (fun c1 _ => ?_) (fun c1 _ => ?_)
    · refine jg_lconst (pc := 15) (v := 0) X d_L_fits_15 rfl ?_
      refine jg_lastO (pc := 16) X hn d_L_fits_16 (fun v hv => ?_)
      refine jg_goto (tgt := 24) (pc := 17) X d_L_fits_17 (by decide) ?_
      refine jg_iconst (pc := 24) X d_L_fits_24 ?_
      exact jg_hret (pc := 25) X hAe hlocks hr d_L_fits_25 ⟨Nat.le_of_ble_eq_true rfl, Nat.le_of_ble_eq_true rfl⟩ ⟨by decide, by decide⟩ hw1 (Or.inl ⟨rfl, x, rx, by rw [hv]; unfold cvB; rw [if_pos c1], hp⟩)
    · refine jg_lconst (pc := 11) (v := 1) X d_L_fits_11 rfl ?_
      refine jg_goto (tgt := 16) (pc := 12) X d_L_fits_12 (by decide) ?_
      refine jg_lastO (pc := 16) X hn d_L_fits_16 (fun v hv => ?_)
      refine jg_goto (tgt := 24) (pc := 17) X d_L_fits_17 (by decide) ?_
      refine jg_iconst (pc := 24) X d_L_fits_24 ?_
      exact jg_hret (pc := 25) X hAe hlocks hr d_L_fits_25 ⟨Nat.le_of_ble_eq_true rfl, Nat.le_of_ble_eq_true rfl⟩ ⟨by decide, by decide⟩ hw1 (Or.inl ⟨rfl, x, rx, by rw [hv]; unfold cvB; rw [if_neg c1], hp⟩)
set_option maxHeartbeats 4000000 in
set_option maxRecDepth 100000 in
theorem h_why {l : Launch} {Z : jE} {n : Nat} {C : jC} {K : Int} {v1 : Int} {v2 : Int} (rv1 : jRng v1) (rv2 : jRng v2) (hw0 : jWF n C) (h : rAll C K) : jH l y_L_why method_23_code 5 hh_why q_L_why Z n C [jr Z 0, jI v1, jI v2, jr Z 356] (hP cvI (wp_12_why v1 v2) K) := by
  have hn := hw0.2.2.1
  refine jH_of (lv0 := [(0, jr Z 0), (1, jI v1), (2, jI v2), (3, jr Z 356)]) (by decide) (Nat.le_of_ble_eq_true rfl) rfl ?_
  intro p e s m args below meth c A sz X hAe hr hlocks htab hN
  refine jg_aload_n (pc := 0) X d_L_why_0 3 rfl ?_
  refine jg_iconst (pc := 1) X d_L_why_1 ?_
  refine jg_aload_n (pc := 2) X d_L_why_2 0 rfl ?_
  refine jg_iload_n (pc := 3) X d_L_why_3 1 rfl ?_
  refine jg_iload_n (pc := 4) X d_L_why_4 2 rfl ?_
  refine jg_hcall (pc := 5) X (m_11_why rv1 rv2 hw0 (op_why h)) jM_11_why ky_1220 (jl_0_11 hn) rfl rfl rfl rfl rfl (Nat.le_of_ble_eq_true rfl) d_L_why_5 ⟨Nat.le_of_ble_eq_true rfl, Nat.le_of_ble_eq_true rfl⟩ ⟨Nat.le_of_ble_eq_true rfl, Nat.le_of_ble_eq_true rfl⟩ (fun E C1 hw1 hE => ?_) (fun x C1 rx hw1 hp => ?_)
  · obtain ⟨rfl, hE⟩ := hE
    refine ⟨[], ⟨0, 10, 13, 21⟩, [], htab, (fun z hz => by cases hz), by decide, by decide, ky_766, kn_778, fun q9 => ?_⟩
    refine jg_sastore (pc := 13) X [(4, .ref q9), (0, jr Z 0), (1, jI v1), (2, jI v2), (3, jr Z 356)] d_L_why_13 (by decide) rfl ?_
    refine jg_iconst (pc := 15) X d_L_why_15 ?_
    refine jg_ws (ws' := jws (jZo Z (jsV Z 5000)) n C1) (by rw [jZo_id]) ?_
    exact jg_hret (pc := 16) X hAe hlocks hr d_L_why_16 ⟨Nat.le_of_ble_eq_true rfl, Nat.le_of_ble_eq_true rfl⟩ ⟨by decide, by decide⟩ hw1 (Or.inr ⟨by decide, by decide, hE⟩)
  · obtain ⟨rfl, hp⟩ := hp
    refine jg_i2l (pc := 8) X d_L_why_8 ?_
    refine jg_lastO (pc := 9) X hn d_L_why_9 (fun v hv => ?_)
    refine jg_goto (tgt := 17) (pc := 10) X d_L_why_10 (by decide) ?_
    refine jg_iconst (pc := 17) X d_L_why_17 ?_
    exact jg_hret (pc := 18) X hAe hlocks hr d_L_why_18 ⟨Nat.le_of_ble_eq_true rfl, Nat.le_of_ble_eq_true rfl⟩ ⟨by decide, by decide⟩ hw1 (Or.inl ⟨rfl, x, rx, hv, hp⟩)
set_option maxHeartbeats 4000000 in
set_option maxRecDepth 100000 in
theorem h_stale {l : Launch} {Z : jE} {n : Nat} {C : jC} {K : Int} {v1 : Int} (rv1 : jRng v1) (hw0 : jWF n C) (h : rAll C K) : jH l y_L_stale method_24_code 4 hh_stale q_L_stale Z n C [jr Z 0, jI v1, jr Z 356] (hP cvI (wp_12_stale v1) K) := by
  have hn := hw0.2.2.1
  refine jH_of (lv0 := [(0, jr Z 0), (1, jI v1), (2, jr Z 356)]) (by decide) (Nat.le_of_ble_eq_true rfl) rfl ?_
  intro p e s m args below meth c A sz X hAe hr hlocks htab hN
  refine jg_aload_n (pc := 0) X d_L_stale_0 2 rfl ?_
  refine jg_iconst (pc := 1) X d_L_stale_1 ?_
  refine jg_aload_n (pc := 2) X d_L_stale_2 0 rfl ?_
  refine jg_iload_n (pc := 3) X d_L_stale_3 1 rfl ?_
  refine jg_hcall (pc := 4) X (m_11_stale rv1 hw0 (op_stale h)) jM_11_stale ky_1228 (jl_0_11 hn) rfl rfl rfl rfl rfl (Nat.le_of_ble_eq_true rfl) d_L_stale_4 ⟨Nat.le_of_ble_eq_true rfl, Nat.le_of_ble_eq_true rfl⟩ ⟨Nat.le_of_ble_eq_true rfl, Nat.le_of_ble_eq_true rfl⟩ (fun E C1 hw1 hE => ?_) (fun x C1 rx hw1 hp => ?_)
  · obtain ⟨rfl, hE⟩ := hE
    refine ⟨[], ⟨0, 9, 12, 21⟩, [], htab, (fun z hz => by cases hz), by decide, by decide, ky_766, kn_778, fun q9 => ?_⟩
    refine jg_sastore_n (pc := 12) X [(3, .ref q9), (0, jr Z 0), (1, jI v1), (2, jr Z 356)] d_L_stale_12 (by decide) rfl ?_
    refine jg_iconst (pc := 13) X d_L_stale_13 ?_
    refine jg_ws (ws' := jws (jZo Z (jsV Z 5000)) n C1) (by rw [jZo_id]) ?_
    exact jg_hret (pc := 14) X hAe hlocks hr d_L_stale_14 ⟨Nat.le_of_ble_eq_true rfl, Nat.le_of_ble_eq_true rfl⟩ ⟨by decide, by decide⟩ hw1 (Or.inr ⟨by decide, by decide, hE⟩)
  · obtain ⟨rfl, hp⟩ := hp
    refine jg_i2l (pc := 7) X d_L_stale_7 ?_
    refine jg_lastO (pc := 8) X hn d_L_stale_8 (fun v hv => ?_)
    refine jg_goto (tgt := 15) (pc := 9) X d_L_stale_9 (by decide) ?_
    refine jg_iconst (pc := 15) X d_L_stale_15 ?_
    exact jg_hret (pc := 16) X hAe hlocks hr d_L_stale_16 ⟨Nat.le_of_ble_eq_true rfl, Nat.le_of_ble_eq_true rfl⟩ ⟨by decide, by decide⟩ hw1 (Or.inl ⟨rfl, x, rx, hv, hp⟩)
set_option maxHeartbeats 4000000 in
set_option maxRecDepth 100000 in
theorem h_pending {l : Launch} {Z : jE} {n : Nat} {C : jC} {K : Int} {v1 : Int} (rv1 : jRng v1) (hw0 : jWF n C) (h : rAll C K) : jH l y_L_pending method_25_code 4 hh_pending q_L_pending Z n C [jr Z 0, jI v1, jr Z 356] (hP cvI (wp_12_pending v1) K) := by
  have hn := hw0.2.2.1
  refine jH_of (lv0 := [(0, jr Z 0), (1, jI v1), (2, jr Z 356)]) (by decide) (Nat.le_of_ble_eq_true rfl) rfl ?_
  intro p e s m args below meth c A sz X hAe hr hlocks htab hN
  refine jg_aload_n (pc := 0) X d_L_pending_0 2 rfl ?_
  refine jg_iconst (pc := 1) X d_L_pending_1 ?_
  refine jg_aload_n (pc := 2) X d_L_pending_2 0 rfl ?_
  refine jg_iload_n (pc := 3) X d_L_pending_3 1 rfl ?_
  refine jg_hcall (pc := 4) X (m_11_pending rv1 hw0 (op_pending h)) jM_11_pending ky_1240 (jl_0_11 hn) rfl rfl rfl rfl rfl (Nat.le_of_ble_eq_true rfl) d_L_pending_4 ⟨Nat.le_of_ble_eq_true rfl, Nat.le_of_ble_eq_true rfl⟩ ⟨Nat.le_of_ble_eq_true rfl, Nat.le_of_ble_eq_true rfl⟩ (fun E C1 hw1 hE => ?_) (fun x C1 rx hw1 hp => ?_)
  · obtain ⟨rfl, hE⟩ := hE
    refine ⟨[], ⟨0, 9, 12, 21⟩, [], htab, (fun z hz => by cases hz), by decide, by decide, ky_766, kn_778, fun q9 => ?_⟩
    refine jg_sastore_n (pc := 12) X [(3, .ref q9), (0, jr Z 0), (1, jI v1), (2, jr Z 356)] d_L_pending_12 (by decide) rfl ?_
    refine jg_iconst (pc := 13) X d_L_pending_13 ?_
    refine jg_ws (ws' := jws (jZo Z (jsV Z 5000)) n C1) (by rw [jZo_id]) ?_
    exact jg_hret (pc := 14) X hAe hlocks hr d_L_pending_14 ⟨Nat.le_of_ble_eq_true rfl, Nat.le_of_ble_eq_true rfl⟩ ⟨by decide, by decide⟩ hw1 (Or.inr ⟨by decide, by decide, hE⟩)
  · obtain ⟨rfl, hp⟩ := hp
    refine jg_i2l (pc := 7) X d_L_pending_7 ?_
    refine jg_lastO (pc := 8) X hn d_L_pending_8 (fun v hv => ?_)
    refine jg_goto (tgt := 15) (pc := 9) X d_L_pending_9 (by decide) ?_
    refine jg_iconst (pc := 15) X d_L_pending_15 ?_
    exact jg_hret (pc := 16) X hAe hlocks hr d_L_pending_16 ⟨Nat.le_of_ble_eq_true rfl, Nat.le_of_ble_eq_true rfl⟩ ⟨by decide, by decide⟩ hw1 (Or.inl ⟨rfl, x, rx, hv, hp⟩)
set_option maxHeartbeats 4000000 in
set_option maxRecDepth 100000 in
theorem h_rank {l : Launch} {Z : jE} {n : Nat} {C : jC} {K : Int} {v1 : Int} {v2 : Int} (rv1 : jRng v1) (rv2 : jRng v2) (hw0 : jWF n C) (h : rAll C K) : jH l y_L_rank method_26_code 5 hh_rank q_L_rank Z n C [jr Z 0, jI v1, jI v2, jr Z 356] (hP cvI (wp_12_rank v1 v2) K) := by
  have hn := hw0.2.2.1
  refine jH_of (lv0 := [(0, jr Z 0), (1, jI v1), (2, jI v2), (3, jr Z 356)]) (by decide) (Nat.le_of_ble_eq_true rfl) rfl ?_
  intro p e s m args below meth c A sz X hAe hr hlocks htab hN
  refine jg_aload_n (pc := 0) X d_L_rank_0 3 rfl ?_
  refine jg_iconst (pc := 1) X d_L_rank_1 ?_
  refine jg_aload_n (pc := 2) X d_L_rank_2 0 rfl ?_
  refine jg_iload_n (pc := 3) X d_L_rank_3 1 rfl ?_
  refine jg_iload_n (pc := 4) X d_L_rank_4 2 rfl ?_
  refine jg_hcall (pc := 5) X (m_11_rank rv1 rv2 hw0 (op_rank h)) jM_11_rank ky_1251 (jl_0_11 hn) rfl rfl rfl rfl rfl (Nat.le_of_ble_eq_true rfl) d_L_rank_5 ⟨Nat.le_of_ble_eq_true rfl, Nat.le_of_ble_eq_true rfl⟩ ⟨Nat.le_of_ble_eq_true rfl, Nat.le_of_ble_eq_true rfl⟩ (fun E C1 hw1 hE => ?_) (fun x C1 rx hw1 hp => ?_)
  · obtain ⟨rfl, hE⟩ := hE
    refine ⟨[], ⟨0, 10, 13, 21⟩, [], htab, (fun z hz => by cases hz), by decide, by decide, ky_766, kn_778, fun q9 => ?_⟩
    refine jg_sastore (pc := 13) X [(4, .ref q9), (0, jr Z 0), (1, jI v1), (2, jI v2), (3, jr Z 356)] d_L_rank_13 (by decide) rfl ?_
    refine jg_iconst (pc := 15) X d_L_rank_15 ?_
    refine jg_ws (ws' := jws (jZo Z (jsV Z 5000)) n C1) (by rw [jZo_id]) ?_
    exact jg_hret (pc := 16) X hAe hlocks hr d_L_rank_16 ⟨Nat.le_of_ble_eq_true rfl, Nat.le_of_ble_eq_true rfl⟩ ⟨by decide, by decide⟩ hw1 (Or.inr ⟨by decide, by decide, hE⟩)
  · have hn1 := hw1.2.2.1
    refine jg_i2l (pc := 8) X d_L_rank_8 ?_
    refine jg_lastO (pc := 9) X hn d_L_rank_9 (fun v hv => ?_)
    refine jg_goto (tgt := 17) (pc := 10) X d_L_rank_10 (by decide) ?_
    refine jg_iconst (pc := 17) X d_L_rank_17 ?_
    exact jg_hret (pc := 18) X hAe hlocks hr d_L_rank_18 ⟨Nat.le_of_ble_eq_true rfl, Nat.le_of_ble_eq_true rfl⟩ ⟨by decide, by decide⟩ hw1 (Or.inl ⟨rfl, x, rx, hv, hp⟩)
set_option maxHeartbeats 4000000 in
set_option maxRecDepth 100000 in
theorem h_moves {l : Launch} {Z : jE} {n : Nat} {C : jC} {K : Int} {v1 : Int} (rv1 : jRng v1) (hw0 : jWF n C) (h : rAll C K) : jH l y_L_moves method_27_code 4 hh_moves q_L_moves Z n C [jr Z 0, jI v1, jr Z 356] (hP cvI (wp_12_moves v1) K) := by
  have hn := hw0.2.2.1
  refine jH_of (lv0 := [(0, jr Z 0), (1, jI v1), (2, jr Z 356)]) (by decide) (Nat.le_of_ble_eq_true rfl) rfl ?_
  intro p e s m args below meth c A sz X hAe hr hlocks htab hN
  refine jg_aload_n (pc := 0) X d_L_moves_0 2 rfl ?_
  refine jg_iconst (pc := 1) X d_L_moves_1 ?_
  refine jg_aload_n (pc := 2) X d_L_moves_2 0 rfl ?_
  refine jg_iload_n (pc := 3) X d_L_moves_3 1 rfl ?_
  refine jg_hcall (pc := 4) X (m_11_moves rv1 hw0 (op_moves h)) jM_11_moves ky_1263 (jl_0_11 hn) rfl rfl rfl rfl rfl (Nat.le_of_ble_eq_true rfl) d_L_moves_4 ⟨Nat.le_of_ble_eq_true rfl, Nat.le_of_ble_eq_true rfl⟩ ⟨Nat.le_of_ble_eq_true rfl, Nat.le_of_ble_eq_true rfl⟩ (fun E C1 hw1 hE => ?_) (fun x C1 rx hw1 hp => ?_)
  · obtain ⟨rfl, hE⟩ := hE
    refine ⟨[], ⟨0, 9, 12, 21⟩, [], htab, (fun z hz => by cases hz), by decide, by decide, ky_766, kn_778, fun q9 => ?_⟩
    refine jg_sastore_n (pc := 12) X [(3, .ref q9), (0, jr Z 0), (1, jI v1), (2, jr Z 356)] d_L_moves_12 (by decide) rfl ?_
    refine jg_iconst (pc := 13) X d_L_moves_13 ?_
    refine jg_ws (ws' := jws (jZo Z (jsV Z 5000)) n C1) (by rw [jZo_id]) ?_
    exact jg_hret (pc := 14) X hAe hlocks hr d_L_moves_14 ⟨Nat.le_of_ble_eq_true rfl, Nat.le_of_ble_eq_true rfl⟩ ⟨by decide, by decide⟩ hw1 (Or.inr ⟨by decide, by decide, hE⟩)
  · have hn1 := hw1.2.2.1
    refine jg_i2l (pc := 7) X d_L_moves_7 ?_
    refine jg_lastO (pc := 8) X hn d_L_moves_8 (fun v hv => ?_)
    refine jg_goto (tgt := 15) (pc := 9) X d_L_moves_9 (by decide) ?_
    refine jg_iconst (pc := 15) X d_L_moves_15 ?_
    exact jg_hret (pc := 16) X hAe hlocks hr d_L_moves_16 ⟨Nat.le_of_ble_eq_true rfl, Nat.le_of_ble_eq_true rfl⟩ ⟨by decide, by decide⟩ hw1 (Or.inl ⟨rfl, x, rx, hv, hp⟩)
set_option maxHeartbeats 4000000 in
set_option maxRecDepth 100000 in
theorem h_unlike {l : Launch} {Z : jE} {n : Nat} {C : jC} {K : Int} {v1 : Int} {v2 : Int} (rv1 : jRng v1) (rv2 : jRng v2) (hw0 : jWF n C) (h : rAll C K) : jH l y_L_unlike method_28_code 5 hh_unlike q_L_unlike Z n C [jr Z 0, jI v1, jI v2, jr Z 356] (hP cvI (wp_12_unlike v1 v2) K) := by
  have hn := hw0.2.2.1
  refine jH_of (lv0 := [(0, jr Z 0), (1, jI v1), (2, jI v2), (3, jr Z 356)]) (by decide) (Nat.le_of_ble_eq_true rfl) rfl ?_
  intro p e s m args below meth c A sz X hAe hr hlocks htab hN
  refine jg_aload_n (pc := 0) X d_L_unlike_0 3 rfl ?_
  refine jg_iconst (pc := 1) X d_L_unlike_1 ?_
  refine jg_aload_n (pc := 2) X d_L_unlike_2 0 rfl ?_
  refine jg_iload_n (pc := 3) X d_L_unlike_3 1 rfl ?_
  refine jg_iload_n (pc := 4) X d_L_unlike_4 2 rfl ?_
  refine jg_hcall (pc := 5) X (m_11_unlike rv1 rv2 hw0 (op_unlike h)) jM_11_unlike ky_1279 (jl_0_11 hn) rfl rfl rfl rfl rfl (Nat.le_of_ble_eq_true rfl) d_L_unlike_5 ⟨Nat.le_of_ble_eq_true rfl, Nat.le_of_ble_eq_true rfl⟩ ⟨Nat.le_of_ble_eq_true rfl, Nat.le_of_ble_eq_true rfl⟩ (fun E C1 hw1 hE => ?_) (fun x C1 rx hw1 hp => ?_)
  · rcases hE with ⟨rfl, hE⟩ | ⟨rfl, hE⟩
    · refine ⟨[], ⟨0, 10, 13, 21⟩, [⟨0, 10, 17, 13⟩], htab, (fun z hz => by cases hz), by decide, by decide, ky_766, kn_778, fun q9 => ?_⟩
      refine jg_sastore (pc := 13) X [(4, .ref q9), (0, jr Z 0), (1, jI v1), (2, jI v2), (3, jr Z 356)] d_L_unlike_13 (by decide) rfl ?_
      refine jg_iconst (pc := 15) X d_L_unlike_15 ?_
      refine jg_ws (ws' := jws (jZo Z (jsV Z 5000)) n C1) (by rw [jZo_id]) ?_
      exact jg_hret (pc := 16) X hAe hlocks hr d_L_unlike_16 ⟨Nat.le_of_ble_eq_true rfl, Nat.le_of_ble_eq_true rfl⟩ ⟨by decide, by decide⟩ hw1 (Or.inr ⟨by decide, by decide, hE⟩)
    · refine ⟨[⟨0, 10, 13, 21⟩], ⟨0, 10, 17, 13⟩, [], htab, (fun z hz => by
          simp only [List.mem_cons, List.not_mem_nil, or_false] at hz
          rcases hz with rfl
          · exact ⟨by decide, jIOB, ky_766, hN _ (by decide +kernel) _ (by decide +kernel) (by decide +kernel)⟩), by decide, by decide, ky_451, kn_614, fun q9 => ?_⟩
      refine jg_sastore (pc := 17) X [(4, .ref q9), (0, jr Z 0), (1, jI v1), (2, jI v2), (3, jr Z 356)] d_L_unlike_17 (by decide) rfl ?_
      refine jg_iconst (pc := 19) X d_L_unlike_19 ?_
      refine jg_ws (ws' := jws (jZo Z (jsV Z 5000)) n C1) (by rw [jZo_id]) ?_
      exact jg_hret (pc := 20) X hAe hlocks hr d_L_unlike_20 ⟨Nat.le_of_ble_eq_true rfl, Nat.le_of_ble_eq_true rfl⟩ ⟨by decide, by decide⟩ hw1 (Or.inr ⟨by decide, by decide, hE⟩)
  · obtain ⟨rfl, hp⟩ := hp
    refine jg_i2l (pc := 8) X d_L_unlike_8 ?_
    refine jg_lastO (pc := 9) X hn d_L_unlike_9 (fun v hv => ?_)
    refine jg_goto (tgt := 21) (pc := 10) X d_L_unlike_10 (by decide) ?_
    refine jg_iconst (pc := 21) X d_L_unlike_21 ?_
    exact jg_hret (pc := 22) X hAe hlocks hr d_L_unlike_22 ⟨Nat.le_of_ble_eq_true rfl, Nat.le_of_ble_eq_true rfl⟩ ⟨by decide, by decide⟩ hw1 (Or.inl ⟨rfl, x, rx, hv, hp⟩)
set_option maxHeartbeats 4000000 in
set_option maxRecDepth 100000 in
theorem h_told {l : Launch} {Z : jE} {n : Nat} {C : jC} {K : Int} {v1 : Int} {v2 : Int} (rv1 : jRng v1) (rv2 : jRng v2) (hw0 : jWF n C) (h : rAll C K) : jH l y_L_told method_29_code 5 hh_told q_L_told Z n C [jr Z 0, jI v1, jI v2, jr Z 356] (hP cvI (wp_12_told v1 v2) K) := by
  have hn := hw0.2.2.1
  refine jH_of (lv0 := [(0, jr Z 0), (1, jI v1), (2, jI v2), (3, jr Z 356)]) (by decide) (Nat.le_of_ble_eq_true rfl) rfl ?_
  intro p e s m args below meth c A sz X hAe hr hlocks htab hN
  refine jg_aload_n (pc := 0) X d_L_told_0 3 rfl ?_
  refine jg_iconst (pc := 1) X d_L_told_1 ?_
  refine jg_aload_n (pc := 2) X d_L_told_2 0 rfl ?_
  refine jg_iload_n (pc := 3) X d_L_told_3 1 rfl ?_
  refine jg_iload_n (pc := 4) X d_L_told_4 2 rfl ?_
  refine jg_hcall (pc := 5) X (m_11_told rv1 rv2 hw0 (op_told h)) jM_11_told ky_1290 (jl_0_11 hn) rfl rfl rfl rfl rfl (Nat.le_of_ble_eq_true rfl) d_L_told_5 ⟨Nat.le_of_ble_eq_true rfl, Nat.le_of_ble_eq_true rfl⟩ ⟨Nat.le_of_ble_eq_true rfl, Nat.le_of_ble_eq_true rfl⟩ (fun E C1 hw1 hE => ?_) (fun x C1 rx hw1 hp => ?_)
  · obtain ⟨rfl, hE⟩ := hE
    refine ⟨[], ⟨0, 10, 13, 21⟩, [], htab, (fun z hz => by cases hz), by decide, by decide, ky_766, kn_778, fun q9 => ?_⟩
    refine jg_sastore (pc := 13) X [(4, .ref q9), (0, jr Z 0), (1, jI v1), (2, jI v2), (3, jr Z 356)] d_L_told_13 (by decide) rfl ?_
    refine jg_iconst (pc := 15) X d_L_told_15 ?_
    refine jg_ws (ws' := jws (jZo Z (jsV Z 5000)) n C1) (by rw [jZo_id]) ?_
    exact jg_hret (pc := 16) X hAe hlocks hr d_L_told_16 ⟨Nat.le_of_ble_eq_true rfl, Nat.le_of_ble_eq_true rfl⟩ ⟨by decide, by decide⟩ hw1 (Or.inr ⟨by decide, by decide, hE⟩)
  · have hn1 := hw1.2.2.1
    refine jg_i2l (pc := 8) X d_L_told_8 ?_
    refine jg_lastO (pc := 9) X hn d_L_told_9 (fun v hv => ?_)
    refine jg_goto (tgt := 17) (pc := 10) X d_L_told_10 (by decide) ?_
    refine jg_iconst (pc := 17) X d_L_told_17 ?_
    exact jg_hret (pc := 18) X hAe hlocks hr d_L_told_18 ⟨Nat.le_of_ble_eq_true rfl, Nat.le_of_ble_eq_true rfl⟩ ⟨by decide, by decide⟩ hw1 (Or.inl ⟨rfl, x, rx, hv, hp⟩)
set_option maxHeartbeats 4000000 in
set_option maxRecDepth 100000 in
theorem h_between {l : Launch} {Z : jE} {n : Nat} {C : jC} {K : Int} {v1 : Int} {v2 : Int} {v3 : Int} (rv1 : jRng v1) (rv2 : jRng v2) (rv3 : jRng v3) (hw0 : jWF n C) (h : rAll C K) : jH l y_L_between method_30_code 6 hh_between q_L_between Z n C [jr Z 0, jI v1, jI v2, jI v3, jr Z 356] (hP cvI (wp_12_between v1 v2 v3) K) := by
  have hn := hw0.2.2.1
  refine jH_of (lv0 := [(0, jr Z 0), (1, jI v1), (2, jI v2), (3, jI v3), (4, jr Z 356)]) (by decide) (Nat.le_of_ble_eq_true rfl) rfl ?_
  intro p e s m args below meth c A sz X hAe hr hlocks htab hN
  refine jg_aload (pc := 0) X d_L_between_0 4 rfl ?_
  refine jg_iconst (pc := 2) X d_L_between_2 ?_
  refine jg_aload_n (pc := 3) X d_L_between_3 0 rfl ?_
  refine jg_iload_n (pc := 4) X d_L_between_4 1 rfl ?_
  refine jg_iload_n (pc := 5) X d_L_between_5 2 rfl ?_
  refine jg_iload_n (pc := 6) X d_L_between_6 3 rfl ?_
  refine jg_hcall (pc := 7) X (m_11_between rv1 rv2 rv3 hw0 (op_between h)) jM_11_between ky_1318 (jl_0_11 hn) rfl rfl rfl rfl rfl (Nat.le_of_ble_eq_true rfl) d_L_between_7 ⟨Nat.le_of_ble_eq_true rfl, Nat.le_of_ble_eq_true rfl⟩ ⟨Nat.le_of_ble_eq_true rfl, Nat.le_of_ble_eq_true rfl⟩ (fun E C1 hw1 hE => ?_) (fun x C1 rx hw1 hp => ?_)
  · rcases hE with ⟨rfl, hE⟩ | ⟨rfl, hE⟩
    · refine ⟨[], ⟨0, 12, 15, 21⟩, [⟨0, 12, 19, 13⟩], htab, (fun z hz => by cases hz), by decide, by decide, ky_766, kn_778, fun q9 => ?_⟩
      refine jg_sastore (pc := 15) X [(5, .ref q9), (0, jr Z 0), (1, jI v1), (2, jI v2), (3, jI v3), (4, jr Z 356)] d_L_between_15 (by decide) rfl ?_
      refine jg_iconst (pc := 17) X d_L_between_17 ?_
      refine jg_ws (ws' := jws (jZo Z (jsV Z 5000)) n C1) (by rw [jZo_id]) ?_
      exact jg_hret (pc := 18) X hAe hlocks hr d_L_between_18 ⟨Nat.le_of_ble_eq_true rfl, Nat.le_of_ble_eq_true rfl⟩ ⟨by decide, by decide⟩ hw1 (Or.inr ⟨by decide, by decide, hE⟩)
    · refine ⟨[⟨0, 12, 15, 21⟩], ⟨0, 12, 19, 13⟩, [], htab, (fun z hz => by
          simp only [List.mem_cons, List.not_mem_nil, or_false] at hz
          rcases hz with rfl
          · exact ⟨by decide, jIOB, ky_766, hN _ (by decide +kernel) _ (by decide +kernel) (by decide +kernel)⟩), by decide, by decide, ky_451, kn_614, fun q9 => ?_⟩
      refine jg_sastore (pc := 19) X [(5, .ref q9), (0, jr Z 0), (1, jI v1), (2, jI v2), (3, jI v3), (4, jr Z 356)] d_L_between_19 (by decide) rfl ?_
      refine jg_iconst (pc := 21) X d_L_between_21 ?_
      refine jg_ws (ws' := jws (jZo Z (jsV Z 5000)) n C1) (by rw [jZo_id]) ?_
      exact jg_hret (pc := 22) X hAe hlocks hr d_L_between_22 ⟨Nat.le_of_ble_eq_true rfl, Nat.le_of_ble_eq_true rfl⟩ ⟨by decide, by decide⟩ hw1 (Or.inr ⟨by decide, by decide, hE⟩)
  · obtain ⟨rfl, hp⟩ := hp
    refine jg_i2l (pc := 10) X d_L_between_10 ?_
    refine jg_lastO (pc := 11) X hn d_L_between_11 (fun v hv => ?_)
    refine jg_goto (tgt := 23) (pc := 12) X d_L_between_12 (by decide) ?_
    refine jg_iconst (pc := 23) X d_L_between_23 ?_
    exact jg_hret (pc := 24) X hAe hlocks hr d_L_between_24 ⟨Nat.le_of_ble_eq_true rfl, Nat.le_of_ble_eq_true rfl⟩ ⟨by decide, by decide⟩ hw1 (Or.inl ⟨rfl, x, rx, hv, hp⟩)
set_option maxHeartbeats 4000000 in
set_option maxRecDepth 100000 in
theorem h_sum {l : Launch} {Z : jE} {n : Nat} {C : jC} {K : Int} {v1 : Int} {v2 : Int} (rv1 : jRng v1) (rv2 : jRng v2) (hw0 : jWF n C) (h : rAll C K) : jH l y_L_sum method_31_code 5 hh_sum q_L_sum Z n C [jr Z 0, jI v1, jI v2, jr Z 356] (hP cvI (wp_12_sum v1 v2) K) := by
  have hn := hw0.2.2.1
  refine jH_of (lv0 := [(0, jr Z 0), (1, jI v1), (2, jI v2), (3, jr Z 356)]) (by decide) (Nat.le_of_ble_eq_true rfl) rfl ?_
  intro p e s m args below meth c A sz X hAe hr hlocks htab hN
  refine jg_aload_n (pc := 0) X d_L_sum_0 3 rfl ?_
  refine jg_iconst (pc := 1) X d_L_sum_1 ?_
  refine jg_aload_n (pc := 2) X d_L_sum_2 0 rfl ?_
  refine jg_iload_n (pc := 3) X d_L_sum_3 1 rfl ?_
  refine jg_iload_n (pc := 4) X d_L_sum_4 2 rfl ?_
  refine jg_hcall (pc := 5) X (m_11_sum rv1 rv2 hw0 (op_sum h)) jM_11_sum ky_1330 (jl_0_11 hn) rfl rfl rfl rfl rfl (Nat.le_of_ble_eq_true rfl) d_L_sum_5 ⟨Nat.le_of_ble_eq_true rfl, Nat.le_of_ble_eq_true rfl⟩ ⟨Nat.le_of_ble_eq_true rfl, Nat.le_of_ble_eq_true rfl⟩ (fun E C1 hw1 hE => ?_) (fun x C1 rx hw1 hp => ?_)
  · rcases hE with ⟨rfl, hE⟩ | ⟨rfl, hE⟩
    · refine ⟨[], ⟨0, 10, 13, 21⟩, [⟨0, 10, 17, 48⟩], htab, (fun z hz => by cases hz), by decide, by decide, ky_766, kn_778, fun q9 => ?_⟩
      refine jg_sastore (pc := 13) X [(4, .ref q9), (0, jr Z 0), (1, jI v1), (2, jI v2), (3, jr Z 356)] d_L_sum_13 (by decide) rfl ?_
      refine jg_iconst (pc := 15) X d_L_sum_15 ?_
      refine jg_ws (ws' := jws (jZo Z (jsV Z 5000)) n C1) (by rw [jZo_id]) ?_
      exact jg_hret (pc := 16) X hAe hlocks hr d_L_sum_16 ⟨Nat.le_of_ble_eq_true rfl, Nat.le_of_ble_eq_true rfl⟩ ⟨by decide, by decide⟩ hw1 (Or.inr ⟨by decide, by decide, hE⟩)
    · refine ⟨[⟨0, 10, 13, 21⟩], ⟨0, 10, 17, 48⟩, [], htab, (fun z hz => by
          simp only [List.mem_cons, List.not_mem_nil, or_false] at hz
          rcases hz with rfl
          · exact ⟨by decide, jIOB, ky_766, hN _ (by decide +kernel) _ (by decide +kernel) (by decide +kernel)⟩), by decide, by decide, ky_984, kn_1000, fun q9 => ?_⟩
      refine jg_sastore (pc := 17) X [(4, .ref q9), (0, jr Z 0), (1, jI v1), (2, jI v2), (3, jr Z 356)] d_L_sum_17 (by decide) rfl ?_
      refine jg_iconst (pc := 19) X d_L_sum_19 ?_
      refine jg_ws (ws' := jws (jZo Z (jsV Z 5000)) n C1) (by rw [jZo_id]) ?_
      exact jg_hret (pc := 20) X hAe hlocks hr d_L_sum_20 ⟨Nat.le_of_ble_eq_true rfl, Nat.le_of_ble_eq_true rfl⟩ ⟨by decide, by decide⟩ hw1 (Or.inr ⟨by decide, by decide, hE⟩)
  · obtain ⟨rfl, hp⟩ := hp
    refine jg_i2l (pc := 8) X d_L_sum_8 ?_
    refine jg_lastO (pc := 9) X hn d_L_sum_9 (fun v hv => ?_)
    refine jg_goto (tgt := 21) (pc := 10) X d_L_sum_10 (by decide) ?_
    refine jg_iconst (pc := 21) X d_L_sum_21 ?_
    exact jg_hret (pc := 22) X hAe hlocks hr d_L_sum_22 ⟨Nat.le_of_ble_eq_true rfl, Nat.le_of_ble_eq_true rfl⟩ ⟨by decide, by decide⟩ hw1 (Or.inl ⟨rfl, x, rx, hv, hp⟩)
set_option maxHeartbeats 4000000 in
set_option maxRecDepth 100000 in
theorem h_kinds {l : Launch} {Z : jE} {n : Nat} {C : jC} {K : Int} {v1 : Int} {v2 : Int} (rv1 : jRng v1) (rv2 : jRng v2) (hw0 : jWF n C) (h : rAll C K) : jH l y_L_kinds method_32_code 5 hh_kinds q_L_kinds Z n C [jr Z 0, jI v1, jI v2, jr Z 356] (hP cvI (wp_12_kinds v1 v2) K) := by
  have hn := hw0.2.2.1
  refine jH_of (lv0 := [(0, jr Z 0), (1, jI v1), (2, jI v2), (3, jr Z 356)]) (by decide) (Nat.le_of_ble_eq_true rfl) rfl ?_
  intro p e s m args below meth c A sz X hAe hr hlocks htab hN
  refine jg_aload_n (pc := 0) X d_L_kinds_0 3 rfl ?_
  refine jg_iconst (pc := 1) X d_L_kinds_1 ?_
  refine jg_aload_n (pc := 2) X d_L_kinds_2 0 rfl ?_
  refine jg_iload_n (pc := 3) X d_L_kinds_3 1 rfl ?_
  refine jg_iload_n (pc := 4) X d_L_kinds_4 2 rfl ?_
  refine jg_hcall (pc := 5) X (m_11_kinds rv1 rv2 hw0 (op_kinds h)) jM_11_kinds ky_1347 (jl_0_11 hn) rfl rfl rfl rfl rfl (Nat.le_of_ble_eq_true rfl) d_L_kinds_5 ⟨Nat.le_of_ble_eq_true rfl, Nat.le_of_ble_eq_true rfl⟩ ⟨Nat.le_of_ble_eq_true rfl, Nat.le_of_ble_eq_true rfl⟩ (fun E C1 hw1 hE => ?_) (fun x C1 rx hw1 hp => ?_)
  · obtain ⟨rfl, hE⟩ := hE
    refine ⟨[], ⟨0, 10, 13, 21⟩, [], htab, (fun z hz => by cases hz), by decide, by decide, ky_766, kn_778, fun q9 => ?_⟩
    refine jg_sastore (pc := 13) X [(4, .ref q9), (0, jr Z 0), (1, jI v1), (2, jI v2), (3, jr Z 356)] d_L_kinds_13 (by decide) rfl ?_
    refine jg_iconst (pc := 15) X d_L_kinds_15 ?_
    refine jg_ws (ws' := jws (jZo Z (jsV Z 5000)) n C1) (by rw [jZo_id]) ?_
    exact jg_hret (pc := 16) X hAe hlocks hr d_L_kinds_16 ⟨Nat.le_of_ble_eq_true rfl, Nat.le_of_ble_eq_true rfl⟩ ⟨by decide, by decide⟩ hw1 (Or.inr ⟨by decide, by decide, hE⟩)
  · obtain ⟨rfl, hp⟩ := hp
    refine jg_i2l (pc := 8) X d_L_kinds_8 ?_
    refine jg_lastO (pc := 9) X hn d_L_kinds_9 (fun v hv => ?_)
    refine jg_goto (tgt := 17) (pc := 10) X d_L_kinds_10 (by decide) ?_
    refine jg_iconst (pc := 17) X d_L_kinds_17 ?_
    exact jg_hret (pc := 18) X hAe hlocks hr d_L_kinds_18 ⟨Nat.le_of_ble_eq_true rfl, Nat.le_of_ble_eq_true rfl⟩ ⟨by decide, by decide⟩ hw1 (Or.inl ⟨rfl, x, rx, hv, hp⟩)
set_option maxHeartbeats 4000000 in
set_option maxRecDepth 100000 in
theorem h_by {l : Launch} {Z : jE} {n : Nat} {C : jC} {K : Int} {v1 : Int} {v2 : Int} (rv1 : jRng v1) (rv2 : jRng v2) (hw0 : jWF n C) (h : rAll C K) : jH l y_L_by method_33_code 5 hh_by q_L_by Z n C [jr Z 0, jI v1, jI v2, jr Z 356] (hP cvI (wp_12_by v1 v2) K) := by
  have hn := hw0.2.2.1
  refine jH_of (lv0 := [(0, jr Z 0), (1, jI v1), (2, jI v2), (3, jr Z 356)]) (by decide) (Nat.le_of_ble_eq_true rfl) rfl ?_
  intro p e s m args below meth c A sz X hAe hr hlocks htab hN
  refine jg_aload_n (pc := 0) X d_L_by_0 3 rfl ?_
  refine jg_iconst (pc := 1) X d_L_by_1 ?_
  refine jg_aload_n (pc := 2) X d_L_by_2 0 rfl ?_
  refine jg_iload_n (pc := 3) X d_L_by_3 1 rfl ?_
  refine jg_iload_n (pc := 4) X d_L_by_4 2 rfl ?_
  refine jg_hcall (pc := 5) X (m_11_by rv1 rv2 hw0 (op_by h)) jM_11_by ky_1366 (jl_0_11 hn) rfl rfl rfl rfl rfl (Nat.le_of_ble_eq_true rfl) d_L_by_5 ⟨Nat.le_of_ble_eq_true rfl, Nat.le_of_ble_eq_true rfl⟩ ⟨Nat.le_of_ble_eq_true rfl, Nat.le_of_ble_eq_true rfl⟩ (fun E C1 hw1 hE => ?_) (fun x C1 rx hw1 hp => ?_)
  · obtain ⟨rfl, hE⟩ := hE
    refine ⟨[], ⟨0, 10, 13, 21⟩, [], htab, (fun z hz => by cases hz), by decide, by decide, ky_766, kn_778, fun q9 => ?_⟩
    refine jg_sastore (pc := 13) X [(4, .ref q9), (0, jr Z 0), (1, jI v1), (2, jI v2), (3, jr Z 356)] d_L_by_13 (by decide) rfl ?_
    refine jg_iconst (pc := 15) X d_L_by_15 ?_
    refine jg_ws (ws' := jws (jZo Z (jsV Z 5000)) n C1) (by rw [jZo_id]) ?_
    exact jg_hret (pc := 16) X hAe hlocks hr d_L_by_16 ⟨Nat.le_of_ble_eq_true rfl, Nat.le_of_ble_eq_true rfl⟩ ⟨by decide, by decide⟩ hw1 (Or.inr ⟨by decide, by decide, hE⟩)
  · obtain ⟨rfl, hp⟩ := hp
    refine jg_i2l (pc := 8) X d_L_by_8 ?_
    refine jg_lastO (pc := 9) X hn d_L_by_9 (fun v hv => ?_)
    refine jg_goto (tgt := 17) (pc := 10) X d_L_by_10 (by decide) ?_
    refine jg_iconst (pc := 17) X d_L_by_17 ?_
    exact jg_hret (pc := 18) X hAe hlocks hr d_L_by_18 ⟨Nat.le_of_ble_eq_true rfl, Nat.le_of_ble_eq_true rfl⟩ ⟨by decide, by decide⟩ hw1 (Or.inl ⟨rfl, x, rx, hv, hp⟩)
set_option maxHeartbeats 4000000 in
set_option maxRecDepth 100000 in
theorem h_group {l : Launch} {Z : jE} {n : Nat} {C : jC} {K : Int} {v1 : Int} {v2 : Int} {v3 : Int} {v4 : Int} (rv1 : jRng v1) (rv2 : jRng v2) (rv3 : jRng v3) (rv4 : jRng v4) (hw0 : jWF n C) (h : rAll C K) : jH l y_L_group method_34_code 7 hh_group q_L_group Z n C [jr Z 0, jI v1, jI v2, jI v3, jI v4, jr Z 356] (hP cvI (wp_12_group v1 v2 v3 v4) K) := by
  have hn := hw0.2.2.1
  refine jH_of (lv0 := [(0, jr Z 0), (1, jI v1), (2, jI v2), (3, jI v3), (4, jI v4), (5, jr Z 356)]) (by decide) (Nat.le_of_ble_eq_true rfl) rfl ?_
  intro p e s m args below meth c A sz X hAe hr hlocks htab hN
  refine jg_aload (pc := 0) X d_L_group_0 5 rfl ?_
  refine jg_iconst (pc := 2) X d_L_group_2 ?_
  refine jg_aload_n (pc := 3) X d_L_group_3 0 rfl ?_
  refine jg_iload_n (pc := 4) X d_L_group_4 1 rfl ?_
  refine jg_iload_n (pc := 5) X d_L_group_5 2 rfl ?_
  refine jg_iload_n (pc := 6) X d_L_group_6 3 rfl ?_
  refine jg_iload (pc := 7) X d_L_group_7 4 rfl ?_
  refine jg_hcall (pc := 9) X (m_11_group rv1 rv2 rv3 rv4 hw0 (op_group h)) jM_11_group ky_1377 (jl_0_11 hn) rfl rfl rfl rfl rfl (Nat.le_of_ble_eq_true rfl) d_L_group_9 ⟨Nat.le_of_ble_eq_true rfl, Nat.le_of_ble_eq_true rfl⟩ ⟨Nat.le_of_ble_eq_true rfl, Nat.le_of_ble_eq_true rfl⟩ (fun E C1 hw1 hE => ?_) (fun x C1 rx hw1 hp => ?_)
  · rcases hE with ⟨rfl, hE⟩ | ⟨rfl, hE⟩ | ⟨rfl, hE⟩
    · refine ⟨[], ⟨0, 14, 17, 21⟩, [⟨0, 14, 21, 39⟩, ⟨0, 14, 25, 13⟩], htab, (fun z hz => by cases hz), by decide, by decide, ky_766, kn_778, fun q9 => ?_⟩
      refine jg_sastore (pc := 17) X [(6, .ref q9), (0, jr Z 0), (1, jI v1), (2, jI v2), (3, jI v3), (4, jI v4), (5, jr Z 356)] d_L_group_17 (by decide) rfl ?_
      refine jg_iconst (pc := 19) X d_L_group_19 ?_
      refine jg_ws (ws' := jws (jZo Z (jsV Z 5000)) n C1) (by rw [jZo_id]) ?_
      exact jg_hret (pc := 20) X hAe hlocks hr d_L_group_20 ⟨Nat.le_of_ble_eq_true rfl, Nat.le_of_ble_eq_true rfl⟩ ⟨by decide, by decide⟩ hw1 (Or.inr ⟨by decide, by decide, hE⟩)
    · refine ⟨[⟨0, 14, 17, 21⟩], ⟨0, 14, 21, 39⟩, [⟨0, 14, 25, 13⟩], htab, (fun z hz => by
          simp only [List.mem_cons, List.not_mem_nil, or_false] at hz
          rcases hz with rfl
          · exact ⟨by decide, jIOB, ky_766, hN _ (by decide +kernel) _ (by decide +kernel) (by decide +kernel)⟩), by decide, by decide, ky_949, kn_960, fun q9 => ?_⟩
      refine jg_sastore (pc := 21) X [(6, .ref q9), (0, jr Z 0), (1, jI v1), (2, jI v2), (3, jI v3), (4, jI v4), (5, jr Z 356)] d_L_group_21 (by decide) rfl ?_
      refine jg_iconst (pc := 23) X d_L_group_23 ?_
      refine jg_ws (ws' := jws (jZo Z (jsV Z 5000)) n C1) (by rw [jZo_id]) ?_
      exact jg_hret (pc := 24) X hAe hlocks hr d_L_group_24 ⟨Nat.le_of_ble_eq_true rfl, Nat.le_of_ble_eq_true rfl⟩ ⟨by decide, by decide⟩ hw1 (Or.inr ⟨by decide, by decide, hE⟩)
    · refine ⟨[⟨0, 14, 17, 21⟩, ⟨0, 14, 21, 39⟩], ⟨0, 14, 25, 13⟩, [], htab, (fun z hz => by
          simp only [List.mem_cons, List.not_mem_nil, or_false] at hz
          rcases hz with rfl | rfl
          · exact ⟨by decide, jIOB, ky_766, hN _ (by decide +kernel) _ (by decide +kernel) (by decide +kernel)⟩
          · exact ⟨by decide, jNSE, ky_949, hN _ (by decide +kernel) _ (by decide +kernel) (by decide +kernel)⟩), by decide, by decide, ky_451, kn_614, fun q9 => ?_⟩
      refine jg_sastore (pc := 25) X [(6, .ref q9), (0, jr Z 0), (1, jI v1), (2, jI v2), (3, jI v3), (4, jI v4), (5, jr Z 356)] d_L_group_25 (by decide) rfl ?_
      refine jg_iconst (pc := 27) X d_L_group_27 ?_
      refine jg_ws (ws' := jws (jZo Z (jsV Z 5000)) n C1) (by rw [jZo_id]) ?_
      exact jg_hret (pc := 28) X hAe hlocks hr d_L_group_28 ⟨Nat.le_of_ble_eq_true rfl, Nat.le_of_ble_eq_true rfl⟩ ⟨by decide, by decide⟩ hw1 (Or.inr ⟨by decide, by decide, hE⟩)
  · obtain ⟨rfl, hp⟩ := hp
    refine jg_i2l (pc := 12) X d_L_group_12 ?_
    refine jg_lastO (pc := 13) X hn d_L_group_13 (fun v hv => ?_)
    refine jg_goto (tgt := 29) (pc := 14) X d_L_group_14 (by decide) ?_
    refine jg_iconst (pc := 29) X d_L_group_29 ?_
    exact jg_hret (pc := 30) X hAe hlocks hr d_L_group_30 ⟨Nat.le_of_ble_eq_true rfl, Nat.le_of_ble_eq_true rfl⟩ ⟨by decide, by decide⟩ hw1 (Or.inl ⟨rfl, x, rx, hv, hp⟩)
set_option maxHeartbeats 4000000 in
set_option maxRecDepth 100000 in
theorem h_total {l : Launch} {Z : jE} {n : Nat} {C : jC} {K : Int} {v1 : Int} {v2 : Int} {v3 : Int} {v4 : Int} (rv1 : jRng v1) (rv2 : jRng v2) (rv3 : jRng v3) (rv4 : jRng v4) (hw0 : jWF n C) (h : rAll C K) : jH l y_L_total method_35_code 7 hh_total q_L_total Z n C [jr Z 0, jI v1, jI v2, jI v3, jI v4, jr Z 356] (hP cvI (wp_12_total v1 v2 v3 v4) K) := by
  have hn := hw0.2.2.1
  refine jH_of (lv0 := [(0, jr Z 0), (1, jI v1), (2, jI v2), (3, jI v3), (4, jI v4), (5, jr Z 356)]) (by decide) (Nat.le_of_ble_eq_true rfl) rfl ?_
  intro p e s m args below meth c A sz X hAe hr hlocks htab hN
  refine jg_aload (pc := 0) X d_L_total_0 5 rfl ?_
  refine jg_iconst (pc := 2) X d_L_total_2 ?_
  refine jg_aload_n (pc := 3) X d_L_total_3 0 rfl ?_
  refine jg_iload_n (pc := 4) X d_L_total_4 1 rfl ?_
  refine jg_iload_n (pc := 5) X d_L_total_5 2 rfl ?_
  refine jg_iload_n (pc := 6) X d_L_total_6 3 rfl ?_
  refine jg_iload (pc := 7) X d_L_total_7 4 rfl ?_
  refine jg_hcall (pc := 9) X (m_11_total rv1 rv2 rv3 rv4 hw0 (op_total h)) jM_11_total ky_1400 (jl_0_11 hn) rfl rfl rfl rfl rfl (Nat.le_of_ble_eq_true rfl) d_L_total_9 ⟨Nat.le_of_ble_eq_true rfl, Nat.le_of_ble_eq_true rfl⟩ ⟨Nat.le_of_ble_eq_true rfl, Nat.le_of_ble_eq_true rfl⟩ (fun E C1 hw1 hE => ?_) (fun x C1 rx hw1 hp => ?_)
  · rcases hE with ⟨rfl, hE⟩ | ⟨rfl, hE⟩ | ⟨rfl, hE⟩
    · refine ⟨[], ⟨0, 14, 17, 21⟩, [⟨0, 14, 21, 48⟩, ⟨0, 14, 25, 13⟩], htab, (fun z hz => by cases hz), by decide, by decide, ky_766, kn_778, fun q9 => ?_⟩
      refine jg_sastore (pc := 17) X [(6, .ref q9), (0, jr Z 0), (1, jI v1), (2, jI v2), (3, jI v3), (4, jI v4), (5, jr Z 356)] d_L_total_17 (by decide) rfl ?_
      refine jg_iconst (pc := 19) X d_L_total_19 ?_
      refine jg_ws (ws' := jws (jZo Z (jsV Z 5000)) n C1) (by rw [jZo_id]) ?_
      exact jg_hret (pc := 20) X hAe hlocks hr d_L_total_20 ⟨Nat.le_of_ble_eq_true rfl, Nat.le_of_ble_eq_true rfl⟩ ⟨by decide, by decide⟩ hw1 (Or.inr ⟨by decide, by decide, hE⟩)
    · refine ⟨[⟨0, 14, 17, 21⟩], ⟨0, 14, 21, 48⟩, [⟨0, 14, 25, 13⟩], htab, (fun z hz => by
          simp only [List.mem_cons, List.not_mem_nil, or_false] at hz
          rcases hz with rfl
          · exact ⟨by decide, jIOB, ky_766, hN _ (by decide +kernel) _ (by decide +kernel) (by decide +kernel)⟩), by decide, by decide, ky_984, kn_1000, fun q9 => ?_⟩
      refine jg_sastore (pc := 21) X [(6, .ref q9), (0, jr Z 0), (1, jI v1), (2, jI v2), (3, jI v3), (4, jI v4), (5, jr Z 356)] d_L_total_21 (by decide) rfl ?_
      refine jg_iconst (pc := 23) X d_L_total_23 ?_
      refine jg_ws (ws' := jws (jZo Z (jsV Z 5000)) n C1) (by rw [jZo_id]) ?_
      exact jg_hret (pc := 24) X hAe hlocks hr d_L_total_24 ⟨Nat.le_of_ble_eq_true rfl, Nat.le_of_ble_eq_true rfl⟩ ⟨by decide, by decide⟩ hw1 (Or.inr ⟨by decide, by decide, hE⟩)
    · refine ⟨[⟨0, 14, 17, 21⟩, ⟨0, 14, 21, 48⟩], ⟨0, 14, 25, 13⟩, [], htab, (fun z hz => by
          simp only [List.mem_cons, List.not_mem_nil, or_false] at hz
          rcases hz with rfl | rfl
          · exact ⟨by decide, jIOB, ky_766, hN _ (by decide +kernel) _ (by decide +kernel) (by decide +kernel)⟩
          · exact ⟨by decide, jISE, ky_984, hN _ (by decide +kernel) _ (by decide +kernel) (by decide +kernel)⟩), by decide, by decide, ky_451, kn_614, fun q9 => ?_⟩
      refine jg_sastore (pc := 25) X [(6, .ref q9), (0, jr Z 0), (1, jI v1), (2, jI v2), (3, jI v3), (4, jI v4), (5, jr Z 356)] d_L_total_25 (by decide) rfl ?_
      refine jg_iconst (pc := 27) X d_L_total_27 ?_
      refine jg_ws (ws' := jws (jZo Z (jsV Z 5000)) n C1) (by rw [jZo_id]) ?_
      exact jg_hret (pc := 28) X hAe hlocks hr d_L_total_28 ⟨Nat.le_of_ble_eq_true rfl, Nat.le_of_ble_eq_true rfl⟩ ⟨by decide, by decide⟩ hw1 (Or.inr ⟨by decide, by decide, hE⟩)
  · obtain ⟨rfl, hp⟩ := hp
    refine jg_i2l (pc := 12) X d_L_total_12 ?_
    refine jg_lastO (pc := 13) X hn d_L_total_13 (fun v hv => ?_)
    refine jg_goto (tgt := 29) (pc := 14) X d_L_total_14 (by decide) ?_
    refine jg_iconst (pc := 29) X d_L_total_29 ?_
    exact jg_hret (pc := 30) X hAe hlocks hr d_L_total_30 ⟨Nat.le_of_ble_eq_true rfl, Nat.le_of_ble_eq_true rfl⟩ ⟨by decide, by decide⟩ hw1 (Or.inl ⟨rfl, x, rx, hv, hp⟩)
set_option maxHeartbeats 4000000 in
set_option maxRecDepth 100000 in
theorem h_middle {l : Launch} {Z : jE} {n : Nat} {C : jC} {K : Int} {v1 : Int} {v2 : Int} (rv1 : jRng v1) (rv2 : jRng v2) (hw0 : jWF n C) (h : rAll C K) : jH l y_L_middle method_36_code 5 hh_middle q_L_middle Z n C [jr Z 0, jI v1, jI v2, jr Z 356] (hP cvI (wp_12_middle v1 v2) K) := by
  have hn := hw0.2.2.1
  refine jH_of (lv0 := [(0, jr Z 0), (1, jI v1), (2, jI v2), (3, jr Z 356)]) (by decide) (Nat.le_of_ble_eq_true rfl) rfl ?_
  intro p e s m args below meth c A sz X hAe hr hlocks htab hN
  refine jg_aload_n (pc := 0) X d_L_middle_0 3 rfl ?_
  refine jg_iconst (pc := 1) X d_L_middle_1 ?_
  refine jg_aload_n (pc := 2) X d_L_middle_2 0 rfl ?_
  refine jg_iload_n (pc := 3) X d_L_middle_3 1 rfl ?_
  refine jg_iload_n (pc := 4) X d_L_middle_4 2 rfl ?_
  refine jg_hcall (pc := 5) X (m_11_middle rv1 rv2 hw0 (op_middle h)) jM_11_middle ky_1411 (jl_0_11 hn) rfl rfl rfl rfl rfl (Nat.le_of_ble_eq_true rfl) d_L_middle_5 ⟨Nat.le_of_ble_eq_true rfl, Nat.le_of_ble_eq_true rfl⟩ ⟨Nat.le_of_ble_eq_true rfl, Nat.le_of_ble_eq_true rfl⟩ (fun E C1 hw1 hE => ?_) (fun x C1 rx hw1 hp => ?_)
  · obtain ⟨rfl, hE⟩ := hE
    refine ⟨[], ⟨0, 10, 13, 21⟩, [], htab, (fun z hz => by cases hz), by decide, by decide, ky_766, kn_778, fun q9 => ?_⟩
    refine jg_sastore (pc := 13) X [(4, .ref q9), (0, jr Z 0), (1, jI v1), (2, jI v2), (3, jr Z 356)] d_L_middle_13 (by decide) rfl ?_
    refine jg_iconst (pc := 15) X d_L_middle_15 ?_
    refine jg_ws (ws' := jws (jZo Z (jsV Z 5000)) n C1) (by rw [jZo_id]) ?_
    exact jg_hret (pc := 16) X hAe hlocks hr d_L_middle_16 ⟨Nat.le_of_ble_eq_true rfl, Nat.le_of_ble_eq_true rfl⟩ ⟨by decide, by decide⟩ hw1 (Or.inr ⟨by decide, by decide, hE⟩)
  · have hn1 := hw1.2.2.1
    refine jg_i2l (pc := 8) X d_L_middle_8 ?_
    refine jg_lastO (pc := 9) X hn d_L_middle_9 (fun v hv => ?_)
    refine jg_goto (tgt := 17) (pc := 10) X d_L_middle_10 (by decide) ?_
    refine jg_iconst (pc := 17) X d_L_middle_17 ?_
    exact jg_hret (pc := 18) X hAe hlocks hr d_L_middle_18 ⟨Nat.le_of_ble_eq_true rfl, Nat.le_of_ble_eq_true rfl⟩ ⟨by decide, by decide⟩ hw1 (Or.inl ⟨rfl, x, rx, hv, hp⟩)
set_option maxHeartbeats 4000000 in
set_option maxRecDepth 100000 in
theorem h_twice {l : Launch} {Z : jE} {n : Nat} {C : jC} {K : Int} {v1 : Int} (rv1 : jRng v1) (hw0 : jWF n C) (h : rAll C K) : jH l y_L_twice method_37_code 4 hh_twice q_L_twice Z n C [jr Z 0, jI v1, jr Z 356] (hP cvI (wp_12_twice v1) K) := by
  have hn := hw0.2.2.1
  refine jH_of (lv0 := [(0, jr Z 0), (1, jI v1), (2, jr Z 356)]) (by decide) (Nat.le_of_ble_eq_true rfl) rfl ?_
  intro p e s m args below meth c A sz X hAe hr hlocks htab hN
  refine jg_aload_n (pc := 0) X d_L_twice_0 2 rfl ?_
  refine jg_iconst (pc := 1) X d_L_twice_1 ?_
  refine jg_aload_n (pc := 2) X d_L_twice_2 0 rfl ?_
  refine jg_iload_n (pc := 3) X d_L_twice_3 1 rfl ?_
  refine jg_hcall (pc := 4) X (m_11_twice rv1 hw0 (op_twice h)) jM_11_twice ky_1422 (jl_0_11 hn) rfl rfl rfl rfl rfl (Nat.le_of_ble_eq_true rfl) d_L_twice_4 ⟨Nat.le_of_ble_eq_true rfl, Nat.le_of_ble_eq_true rfl⟩ ⟨Nat.le_of_ble_eq_true rfl, Nat.le_of_ble_eq_true rfl⟩ (fun E C1 hw1 hE => ?_) (fun x C1 rx hw1 hp => ?_)
  · obtain ⟨rfl, hE⟩ := hE
    refine ⟨[], ⟨0, 9, 12, 21⟩, [], htab, (fun z hz => by cases hz), by decide, by decide, ky_766, kn_778, fun q9 => ?_⟩
    refine jg_sastore_n (pc := 12) X [(3, .ref q9), (0, jr Z 0), (1, jI v1), (2, jr Z 356)] d_L_twice_12 (by decide) rfl ?_
    refine jg_iconst (pc := 13) X d_L_twice_13 ?_
    refine jg_ws (ws' := jws (jZo Z (jsV Z 5000)) n C1) (by rw [jZo_id]) ?_
    exact jg_hret (pc := 14) X hAe hlocks hr d_L_twice_14 ⟨Nat.le_of_ble_eq_true rfl, Nat.le_of_ble_eq_true rfl⟩ ⟨by decide, by decide⟩ hw1 (Or.inr ⟨by decide, by decide, hE⟩)
  · obtain ⟨rfl, hp⟩ := hp
    refine jg_i2l (pc := 7) X d_L_twice_7 ?_
    refine jg_lastO (pc := 8) X hn d_L_twice_8 (fun v hv => ?_)
    refine jg_goto (tgt := 15) (pc := 9) X d_L_twice_9 (by decide) ?_
    refine jg_iconst (pc := 15) X d_L_twice_15 ?_
    exact jg_hret (pc := 16) X hAe hlocks hr d_L_twice_16 ⟨Nat.le_of_ble_eq_true rfl, Nat.le_of_ble_eq_true rfl⟩ ⟨by decide, by decide⟩ hw1 (Or.inl ⟨rfl, x, rx, hv, hp⟩)
set_option maxHeartbeats 4000000 in
set_option maxRecDepth 100000 in
theorem h_barred {l : Launch} {Z : jE} {n : Nat} {C : jC} {K : Int} {v1 : Int} (rv1 : jRng v1) (hw0 : jWF n C) (h : rAll C K) : jH l y_L_barred method_38_code 4 hh_barred q_L_barred Z n C [jr Z 0, jI v1, jr Z 356] (hP cvI (wp_12_barred v1) K) := by
  have hn := hw0.2.2.1
  refine jH_of (lv0 := [(0, jr Z 0), (1, jI v1), (2, jr Z 356)]) (by decide) (Nat.le_of_ble_eq_true rfl) rfl ?_
  intro p e s m args below meth c A sz X hAe hr hlocks htab hN
  refine jg_aload_n (pc := 0) X d_L_barred_0 2 rfl ?_
  refine jg_iconst (pc := 1) X d_L_barred_1 ?_
  refine jg_aload_n (pc := 2) X d_L_barred_2 0 rfl ?_
  refine jg_iload_n (pc := 3) X d_L_barred_3 1 rfl ?_
  refine jg_hcall (pc := 4) X (m_11_barred rv1 hw0 (op_barred h)) jM_11_barred ky_1438 (jl_0_11 hn) rfl rfl rfl rfl rfl (Nat.le_of_ble_eq_true rfl) d_L_barred_4 ⟨Nat.le_of_ble_eq_true rfl, Nat.le_of_ble_eq_true rfl⟩ ⟨Nat.le_of_ble_eq_true rfl, Nat.le_of_ble_eq_true rfl⟩ (fun E C1 hw1 hE => ?_) (fun x C1 rx hw1 hp => ?_)
  · obtain ⟨rfl, hE⟩ := hE
    refine ⟨[], ⟨0, 9, 12, 21⟩, [], htab, (fun z hz => by cases hz), by decide, by decide, ky_766, kn_778, fun q9 => ?_⟩
    refine jg_sastore_n (pc := 12) X [(3, .ref q9), (0, jr Z 0), (1, jI v1), (2, jr Z 356)] d_L_barred_12 (by decide) rfl ?_
    refine jg_iconst (pc := 13) X d_L_barred_13 ?_
    refine jg_ws (ws' := jws (jZo Z (jsV Z 5000)) n C1) (by rw [jZo_id]) ?_
    exact jg_hret (pc := 14) X hAe hlocks hr d_L_barred_14 ⟨Nat.le_of_ble_eq_true rfl, Nat.le_of_ble_eq_true rfl⟩ ⟨by decide, by decide⟩ hw1 (Or.inr ⟨by decide, by decide, hE⟩)
  · obtain ⟨rfl, hp⟩ := hp
    refine jg_i2l (pc := 7) X d_L_barred_7 ?_
    refine jg_lastO (pc := 8) X hn d_L_barred_8 (fun v hv => ?_)
    refine jg_goto (tgt := 15) (pc := 9) X d_L_barred_9 (by decide) ?_
    refine jg_iconst (pc := 15) X d_L_barred_15 ?_
    exact jg_hret (pc := 16) X hAe hlocks hr d_L_barred_16 ⟨Nat.le_of_ble_eq_true rfl, Nat.le_of_ble_eq_true rfl⟩ ⟨by decide, by decide⟩ hw1 (Or.inl ⟨rfl, x, rx, hv, hp⟩)
set_option maxHeartbeats 4000000 in
set_option maxRecDepth 100000 in
theorem h_find {l : Launch} {Z : jE} {n : Nat} {C : jC} {K : Int} {v1 : Int} {v2 : Int} {v3 : Int} {v4 : Int} (rv1 : jRng v1) (rv2 : jRng v2) (rv3 : jRng v3) (rv4 : jRng v4) (hw0 : jWF n C) (h : rAll C K) : jH l y_L_find method_39_code 7 hh_find q_L_find Z n C [jr Z 0, jI v1, jI v2, jI v3, jI v4, jr Z 356] (hP cvI (wp_12_find v1 v2 v3 v4) K) := by
  have hn := hw0.2.2.1
  refine jH_of (lv0 := [(0, jr Z 0), (1, jI v1), (2, jI v2), (3, jI v3), (4, jI v4), (5, jr Z 356)]) (by decide) (Nat.le_of_ble_eq_true rfl) rfl ?_
  intro p e s m args below meth c A sz X hAe hr hlocks htab hN
  refine jg_aload (pc := 0) X d_L_find_0 5 rfl ?_
  refine jg_iconst (pc := 2) X d_L_find_2 ?_
  refine jg_aload_n (pc := 3) X d_L_find_3 0 rfl ?_
  refine jg_iload_n (pc := 4) X d_L_find_4 1 rfl ?_
  refine jg_iload_n (pc := 5) X d_L_find_5 2 rfl ?_
  refine jg_iload_n (pc := 6) X d_L_find_6 3 rfl ?_
  refine jg_iload (pc := 7) X d_L_find_7 4 rfl ?_
  refine jg_hcall (pc := 9) X (m_11_find rv1 rv2 rv3 rv4 hw0 (op_find h)) jM_11_find ky_1445 (jl_0_11 hn) rfl rfl rfl rfl rfl (Nat.le_of_ble_eq_true rfl) d_L_find_9 ⟨Nat.le_of_ble_eq_true rfl, Nat.le_of_ble_eq_true rfl⟩ ⟨Nat.le_of_ble_eq_true rfl, Nat.le_of_ble_eq_true rfl⟩ (fun E C1 hw1 hE => ?_) (fun x C1 rx hw1 hp => ?_)
  · rcases hE with ⟨rfl, hE⟩ | ⟨rfl, hE⟩
    · refine ⟨[], ⟨0, 14, 17, 21⟩, [⟨0, 14, 21, 13⟩], htab, (fun z hz => by cases hz), by decide, by decide, ky_766, kn_778, fun q9 => ?_⟩
      refine jg_sastore (pc := 17) X [(6, .ref q9), (0, jr Z 0), (1, jI v1), (2, jI v2), (3, jI v3), (4, jI v4), (5, jr Z 356)] d_L_find_17 (by decide) rfl ?_
      refine jg_iconst (pc := 19) X d_L_find_19 ?_
      refine jg_ws (ws' := jws (jZo Z (jsV Z 5000)) n C1) (by rw [jZo_id]) ?_
      exact jg_hret (pc := 20) X hAe hlocks hr d_L_find_20 ⟨Nat.le_of_ble_eq_true rfl, Nat.le_of_ble_eq_true rfl⟩ ⟨by decide, by decide⟩ hw1 (Or.inr ⟨by decide, by decide, hE⟩)
    · refine ⟨[⟨0, 14, 17, 21⟩], ⟨0, 14, 21, 13⟩, [], htab, (fun z hz => by
          simp only [List.mem_cons, List.not_mem_nil, or_false] at hz
          rcases hz with rfl
          · exact ⟨by decide, jIOB, ky_766, hN _ (by decide +kernel) _ (by decide +kernel) (by decide +kernel)⟩), by decide, by decide, ky_451, kn_614, fun q9 => ?_⟩
      refine jg_sastore (pc := 21) X [(6, .ref q9), (0, jr Z 0), (1, jI v1), (2, jI v2), (3, jI v3), (4, jI v4), (5, jr Z 356)] d_L_find_21 (by decide) rfl ?_
      refine jg_iconst (pc := 23) X d_L_find_23 ?_
      refine jg_ws (ws' := jws (jZo Z (jsV Z 5000)) n C1) (by rw [jZo_id]) ?_
      exact jg_hret (pc := 24) X hAe hlocks hr d_L_find_24 ⟨Nat.le_of_ble_eq_true rfl, Nat.le_of_ble_eq_true rfl⟩ ⟨by decide, by decide⟩ hw1 (Or.inr ⟨by decide, by decide, hE⟩)
  · obtain ⟨rfl, hp⟩ := hp
    refine jg_i2l (pc := 12) X d_L_find_12 ?_
    refine jg_lastO (pc := 13) X hn d_L_find_13 (fun v hv => ?_)
    refine jg_goto (tgt := 25) (pc := 14) X d_L_find_14 (by decide) ?_
    refine jg_iconst (pc := 25) X d_L_find_25 ?_
    exact jg_hret (pc := 26) X hAe hlocks hr d_L_find_26 ⟨Nat.le_of_ble_eq_true rfl, Nat.le_of_ble_eq_true rfl⟩ ⟨by decide, by decide⟩ hw1 (Or.inl ⟨rfl, x, rx, hv, hp⟩)
set_option maxHeartbeats 4000000 in
set_option maxRecDepth 100000 in
theorem h_log {l : Launch} {Z : jE} {n : Nat} {C : jC} {K : Int} {v1 : Int} {v2 : Int} (rv1 : jRng v1) (rv2 : jRng v2) (hw0 : jWF n C) (h : rAll C K) : jH l y_L_log method_40_code 5 hh_log q_L_log Z n C [jr Z 0, jI v1, jI v2, jr Z 356] (hP cvI (wp_12_log v1 v2) K) := by
  have hn := hw0.2.2.1
  refine jH_of (lv0 := [(0, jr Z 0), (1, jI v1), (2, jI v2), (3, jr Z 356)]) (by decide) (Nat.le_of_ble_eq_true rfl) rfl ?_
  intro p e s m args below meth c A sz X hAe hr hlocks htab hN
  refine jg_aload_n (pc := 0) X d_L_log_0 3 rfl ?_
  refine jg_iconst (pc := 1) X d_L_log_1 ?_
  refine jg_aload_n (pc := 2) X d_L_log_2 0 rfl ?_
  refine jg_iload_n (pc := 3) X d_L_log_3 1 rfl ?_
  refine jg_iload_n (pc := 4) X d_L_log_4 2 rfl ?_
  refine jg_hcall (pc := 5) X (m_11_log rv1 rv2 hw0 (op_log h)) jM_11_log ky_1452 (jl_0_11 hn) rfl rfl rfl rfl rfl (Nat.le_of_ble_eq_true rfl) d_L_log_5 ⟨Nat.le_of_ble_eq_true rfl, Nat.le_of_ble_eq_true rfl⟩ ⟨Nat.le_of_ble_eq_true rfl, Nat.le_of_ble_eq_true rfl⟩ (fun E C1 hw1 hE => ?_) (fun x C1 rx hw1 hp => ?_)
  · obtain ⟨rfl, hE⟩ := hE
    refine ⟨[], ⟨0, 10, 13, 39⟩, [], htab, (fun z hz => by cases hz), by decide, by decide, ky_949, kn_960, fun q9 => ?_⟩
    refine jg_sastore (pc := 13) X [(4, .ref q9), (0, jr Z 0), (1, jI v1), (2, jI v2), (3, jr Z 356)] d_L_log_13 (by decide) rfl ?_
    refine jg_iconst (pc := 15) X d_L_log_15 ?_
    refine jg_ws (ws' := jws (jZo Z (jsV Z 5000)) n C1) (by rw [jZo_id]) ?_
    exact jg_hret (pc := 16) X hAe hlocks hr d_L_log_16 ⟨Nat.le_of_ble_eq_true rfl, Nat.le_of_ble_eq_true rfl⟩ ⟨by decide, by decide⟩ hw1 (Or.inr ⟨by decide, by decide, hE⟩)
  · obtain ⟨rfl, hp⟩ := hp
    refine jg_i2l (pc := 8) X d_L_log_8 ?_
    refine jg_lastO (pc := 9) X hn d_L_log_9 (fun v hv => ?_)
    refine jg_goto (tgt := 17) (pc := 10) X d_L_log_10 (by decide) ?_
    refine jg_iconst (pc := 17) X d_L_log_17 ?_
    exact jg_hret (pc := 18) X hAe hlocks hr d_L_log_18 ⟨Nat.le_of_ble_eq_true rfl, Nat.le_of_ble_eq_true rfl⟩ ⟨by decide, by decide⟩ hw1 (Or.inl ⟨rfl, x, rx, hv, hp⟩)

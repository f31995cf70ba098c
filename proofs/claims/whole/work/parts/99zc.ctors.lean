-- the constructors, proved
set_option maxHeartbeats 4000000 in
set_option maxRecDepth 100000 in
theorem n_0 {l : Launch} {Z : jE} {C : jC} {B : Nat} (hz : ∀ d, 0 ≤ d → d < 5 → ∀ k, C ((B + d : Nat) : Int) k = 0) : jN l y_0_init prog_2_method_1_code 1 q_0_init Z C B kE 0 f_0 := by
  refine jN_of (by decide) rfl (by decide) ?_
  intro p e s m args below meth c A h0 sz X hAe hr hlocks hi
  refine jg_sload_n (pc := 0) X d_0_init_0 0 rfl ?_
  refine jg_objInit (pc := 1) X kv_234 d_0_init_1 ⟨Nat.le_of_ble_eq_true rfl, Nat.le_of_ble_eq_true rfl⟩ ?_
  have hB : (fun _ : Nat => h0) B = h0 := rfl
  refine jg_ws (ws' := (fun ad : Nat → Nat => [(h0, .inr (0, [jI 0, .null, .null, .null, .null]))]) (fun _ => h0) ++ jSg Z (fun _ => h0) C (B + 1) []) rfl ?_
  generalize (fun _ : Nat => h0) = ad0 at hB ⊢
  refine jg_sload_n (pc := 4) X d_0_init_4 0 rfl ?_
  refine jg_bipush (pc := 5) X d_0_init_5 rfl ?_
  refine jg_pushi (N := 60) (P := fun ad : Nat → Nat => [(h0, .inr (0, [jI 0, .null, .null, .null, .null]))]) (ad := ad0) (b := B + 1) (L := []) (j := B + 1) (pc := 7) X rfl (by decide) d_0_init_7 ⟨Nat.le_of_ble_eq_true rfl, Nat.le_of_ble_eq_true rfl⟩ (fun _ _ _ => rfl) rfl (fun ad' h => rfl) trivial (hz 1 (by omega) (by omega)) (fun ad1 h1 => ?_)
  replace hB := (h1 B (by omega)).trans hB
  refine jg_putF (pc := 9) (ci := 0) X hi 0 1 rfl rfl jin0 jty0 jnm0 (by decide) rfl rfl rfl rfl rfl rfl (Nat.le_of_ble_eq_true rfl) kv_237 d_0_init_9 ?_
  refine jg_ws (ws' := (fun ad : Nat → Nat => [(h0, .inr (0, [jI 0, .ref (ad (B + 1)), .null, .null, .null]))]) ad1 ++ jSg Z ad1 C (B + 1) ([1060])) rfl ?_
  refine jg_sload_n (pc := 12) X d_0_init_12 0 rfl ?_
  refine jg_bipush (pc := 13) X d_0_init_13 rfl ?_
  refine jg_pushi (N := 60) (P := fun ad : Nat → Nat => [(h0, .inr (0, [jI 0, .ref (ad (B + 1)), .null, .null, .null]))]) (ad := ad1) (b := B + 1) (L := [1060]) (j := B + 2) (pc := 15) X rfl (by decide) d_0_init_15 ⟨Nat.le_of_ble_eq_true rfl, Nat.le_of_ble_eq_true rfl⟩ (fun _ _ _ => rfl) rfl (fun ad' h => by simp only [h (B + 1) (by omega)]) (jClo_of (by decide +kernel)) (hz 2 (by omega) (by omega)) (fun ad2 h2 => ?_)
  replace hB := (h2 B (by omega)).trans hB
  refine jg_putF (pc := 17) (ci := 0) X hi 0 2 rfl rfl jin0 jty0 jnm0 (by decide) rfl rfl rfl rfl rfl rfl (Nat.le_of_ble_eq_true rfl) kv_239 d_0_init_17 ?_
  refine jg_ws (ws' := (fun ad : Nat → Nat => [(h0, .inr (0, [jI 0, .ref (ad (B + 1)), .ref (ad (B + 2)), .null, .null]))]) ad2 ++ jSg Z ad2 C (B + 1) ([1060] ++ [1060])) rfl ?_
  refine jg_sload_n (pc := 20) X d_0_init_20 0 rfl ?_
  refine jg_bipush (pc := 21) X d_0_init_21 rfl ?_
  refine jg_pushi (N := 60) (P := fun ad : Nat → Nat => [(h0, .inr (0, [jI 0, .ref (ad (B + 1)), .ref (ad (B + 2)), .null, .null]))]) (ad := ad2) (b := B + 1) (L := [1060] ++ [1060]) (j := B + 3) (pc := 23) X rfl (by decide) d_0_init_23 ⟨Nat.le_of_ble_eq_true rfl, Nat.le_of_ble_eq_true rfl⟩ (fun _ _ _ => rfl) rfl (fun ad' h => by simp only [h (B + 1) (by omega), h (B + 2) (by omega)]) (jClo_of (by decide +kernel)) (hz 3 (by omega) (by omega)) (fun ad3 h3 => ?_)
  replace hB := (h3 B (by omega)).trans hB
  refine jg_putF (pc := 25) (ci := 0) X hi 0 3 rfl rfl jin0 jty0 jnm0 (by decide) rfl rfl rfl rfl rfl rfl (Nat.le_of_ble_eq_true rfl) kv_241 d_0_init_25 ?_
  refine jg_ws (ws' := (fun ad : Nat → Nat => [(h0, .inr (0, [jI 0, .ref (ad (B + 1)), .ref (ad (B + 2)), .ref (ad (B + 3)), .null]))]) ad3 ++ jSg Z ad3 C (B + 1) ([1060] ++ [1060] ++ [1060])) rfl ?_
  refine jg_sload_n (pc := 28) X d_0_init_28 0 rfl ?_
  refine jg_bipush (pc := 29) X d_0_init_29 rfl ?_
  refine jg_pushi (N := 60) (P := fun ad : Nat → Nat => [(h0, .inr (0, [jI 0, .ref (ad (B + 1)), .ref (ad (B + 2)), .ref (ad (B + 3)), .null]))]) (ad := ad3) (b := B + 1) (L := [1060] ++ [1060] ++ [1060]) (j := B + 4) (pc := 31) X rfl (by decide) d_0_init_31 ⟨Nat.le_of_ble_eq_true rfl, Nat.le_of_ble_eq_true rfl⟩ (fun _ _ _ => rfl) rfl (fun ad' h => by simp only [h (B + 1) (by omega), h (B + 2) (by omega), h (B + 3) (by omega)]) (jClo_of (by decide +kernel)) (hz 4 (by omega) (by omega)) (fun ad4 h4 => ?_)
  replace hB := (h4 B (by omega)).trans hB
  refine jg_putF (pc := 33) (ci := 0) X hi 0 4 rfl rfl jin0 jty0 jnm0 (by decide) rfl rfl rfl rfl rfl rfl (Nat.le_of_ble_eq_true rfl) kv_243 d_0_init_33 ?_
  refine jg_ws (ws' := (fun ad : Nat → Nat => [(h0, .inr (0, [jI 0, .ref (ad (B + 1)), .ref (ad (B + 2)), .ref (ad (B + 3)), .ref (ad (B + 4))]))]) ad4 ++ jSg Z ad4 C (B + 1) ([1060] ++ [1060] ++ [1060] ++ [1060])) rfl ?_
  refine jg_nret (pc := 36) (ad := ad4) X hAe hr hlocks d_0_init_36 ⟨Nat.le_of_ble_eq_true rfl, Nat.le_of_ble_eq_true rfl⟩ hB ?_
  show (h0, _) :: jSg Z ad4 C (B + 1) _ = (ad4 B, jcell (jZa Z ad4) 0 (B : Int) (C (B : Int))) :: jSg Z ad4 C (B + 1) _
  rw [hB]
  simp only [jcell]
  rw [jrn 1 1 rfl, jrn 2 2 rfl, jrn 3 3 rfl, jrn 4 4 rfl, show C (B : Int) 0 = 0 from hz 0 (by omega) (by omega) 0]
  try rfl
set_option maxHeartbeats 4000000 in
set_option maxRecDepth 100000 in
theorem n_1 {l : Launch} {Z : jE} {C : jC} {B : Nat} (hz : ∀ d, 0 ≤ d → d < 5 → ∀ k, C ((B + d : Nat) : Int) k = 0) : jN l y_1_init prog_3_method_1_code 1 q_1_init Z C B kF 1 f_1 := by
  refine jN_of (by decide) rfl (by decide) ?_
  intro p e s m args below meth c A h0 sz X hAe hr hlocks hi
  refine jg_sload_n (pc := 0) X d_1_init_0 0 rfl ?_
  refine jg_objInit (pc := 1) X kv_88 d_1_init_1 ⟨Nat.le_of_ble_eq_true rfl, Nat.le_of_ble_eq_true rfl⟩ ?_
  have hB : (fun _ : Nat => h0) B = h0 := rfl
  refine jg_ws (ws' := (fun ad : Nat → Nat => [(h0, .inr (1, [jI 0, .null, .null, .null, .null]))]) (fun _ => h0) ++ jSg Z (fun _ => h0) C (B + 1) []) rfl ?_
  generalize (fun _ : Nat => h0) = ad0 at hB ⊢
  refine jg_sload_n (pc := 4) X d_1_init_4 0 rfl ?_
  refine jg_bipush (pc := 5) X d_1_init_5 rfl ?_
  refine jg_pushi (N := 6) (P := fun ad : Nat → Nat => [(h0, .inr (1, [jI 0, .null, .null, .null, .null]))]) (ad := ad0) (b := B + 1) (L := []) (j := B + 1) (pc := 7) X rfl (by decide) d_1_init_7 ⟨Nat.le_of_ble_eq_true rfl, Nat.le_of_ble_eq_true rfl⟩ (fun _ _ _ => rfl) rfl (fun ad' h => rfl) trivial (hz 1 (by omega) (by omega)) (fun ad1 h1 => ?_)
  replace hB := (h1 B (by omega)).trans hB
  refine jg_putF (pc := 9) (ci := 1) X hi 0 1 rfl rfl jin1 jty1 jnm1 (by decide) rfl rfl rfl rfl rfl rfl (Nat.le_of_ble_eq_true rfl) kv_92 d_1_init_9 ?_
  refine jg_ws (ws' := (fun ad : Nat → Nat => [(h0, .inr (1, [jI 0, .ref (ad (B + 1)), .null, .null, .null]))]) ad1 ++ jSg Z ad1 C (B + 1) ([1006])) rfl ?_
  refine jg_sload_n (pc := 12) X d_1_init_12 0 rfl ?_
  refine jg_bipush (pc := 13) X d_1_init_13 rfl ?_
  refine jg_pushi (N := 6) (P := fun ad : Nat → Nat => [(h0, .inr (1, [jI 0, .ref (ad (B + 1)), .null, .null, .null]))]) (ad := ad1) (b := B + 1) (L := [1006]) (j := B + 2) (pc := 15) X rfl (by decide) d_1_init_15 ⟨Nat.le_of_ble_eq_true rfl, Nat.le_of_ble_eq_true rfl⟩ (fun _ _ _ => rfl) rfl (fun ad' h => by simp only [h (B + 1) (by omega)]) (jClo_of (by decide +kernel)) (hz 2 (by omega) (by omega)) (fun ad2 h2 => ?_)
  replace hB := (h2 B (by omega)).trans hB
  refine jg_putF (pc := 17) (ci := 1) X hi 0 2 rfl rfl jin1 jty1 jnm1 (by decide) rfl rfl rfl rfl rfl rfl (Nat.le_of_ble_eq_true rfl) kv_93 d_1_init_17 ?_
  refine jg_ws (ws' := (fun ad : Nat → Nat => [(h0, .inr (1, [jI 0, .ref (ad (B + 1)), .ref (ad (B + 2)), .null, .null]))]) ad2 ++ jSg Z ad2 C (B + 1) ([1006] ++ [1006])) rfl ?_
  refine jg_sload_n (pc := 20) X d_1_init_20 0 rfl ?_
  refine jg_bipush (pc := 21) X d_1_init_21 rfl ?_
  refine jg_pushi (N := 6) (P := fun ad : Nat → Nat => [(h0, .inr (1, [jI 0, .ref (ad (B + 1)), .ref (ad (B + 2)), .null, .null]))]) (ad := ad2) (b := B + 1) (L := [1006] ++ [1006]) (j := B + 3) (pc := 23) X rfl (by decide) d_1_init_23 ⟨Nat.le_of_ble_eq_true rfl, Nat.le_of_ble_eq_true rfl⟩ (fun _ _ _ => rfl) rfl (fun ad' h => by simp only [h (B + 1) (by omega), h (B + 2) (by omega)]) (jClo_of (by decide +kernel)) (hz 3 (by omega) (by omega)) (fun ad3 h3 => ?_)
  replace hB := (h3 B (by omega)).trans hB
  refine jg_putF (pc := 25) (ci := 1) X hi 0 3 rfl rfl jin1 jty1 jnm1 (by decide) rfl rfl rfl rfl rfl rfl (Nat.le_of_ble_eq_true rfl) kv_94 d_1_init_25 ?_
  refine jg_ws (ws' := (fun ad : Nat → Nat => [(h0, .inr (1, [jI 0, .ref (ad (B + 1)), .ref (ad (B + 2)), .ref (ad (B + 3)), .null]))]) ad3 ++ jSg Z ad3 C (B + 1) ([1006] ++ [1006] ++ [1006])) rfl ?_
  refine jg_sload_n (pc := 28) X d_1_init_28 0 rfl ?_
  refine jg_bipush (pc := 29) X d_1_init_29 rfl ?_
  refine jg_pushi (N := 6) (P := fun ad : Nat → Nat => [(h0, .inr (1, [jI 0, .ref (ad (B + 1)), .ref (ad (B + 2)), .ref (ad (B + 3)), .null]))]) (ad := ad3) (b := B + 1) (L := [1006] ++ [1006] ++ [1006]) (j := B + 4) (pc := 31) X rfl (by decide) d_1_init_31 ⟨Nat.le_of_ble_eq_true rfl, Nat.le_of_ble_eq_true rfl⟩ (fun _ _ _ => rfl) rfl (fun ad' h => by simp only [h (B + 1) (by omega), h (B + 2) (by omega), h (B + 3) (by omega)]) (jClo_of (by decide +kernel)) (hz 4 (by omega) (by omega)) (fun ad4 h4 => ?_)
  replace hB := (h4 B (by omega)).trans hB
  refine jg_putF (pc := 33) (ci := 1) X hi 0 4 rfl rfl jin1 jty1 jnm1 (by decide) rfl rfl rfl rfl rfl rfl (Nat.le_of_ble_eq_true rfl) kv_95 d_1_init_33 ?_
  refine jg_ws (ws' := (fun ad : Nat → Nat => [(h0, .inr (1, [jI 0, .ref (ad (B + 1)), .ref (ad (B + 2)), .ref (ad (B + 3)), .ref (ad (B + 4))]))]) ad4 ++ jSg Z ad4 C (B + 1) ([1006] ++ [1006] ++ [1006] ++ [1006])) rfl ?_
  refine jg_nret (pc := 36) (ad := ad4) X hAe hr hlocks d_1_init_36 ⟨Nat.le_of_ble_eq_true rfl, Nat.le_of_ble_eq_true rfl⟩ hB ?_
  show (h0, _) :: jSg Z ad4 C (B + 1) _ = (ad4 B, jcell (jZa Z ad4) 1 (B : Int) (C (B : Int))) :: jSg Z ad4 C (B + 1) _
  rw [hB]
  simp only [jcell]
  rw [jrn 1 1 rfl, jrn 2 2 rfl, jrn 3 3 rfl, jrn 4 4 rfl, show C (B : Int) 0 = 0 from hz 0 (by omega) (by omega) 0]
  try rfl
set_option maxHeartbeats 4000000 in
set_option maxRecDepth 100000 in
theorem n_6 {l : Launch} {Z : jE} {C : jC} {B : Nat} (hz : ∀ d, 0 ≤ d → d < 2 → ∀ k, C ((B + d : Nat) : Int) k = 0) : jN l y_6_init prog_8_method_1_code 1 q_6_init Z C B kR 6 f_6 := by
  refine jN_of (by decide) rfl (by decide) ?_
  intro p e s m args below meth c A h0 sz X hAe hr hlocks hi
  refine jg_sload_n (pc := 0) X d_6_init_0 0 rfl ?_
  refine jg_objInit (pc := 1) X kv_165 d_6_init_1 ⟨Nat.le_of_ble_eq_true rfl, Nat.le_of_ble_eq_true rfl⟩ ?_
  have hB : (fun _ : Nat => h0) B = h0 := rfl
  refine jg_ws (ws' := (fun ad : Nat → Nat => [(h0, .inr (6, [.null, jI 0]))]) (fun _ => h0) ++ jSg Z (fun _ => h0) C (B + 1) []) rfl ?_
  generalize (fun _ : Nat => h0) = ad0 at hB ⊢
  refine jg_sload_n (pc := 4) X d_6_init_4 0 rfl ?_
  refine jg_bipush (pc := 5) X d_6_init_5 rfl ?_
  refine jg_pushi (N := 24) (P := fun ad : Nat → Nat => [(h0, .inr (6, [.null, jI 0]))]) (ad := ad0) (b := B + 1) (L := []) (j := B + 1) (pc := 7) X rfl (by decide) d_6_init_7 ⟨Nat.le_of_ble_eq_true rfl, Nat.le_of_ble_eq_true rfl⟩ (fun _ _ _ => rfl) rfl (fun ad' h => rfl) trivial (hz 1 (by omega) (by omega)) (fun ad1 h1 => ?_)
  replace hB := (h1 B (by omega)).trans hB
  refine jg_putF (pc := 9) (ci := 6) X hi 0 0 rfl rfl jin6 jty6 jnm6 (by decide) rfl rfl rfl rfl rfl rfl (Nat.le_of_ble_eq_true rfl) kv_166 d_6_init_9 ?_
  refine jg_ws (ws' := (fun ad : Nat → Nat => [(h0, .inr (6, [.ref (ad (B + 1)), jI 0]))]) ad1 ++ jSg Z ad1 C (B + 1) ([1024])) rfl ?_
  refine jg_nret (pc := 12) (ad := ad1) X hAe hr hlocks d_6_init_12 ⟨Nat.le_of_ble_eq_true rfl, Nat.le_of_ble_eq_true rfl⟩ hB ?_
  show (h0, _) :: jSg Z ad1 C (B + 1) _ = (ad1 B, jcell (jZa Z ad1) 6 (B : Int) (C (B : Int))) :: jSg Z ad1 C (B + 1) _
  rw [hB]
  simp only [jcell]
  rw [jrn 1 1 rfl, show C (B : Int) 1 = 0 from hz 0 (by omega) (by omega) 1]
  try rfl
set_option maxHeartbeats 4000000 in
set_option maxRecDepth 100000 in
theorem n_3 {l : Launch} {Z : jE} {C : jC} {B : Nat} (hz : ∀ d, 0 ≤ d → d < 2 → ∀ k, C ((B + d : Nat) : Int) k = 0) : jN l y_3_init prog_5_method_1_code 1 q_3_init Z C B kLo 3 f_3 := by
  refine jN_of (by decide) rfl (by decide) ?_
  intro p e s m args below meth c A h0 sz X hAe hr hlocks hi
  refine jg_sload_n (pc := 0) X d_3_init_0 0 rfl ?_
  refine jg_objInit (pc := 1) X kv_217 d_3_init_1 ⟨Nat.le_of_ble_eq_true rfl, Nat.le_of_ble_eq_true rfl⟩ ?_
  have hB : (fun _ : Nat => h0) B = h0 := rfl
  refine jg_ws (ws' := (fun ad : Nat → Nat => [(h0, .inr (3, [.null, jI 0, jI 0]))]) (fun _ => h0) ++ jSg Z (fun _ => h0) C (B + 1) []) rfl ?_
  generalize (fun _ : Nat => h0) = ad0 at hB ⊢
  refine jg_sload_n (pc := 4) X d_3_init_4 0 rfl ?_
  refine jg_sipush (pc := 5) X d_3_init_5 rfl ?_
  refine jg_pushi (N := 200) (P := fun ad : Nat → Nat => [(h0, .inr (3, [.null, jI 0, jI 0]))]) (ad := ad0) (b := B + 1) (L := []) (j := B + 1) (pc := 8) X rfl (by decide) d_3_init_8 ⟨Nat.le_of_ble_eq_true rfl, Nat.le_of_ble_eq_true rfl⟩ (fun _ _ _ => rfl) rfl (fun ad' h => rfl) trivial (hz 1 (by omega) (by omega)) (fun ad1 h1 => ?_)
  replace hB := (h1 B (by omega)).trans hB
  refine jg_putF (pc := 10) (ci := 3) X hi 0 0 rfl rfl jin3 jty3 jnm3 (by decide) rfl rfl rfl rfl rfl rfl (Nat.le_of_ble_eq_true rfl) kv_218 d_3_init_10 ?_
  refine jg_ws (ws' := (fun ad : Nat → Nat => [(h0, .inr (3, [.ref (ad (B + 1)), jI 0, jI 0]))]) ad1 ++ jSg Z ad1 C (B + 1) ([1200])) rfl ?_
  refine jg_nret (pc := 13) (ad := ad1) X hAe hr hlocks d_3_init_13 ⟨Nat.le_of_ble_eq_true rfl, Nat.le_of_ble_eq_true rfl⟩ hB ?_
  show (h0, _) :: jSg Z ad1 C (B + 1) _ = (ad1 B, jcell (jZa Z ad1) 3 (B : Int) (C (B : Int))) :: jSg Z ad1 C (B + 1) _
  rw [hB]
  simp only [jcell]
  rw [jrn 1 1 rfl, show C (B : Int) 1 = 0 from hz 0 (by omega) (by omega) 1, show C (B : Int) 2 = 0 from hz 0 (by omega) (by omega) 2]
  try rfl
set_option maxHeartbeats 4000000 in
set_option maxRecDepth 100000 in
theorem n_5 {l : Launch} {Z : jE} {C : jC} {B : Nat} (hz : ∀ d, 1 ≤ d → d < 2 → ∀ k, C ((B + d : Nat) : Int) k = 0) (hf : ∀ k, k ≠ 4 → C (B : Int) k = 0) (hf4 : C (B : Int) 4 = -1) : jN l y_5_init prog_7_method_1_code 1 q_5_init Z C B kRe 5 f_5 := by
  refine jN_of (by decide) rfl (by decide) ?_
  intro p e s m args below meth c A h0 sz X hAe hr hlocks hi
  refine jg_sload_n (pc := 0) X d_5_init_0 0 rfl ?_
  refine jg_objInit (pc := 1) X kv_41 d_5_init_1 ⟨Nat.le_of_ble_eq_true rfl, Nat.le_of_ble_eq_true rfl⟩ ?_
  have hB : (fun _ : Nat => h0) B = h0 := rfl
  refine jg_ws (ws' := (fun ad : Nat → Nat => [(h0, .inr (5, [.null, jI 0, jI 0, jI 0, jI 0, jI 0, jI 0]))]) (fun _ => h0) ++ jSg Z (fun _ => h0) C (B + 1) []) rfl ?_
  generalize (fun _ : Nat => h0) = ad0 at hB ⊢
  refine jg_sload_n (pc := 4) X d_5_init_4 0 rfl ?_
  refine jg_sipush (pc := 5) X d_5_init_5 rfl ?_
  refine jg_pushi (N := 400) (P := fun ad : Nat → Nat => [(h0, .inr (5, [.null, jI 0, jI 0, jI 0, jI 0, jI 0, jI 0]))]) (ad := ad0) (b := B + 1) (L := []) (j := B + 1) (pc := 8) X rfl (by decide) d_5_init_8 ⟨Nat.le_of_ble_eq_true rfl, Nat.le_of_ble_eq_true rfl⟩ (fun _ _ _ => rfl) rfl (fun ad' h => rfl) trivial (hz 1 (by omega) (by omega)) (fun ad1 h1 => ?_)
  replace hB := (h1 B (by omega)).trans hB
  refine jg_putF (pc := 10) (ci := 5) X hi 0 0 rfl rfl jin5 jty5 jnm5 (by decide) rfl rfl rfl rfl rfl rfl (Nat.le_of_ble_eq_true rfl) kv_42 d_5_init_10 ?_
  refine jg_ws (ws' := (fun ad : Nat → Nat => [(h0, .inr (5, [.ref (ad (B + 1)), jI 0, jI 0, jI 0, jI 0, jI 0, jI 0]))]) ad1 ++ jSg Z ad1 C (B + 1) ([1400])) rfl ?_
  refine jg_sload_n (pc := 13) X d_5_init_13 0 rfl ?_
  refine jg_iconst (pc := 14) X d_5_init_14 ?_
  refine jg_putP (pc := 15) (ci := 5) X 0 4 rfl rfl jin5 jty5 jnm5 (by decide) rfl rfl rfl rfl rfl (Nat.le_of_ble_eq_true rfl) kv_48 d_5_init_15 ?_
  refine jg_ws (ws' := (fun ad : Nat → Nat => [(h0, .inr (5, [.ref (ad (B + 1)), jI 0, jI 0, jI 0, jI (-1), jI 0, jI 0]))]) ad1 ++ jSg Z ad1 C (B + 1) ([1400])) rfl ?_
  refine jg_nret (pc := 18) (ad := ad1) X hAe hr hlocks d_5_init_18 ⟨Nat.le_of_ble_eq_true rfl, Nat.le_of_ble_eq_true rfl⟩ hB ?_
  show (h0, _) :: jSg Z ad1 C (B + 1) _ = (ad1 B, jcell (jZa Z ad1) 5 (B : Int) (C (B : Int))) :: jSg Z ad1 C (B + 1) _
  rw [hB]
  simp only [jcell]
  rw [jrn 1 1 rfl, hf 1 (by decide), hf 2 (by decide), hf 3 (by decide), hf4, hf 5 (by decide), hf 6 (by decide)]
  try rfl
set_option maxHeartbeats 4000000 in
set_option maxRecDepth 100000 in
theorem n_7 {l : Launch} {Z : jE} {C : jC} {B : Nat} (hz : ∀ d, 0 ≤ d → d < 7 → ∀ k, C ((B + d : Nat) : Int) k = 0) : jN l y_7_init prog_9_method_1_code 1 q_7_init Z C B kSh 7 f_7 := by
  refine jN_of (by decide) rfl (by decide) ?_
  intro p e s m args below meth c A h0 sz X hAe hr hlocks hi
  refine jg_sload_n (pc := 0) X d_7_init_0 0 rfl ?_
  refine jg_objInit (pc := 1) X kv_159 d_7_init_1 ⟨Nat.le_of_ble_eq_true rfl, Nat.le_of_ble_eq_true rfl⟩ ?_
  have hB : (fun _ : Nat => h0) B = h0 := rfl
  refine jg_ws (ws' := (fun ad : Nat → Nat => [(h0, .inr (7, [jI 0, .null, .null, .null, .null, .null, jI 0, jI 0]))]) (fun _ => h0) ++ jSg Z (fun _ => h0) C (B + 1) []) rfl ?_
  generalize (fun _ : Nat => h0) = ad0 at hB ⊢
  refine jg_sload_n (pc := 4) X d_7_init_4 0 rfl ?_
  refine jg_iconst (pc := 5) X d_7_init_5 ?_
  refine jg_pushi (N := 5) (P := fun ad : Nat → Nat => [(h0, .inr (7, [jI 0, .null, .null, .null, .null, .null, jI 0, jI 0]))]) (ad := ad0) (b := B + 1) (L := []) (j := B + 1) (pc := 6) X rfl (by decide) d_7_init_6 ⟨Nat.le_of_ble_eq_true rfl, Nat.le_of_ble_eq_true rfl⟩ (fun _ _ _ => rfl) rfl (fun ad' h => rfl) trivial (hz 1 (by omega) (by omega)) (fun ad1 h1 => ?_)
  replace hB := (h1 B (by omega)).trans hB
  refine jg_putF (pc := 8) (ci := 7) X hi 0 1 rfl rfl jin7 jty7 jnm7 (by decide) rfl rfl rfl rfl rfl rfl (Nat.le_of_ble_eq_true rfl) kv_178 d_7_init_8 ?_
  refine jg_ws (ws' := (fun ad : Nat → Nat => [(h0, .inr (7, [jI 0, .ref (ad (B + 1)), .null, .null, .null, .null, jI 0, jI 0]))]) ad1 ++ jSg Z ad1 C (B + 1) ([1005])) rfl ?_
  refine jg_sload_n (pc := 11) X d_7_init_11 0 rfl ?_
  refine jg_bipush (pc := 12) X d_7_init_12 rfl ?_
  refine jg_pushi (N := 24) (P := fun ad : Nat → Nat => [(h0, .inr (7, [jI 0, .ref (ad (B + 1)), .null, .null, .null, .null, jI 0, jI 0]))]) (ad := ad1) (b := B + 1) (L := [1005]) (j := B + 2) (pc := 14) X rfl (by decide) d_7_init_14 ⟨Nat.le_of_ble_eq_true rfl, Nat.le_of_ble_eq_true rfl⟩ (fun _ _ _ => rfl) rfl (fun ad' h => by simp only [h (B + 1) (by omega)]) (jClo_of (by decide +kernel)) (hz 2 (by omega) (by omega)) (fun ad2 h2 => ?_)
  replace hB := (h2 B (by omega)).trans hB
  refine jg_putF (pc := 16) (ci := 7) X hi 0 2 rfl rfl jin7 jty7 jnm7 (by decide) rfl rfl rfl rfl rfl rfl (Nat.le_of_ble_eq_true rfl) kv_181 d_7_init_16 ?_
  refine jg_ws (ws' := (fun ad : Nat → Nat => [(h0, .inr (7, [jI 0, .ref (ad (B + 1)), .ref (ad (B + 2)), .null, .null, .null, jI 0, jI 0]))]) ad2 ++ jSg Z ad2 C (B + 1) ([1005] ++ [1024])) rfl ?_
  refine jg_sload_n (pc := 19) X d_7_init_19 0 rfl ?_
  refine jg_bipush (pc := 20) X d_7_init_20 rfl ?_
  refine jg_pushi (N := 120) (P := fun ad : Nat → Nat => [(h0, .inr (7, [jI 0, .ref (ad (B + 1)), .ref (ad (B + 2)), .null, .null, .null, jI 0, jI 0]))]) (ad := ad2) (b := B + 1) (L := [1005] ++ [1024]) (j := B + 3) (pc := 22) X rfl (by decide) d_7_init_22 ⟨Nat.le_of_ble_eq_true rfl, Nat.le_of_ble_eq_true rfl⟩ (fun _ _ _ => rfl) rfl (fun ad' h => by simp only [h (B + 1) (by omega), h (B + 2) (by omega)]) (jClo_of (by decide +kernel)) (hz 3 (by omega) (by omega)) (fun ad3 h3 => ?_)
  replace hB := (h3 B (by omega)).trans hB
  refine jg_putF (pc := 24) (ci := 7) X hi 0 3 rfl rfl jin7 jty7 jnm7 (by decide) rfl rfl rfl rfl rfl rfl (Nat.le_of_ble_eq_true rfl) kv_182 d_7_init_24 ?_
  refine jg_ws (ws' := (fun ad : Nat → Nat => [(h0, .inr (7, [jI 0, .ref (ad (B + 1)), .ref (ad (B + 2)), .ref (ad (B + 3)), .null, .null, jI 0, jI 0]))]) ad3 ++ jSg Z ad3 C (B + 1) ([1005] ++ [1024] ++ [1120])) rfl ?_
  refine jg_sload_n (pc := 27) X d_7_init_27 0 rfl ?_
  refine jg_bipush (pc := 28) X d_7_init_28 rfl ?_
  refine jg_pushi (N := 120) (P := fun ad : Nat → Nat => [(h0, .inr (7, [jI 0, .ref (ad (B + 1)), .ref (ad (B + 2)), .ref (ad (B + 3)), .null, .null, jI 0, jI 0]))]) (ad := ad3) (b := B + 1) (L := [1005] ++ [1024] ++ [1120]) (j := B + 4) (pc := 30) X rfl (by decide) d_7_init_30 ⟨Nat.le_of_ble_eq_true rfl, Nat.le_of_ble_eq_true rfl⟩ (fun _ _ _ => rfl) rfl (fun ad' h => by simp only [h (B + 1) (by omega), h (B + 2) (by omega), h (B + 3) (by omega)]) (jClo_of (by decide +kernel)) (hz 4 (by omega) (by omega)) (fun ad4 h4 => ?_)
  replace hB := (h4 B (by omega)).trans hB
  refine jg_putF (pc := 32) (ci := 7) X hi 0 4 rfl rfl jin7 jty7 jnm7 (by decide) rfl rfl rfl rfl rfl rfl (Nat.le_of_ble_eq_true rfl) kv_183 d_7_init_32 ?_
  refine jg_ws (ws' := (fun ad : Nat → Nat => [(h0, .inr (7, [jI 0, .ref (ad (B + 1)), .ref (ad (B + 2)), .ref (ad (B + 3)), .ref (ad (B + 4)), .null, jI 0, jI 0]))]) ad4 ++ jSg Z ad4 C (B + 1) ([1005] ++ [1024] ++ [1120] ++ [1120])) rfl ?_
  refine jg_sload_n (pc := 35) X d_7_init_35 0 rfl ?_
  refine jg_pushX (st := [.ref h0]) (ci := 6) (y := y_6_init) (rm := q_6_init) (LX := kR) (P := fun ad : Nat → Nat => [(h0, .inr (7, [jI 0, .ref (ad (B + 1)), .ref (ad (B + 2)), .ref (ad (B + 3)), .ref (ad (B + 4)), .null, jI 0, jI 0]))]) (ad := ad4) (b := B + 1) (L := [1005] ++ [1024] ++ [1120] ++ [1120]) (j := B + 5) (pc := 36) X rfl (n_6 (fun d d0 d1 => by rw [show B + 5 + d = B + (5 + d) by omega]; exact hz _ (by omega) (by omega))) rfl jin6 jty6 nd_6 kv_160 kv_161 kv_8 rfl rfl kv_163 kv_164 ⟨by decide, by decide, by decide +kernel⟩ (Or.inr kz_162) d_7_init_36 d_7_init_39 d_7_init_40 ⟨Nat.le_of_ble_eq_true rfl, Nat.le_of_ble_eq_true rfl⟩ (Nat.le_of_ble_eq_true rfl) ⟨Nat.le_of_ble_eq_true rfl, Nat.le_of_ble_eq_true rfl⟩ (fun ad' h => by simp only [h (B + 1) (by omega), h (B + 2) (by omega), h (B + 3) (by omega), h (B + 4) (by omega)]) (jClo_of (by decide +kernel)) (jClo_of (by decide +kernel)) (fun ad5 h5 => ?_)
  replace hB := (h5 B (by omega)).trans hB
  refine jg_putF (pc := 43) (ci := 7) X hi 0 5 rfl rfl jin7 jty7 jnm7 (by decide) rfl rfl rfl rfl rfl rfl (Nat.le_of_ble_eq_true rfl) kv_184 d_7_init_43 ?_
  refine jg_ws (ws' := (fun ad : Nat → Nat => [(h0, .inr (7, [jI 0, .ref (ad (B + 1)), .ref (ad (B + 2)), .ref (ad (B + 3)), .ref (ad (B + 4)), .ref (ad (B + 5)), jI 0, jI 0]))]) ad5 ++ jSg Z ad5 C (B + 1) (([1005] ++ [1024] ++ [1120] ++ [1120]) ++ kR)) rfl ?_
  refine jg_nret (pc := 46) (ad := ad5) X hAe hr hlocks d_7_init_46 ⟨Nat.le_of_ble_eq_true rfl, Nat.le_of_ble_eq_true rfl⟩ hB ?_
  show (h0, _) :: jSg Z ad5 C (B + 1) _ = (ad5 B, jcell (jZa Z ad5) 7 (B : Int) (C (B : Int))) :: jSg Z ad5 C (B + 1) _
  rw [hB]
  simp only [jcell]
  rw [jrn 1 1 rfl, jrn 2 2 rfl, jrn 3 3 rfl, jrn 4 4 rfl, jrn 5 5 rfl, show C (B : Int) 0 = 0 from hz 0 (by omega) (by omega) 0, show C (B : Int) 6 = 0 from hz 0 (by omega) (by omega) 6, show C (B : Int) 7 = 0 from hz 0 (by omega) (by omega) 7]
  try rfl
set_option maxHeartbeats 4000000 in
set_option maxRecDepth 100000 in
theorem n_4 {l : Launch} {Z : jE} {C : jC} {B : Nat} (hz : ∀ d, 0 ≤ d → d < 6 → ∀ k, C ((B + d : Nat) : Int) k = 0) : jN l y_4_init prog_6_method_1_code 1 q_4_init Z C B kQ 4 f_4 := by
  refine jN_of (by decide) rfl (by decide) ?_
  intro p e s m args below meth c A h0 sz X hAe hr hlocks hi
  refine jg_sload_n (pc := 0) X d_4_init_0 0 rfl ?_
  refine jg_objInit (pc := 1) X kv_310 d_4_init_1 ⟨Nat.le_of_ble_eq_true rfl, Nat.le_of_ble_eq_true rfl⟩ ?_
  have hB : (fun _ : Nat => h0) B = h0 := rfl
  refine jg_ws (ws' := (fun ad : Nat → Nat => [(h0, .inr (4, [.null, .null, .null, .null, jI 0, jI 0, jI 0]))]) (fun _ => h0) ++ jSg Z (fun _ => h0) C (B + 1) []) rfl ?_
  generalize (fun _ : Nat => h0) = ad0 at hB ⊢
  refine jg_sload_n (pc := 4) X d_4_init_4 0 rfl ?_
  refine jg_pushX (st := [.ref h0]) (ci := 6) (y := y_6_init) (rm := q_6_init) (LX := kR) (P := fun ad : Nat → Nat => [(h0, .inr (4, [.null, .null, .null, .null, jI 0, jI 0, jI 0]))]) (ad := ad0) (b := B + 1) (L := []) (j := B + 1) (pc := 5) X rfl (n_6 (fun d d0 d1 => by rw [show B + 1 + d = B + (1 + d) by omega]; exact hz _ (by omega) (by omega))) rfl jin6 jty6 nd_6 kv_311 kv_161 kv_8 rfl rfl kv_163 kv_164 ⟨by decide, by decide, by decide +kernel⟩ (Or.inr kz_312) d_4_init_5 d_4_init_8 d_4_init_9 ⟨Nat.le_of_ble_eq_true rfl, Nat.le_of_ble_eq_true rfl⟩ (Nat.le_of_ble_eq_true rfl) ⟨Nat.le_of_ble_eq_true rfl, Nat.le_of_ble_eq_true rfl⟩ (fun ad' h => rfl) trivial (jClo_of (by decide +kernel)) (fun ad1 h1 => ?_)
  replace hB := (h1 B (by omega)).trans hB
  refine jg_putF (pc := 12) (ci := 4) X hi 0 0 rfl rfl jin4 jty4 jnm4 (by decide) rfl rfl rfl rfl rfl rfl (Nat.le_of_ble_eq_true rfl) kv_313 d_4_init_12 ?_
  refine jg_ws (ws' := (fun ad : Nat → Nat => [(h0, .inr (4, [.ref (ad (B + 1)), .null, .null, .null, jI 0, jI 0, jI 0]))]) ad1 ++ jSg Z ad1 C (B + 1) (kR)) rfl ?_
  refine jg_sload_n (pc := 15) X d_4_init_15 0 rfl ?_
  refine jg_bipush (pc := 16) X d_4_init_16 rfl ?_
  refine jg_pushi (N := 24) (P := fun ad : Nat → Nat => [(h0, .inr (4, [.ref (ad (B + 1)), .null, .null, .null, jI 0, jI 0, jI 0]))]) (ad := ad1) (b := B + 1) (L := kR) (j := B + 3) (pc := 18) X rfl (by decide) d_4_init_18 ⟨Nat.le_of_ble_eq_true rfl, Nat.le_of_ble_eq_true rfl⟩ (fun _ _ _ => rfl) rfl (fun ad' h => by simp only [h (B + 1) (by omega)]) (jClo_of (by decide +kernel)) (hz 3 (by omega) (by omega)) (fun ad2 h2 => ?_)
  replace hB := (h2 B (by omega)).trans hB
  refine jg_putF (pc := 20) (ci := 4) X hi 0 1 rfl rfl jin4 jty4 jnm4 (by decide) rfl rfl rfl rfl rfl rfl (Nat.le_of_ble_eq_true rfl) kv_314 d_4_init_20 ?_
  refine jg_ws (ws' := (fun ad : Nat → Nat => [(h0, .inr (4, [.ref (ad (B + 1)), .ref (ad (B + 3)), .null, .null, jI 0, jI 0, jI 0]))]) ad2 ++ jSg Z ad2 C (B + 1) (kR ++ [1024])) rfl ?_
  refine jg_sload_n (pc := 23) X d_4_init_23 0 rfl ?_
  refine jg_bipush (pc := 24) X d_4_init_24 rfl ?_
  refine jg_pushi (N := 24) (P := fun ad : Nat → Nat => [(h0, .inr (4, [.ref (ad (B + 1)), .ref (ad (B + 3)), .null, .null, jI 0, jI 0, jI 0]))]) (ad := ad2) (b := B + 1) (L := kR ++ [1024]) (j := B + 4) (pc := 26) X rfl (by decide) d_4_init_26 ⟨Nat.le_of_ble_eq_true rfl, Nat.le_of_ble_eq_true rfl⟩ (fun _ _ _ => rfl) rfl (fun ad' h => by simp only [h (B + 1) (by omega), h (B + 3) (by omega)]) (jClo_of (by decide +kernel)) (hz 4 (by omega) (by omega)) (fun ad3 h3 => ?_)
  replace hB := (h3 B (by omega)).trans hB
  refine jg_putF (pc := 28) (ci := 4) X hi 0 2 rfl rfl jin4 jty4 jnm4 (by decide) rfl rfl rfl rfl rfl rfl (Nat.le_of_ble_eq_true rfl) kv_315 d_4_init_28 ?_
  refine jg_ws (ws' := (fun ad : Nat → Nat => [(h0, .inr (4, [.ref (ad (B + 1)), .ref (ad (B + 3)), .ref (ad (B + 4)), .null, jI 0, jI 0, jI 0]))]) ad3 ++ jSg Z ad3 C (B + 1) (kR ++ [1024] ++ [1024])) rfl ?_
  refine jg_sload_n (pc := 31) X d_4_init_31 0 rfl ?_
  refine jg_bipush (pc := 32) X d_4_init_32 rfl ?_
  refine jg_pushi (N := 24) (P := fun ad : Nat → Nat => [(h0, .inr (4, [.ref (ad (B + 1)), .ref (ad (B + 3)), .ref (ad (B + 4)), .null, jI 0, jI 0, jI 0]))]) (ad := ad3) (b := B + 1) (L := kR ++ [1024] ++ [1024]) (j := B + 5) (pc := 34) X rfl (by decide) d_4_init_34 ⟨Nat.le_of_ble_eq_true rfl, Nat.le_of_ble_eq_true rfl⟩ (fun _ _ _ => rfl) rfl (fun ad' h => by simp only [h (B + 1) (by omega), h (B + 3) (by omega), h (B + 4) (by omega)]) (jClo_of (by decide +kernel)) (hz 5 (by omega) (by omega)) (fun ad4 h4 => ?_)
  replace hB := (h4 B (by omega)).trans hB
  refine jg_putF (pc := 36) (ci := 4) X hi 0 3 rfl rfl jin4 jty4 jnm4 (by decide) rfl rfl rfl rfl rfl rfl (Nat.le_of_ble_eq_true rfl) kv_316 d_4_init_36 ?_
  refine jg_ws (ws' := (fun ad : Nat → Nat => [(h0, .inr (4, [.ref (ad (B + 1)), .ref (ad (B + 3)), .ref (ad (B + 4)), .ref (ad (B + 5)), jI 0, jI 0, jI 0]))]) ad4 ++ jSg Z ad4 C (B + 1) (kR ++ [1024] ++ [1024] ++ [1024])) rfl ?_
  refine jg_nret (pc := 39) (ad := ad4) X hAe hr hlocks d_4_init_39 ⟨Nat.le_of_ble_eq_true rfl, Nat.le_of_ble_eq_true rfl⟩ hB ?_
  show (h0, _) :: jSg Z ad4 C (B + 1) _ = (ad4 B, jcell (jZa Z ad4) 4 (B : Int) (C (B : Int))) :: jSg Z ad4 C (B + 1) _
  rw [hB]
  simp only [jcell]
  rw [jrn 1 1 rfl, jrn 3 3 rfl, jrn 4 4 rfl, jrn 5 5 rfl, show C (B : Int) 4 = 0 from hz 0 (by omega) (by omega) 4, show C (B : Int) 5 = 0 from hz 0 (by omega) (by omega) 5, show C (B : Int) 6 = 0 from hz 0 (by omega) (by omega) 6]
  try rfl
set_option maxHeartbeats 4000000 in
set_option maxRecDepth 100000 in
theorem n_2 {l : Launch} {Z : jE} {C : jC} {B : Nat} (hz : ∀ d, 0 ≤ d → d < 28 → ∀ k, C ((B + d : Nat) : Int) k = 0) : jN l y_2_init prog_4_method_1_code 2 q_2_init Z C B kLe 2 f_2 := by
  refine jN_of (by decide) rfl (by decide) ?_
  intro p e s m args below meth c A h0 sz X hAe hr hlocks hi
  refine jg_sload_n (pc := 0) X d_2_init_0 0 rfl ?_
  refine jg_objInit (pc := 1) X kv_81 d_2_init_1 ⟨Nat.le_of_ble_eq_true rfl, Nat.le_of_ble_eq_true rfl⟩ ?_
  refine jg_sload_n (pc := 4) X d_2_init_4 0 rfl ?_
  refine jg_iconst (pc := 5) X d_2_init_5 ?_
  refine jg_newq (N := 5) (pc := 6) X (k := 3) rfl (by decide) kv_82 kz_83 d_2_init_6 ⟨Nat.le_of_ble_eq_true rfl, Nat.le_of_ble_eq_true rfl⟩ (fun r => ?_)
  refine jg_putF (pc := 9) (ci := 2) X hi 0 0 rfl rfl jin2 jty2 jnm2 (by decide) rfl rfl rfl rfl rfl rfl (Nat.le_of_ble_eq_true rfl) kv_107 d_2_init_9 ?_
  obtain ⟨ad0, hB, hr1⟩ : ∃ ad : Nat → Nat, ad B = h0 ∧ ad (B + 1) = r := ⟨fun i => if i = B then h0 else r, by simp, by simp⟩
  refine jg_ws (ws' := (fun _ : Nat → Nat => [(h0, .inr (2, [.ref r, .null, jI 0, jI 0])), (r, .inl (Z.2.1 3, 5, .inr (.inr (.inr (.inr (fun _ => none))))))]) ad0 ++ jSg Z ad0 C (B + 2) []) rfl ?_
  refine jg_sload_n (pc := 12) X d_2_init_12 0 rfl ?_
  refine jg_iconst (pc := 13) X d_2_init_13 ?_
  refine jg_pushi (N := 3) (P := fun _ : Nat → Nat => [(h0, .inr (2, [.ref r, .null, jI 0, jI 0])), (r, .inl (Z.2.1 3, 5, .inr (.inr (.inr (.inr (fun _ => none))))))]) (ad := ad0) (b := B + 2) (L := []) (j := B + 2) (pc := 14) X rfl (by decide) d_2_init_14 ⟨Nat.le_of_ble_eq_true rfl, Nat.le_of_ble_eq_true rfl⟩ (fun _ _ _ => rfl) rfl (fun ad' h => rfl) trivial (hz 2 (by omega) (by omega)) (fun ad1 h1 => ?_)
  replace hB := (h1 B (by omega)).trans hB
  replace hr1 := (h1 (B + 1) (by omega)).trans hr1
  refine jg_putF (pc := 16) (ci := 2) X hi 0 1 rfl rfl jin2 jty2 jnm2 (by decide) rfl rfl rfl rfl rfl rfl (Nat.le_of_ble_eq_true rfl) kv_108 d_2_init_16 ?_
  refine jg_iconst (pc := 19) X d_2_init_19 ?_
  refine jg_istore_n (pc := 20) X [(1, jI 0), (0, .ref h0)] d_2_init_20 (by decide) rfl ?_
  have hrow : (fun _ : Nat => (none : Option Nat)) = jRow_ ad1 (B + 3) kF.length 0 := by funext j; unfold jRow_; rw [if_neg (by omega)]
  refine jg_ws (ws' := ([(h0, .inr (2, [.ref r, .ref (ad1 (B + 2)), jI 0, jI 0]))] ++ [(r, .inl (Z.2.1 3, 5, .inr (.inr (.inr (.inr (jRow_ ad1 (B + 3) kF.length 0))))))]) ++ jSg Z ad1 C (B + 2) ([1003] ++ jRep kF 0)) (by rw [← hrow]; rfl) ?_
  refine jg_rows (ci := 2) (cj := 1) (N := 5) (hp := 23) (hd := 21) (tgt := 45) (t0 := 3) (h0 := h0) (r := r) (b := B + 2) (o := B + 3) (kf := 0) (L0 := [1003]) (LX := kF) (W0 := [(h0, .inr (2, [.ref r, .ref (ad1 (B + 2)), jI 0, jI 0]))]) (c0 := 2) (s0 := 8) (rm := q_1_init) (y := y_1_init) (adE := ad1) X (by decide) rfl rfl rfl jin2 (by decide) rfl kv_107 rfl rfl (by decide) (fun k hk => n_1 (fun d d0 d1 => ?_)) rfl jin1 jty1 nd_1 kv_82 kv_84 kv_5 rfl rfl kv_86 kv_87 ⟨by decide, by decide, by decide +kernel⟩ (Or.inr kz_85) (fun _ _ _ => ⟨_, rfl⟩) (by decide) d_2_init_23 rfl d_2_init_26 d_2_init_27 d_2_init_30 d_2_init_31 d_2_init_34 d_2_init_35 d_2_init_38 d_2_init_39 d_2_init_42 rfl (fun k ws cells slots q => jg_iload_n (pc := 21) X d_2_init_21 0 rfl (jg_iconst (pc := 22) X d_2_init_22 q)) ⟨Nat.le_of_ble_eq_true rfl, Nat.le_of_ble_eq_true rfl⟩ ⟨Nat.le_of_ble_eq_true rfl, Nat.le_of_ble_eq_true rfl⟩ (jClo_of (by decide +kernel)) (fun k hk => jClo_of (by decide +kernel)) (fun ad2 h2 => ?_) 5 0 ad1 rfl (fun _ _ => rfl)
  · rw [show B + 3 + kF.length * k + d = B + (3 + 5 * k + d) by simp only [List.length_cons, List.length_nil]; omega]; exact hz _ (by omega) (by omega)
  · replace hB := (h2 B (by omega)).trans hB
    replace hr1 := (h2 (B + 1) (by omega)).trans hr1
    refine jg_conv (ws' := jSg Z ad2 C B kLe) (fun H hP => ?_) ?_ (jg_nret (pc := 45) (ad := ad2) X hAe hr hlocks d_2_init_45 ⟨Nat.le_of_ble_eq_true rfl, Nat.le_of_ble_eq_true rfl⟩ hB rfl)
    · obtain ⟨a1, a2⟩ := va_P_cons.mp hP
      obtain ⟨b1, b2⟩ := va_P_cons.mp a2
      refine va_P_cons.mpr ⟨?_, va_P_cons.mpr ⟨?_, b2⟩⟩
      · have e : (h0, (.inr (2, [.ref r, .ref (ad1 (B + 2)), jI 0, jI 0]) : va_E)) = (ad2 B, jcell (jZa Z ad2) 2 (B : Int) (C (B : Int))) := by
          rw [hB]; simp only [jcell]; rw [jrn 1 1 rfl, jrn 2 2 rfl, hr1, h2 (B + 2) (by omega), show C (B : Int) 2 = 0 from hz 0 (by omega) (by omega) 2, show C (B : Int) 3 = 0 from hz 0 (by omega) (by omega) 3]
        rw [← e]; exact a1
      · show H[ad2 (B + 1)]? = some (vp_cell (Z.2.1 3) (5, .inr (.inr (.inr (.inr (fun j => some (ad2 (((B + 1 : Nat) : Int) + 2 + 5 * (j : Int)).toNat)))))))
        rw [hr1]
        have e : vp_cell (Z.2.1 3) (5, .inr (.inr (.inr (.inr (fun j => some (ad2 (((B + 1 : Nat) : Int) + 2 + 5 * (j : Int)).toNat)))))) = vp_cell (Z.2.1 3) (5, .inr (.inr (.inr (.inr (jRow_ ad2 (B + 3) kF.length 5))))) := by
          rw [vp_cell_q, vp_cell_q]
          refine arrV_congr (fun j hj => ?_)
          unfold jRow_
          rw [if_pos hj, show (((B + 1 : Nat) : Int) + 2 + 5 * (j : Int)).toNat = B + 3 + kF.length * j by simp only [List.length_cons, List.length_nil]; omega]
        rw [e]; exact b1
    · show ad2 B :: ad2 (B + 1) :: _ = h0 :: r :: _
      rw [hB, hr1]; rfl
set_option maxHeartbeats 4000000 in
set_option maxRecDepth 100000 in
theorem n_9 {l : Launch} {Z : jE} {C : jC} {B : Nat} (hz : ∀ d, 0 ≤ d → d < 32 → ∀ k, C ((B + d : Nat) : Int) k = 0) : jN l y_9_init prog_11_method_1_code 1 q_9_init Z C B kT 9 f_9 := by
  refine jN_of (by decide) rfl (by decide) ?_
  intro p e s m args below meth c A h0 sz X hAe hr hlocks hi
  refine jg_sload_n (pc := 0) X d_9_init_0 0 rfl ?_
  refine jg_objInit (pc := 1) X kv_75 d_9_init_1 ⟨Nat.le_of_ble_eq_true rfl, Nat.le_of_ble_eq_true rfl⟩ ?_
  have hB : (fun _ : Nat => h0) B = h0 := rfl
  refine jg_ws (ws' := (fun ad : Nat → Nat => [(h0, .inr (9, [jI 0, .null, jI 0, .null, .null, .null]))]) (fun _ => h0) ++ jSg Z (fun _ => h0) C (B + 1) []) rfl ?_
  generalize (fun _ : Nat => h0) = ad0 at hB ⊢
  refine jg_sload_n (pc := 4) X d_9_init_4 0 rfl ?_
  refine jg_iconst (pc := 5) X d_9_init_5 ?_
  refine jg_pushi (N := 5) (P := fun ad : Nat → Nat => [(h0, .inr (9, [jI 0, .null, jI 0, .null, .null, .null]))]) (ad := ad0) (b := B + 1) (L := []) (j := B + 1) (pc := 6) X rfl (by decide) d_9_init_6 ⟨Nat.le_of_ble_eq_true rfl, Nat.le_of_ble_eq_true rfl⟩ (fun _ _ _ => rfl) rfl (fun ad' h => rfl) trivial (hz 1 (by omega) (by omega)) (fun ad1 h1 => ?_)
  replace hB := (h1 B (by omega)).trans hB
  refine jg_putF (pc := 8) (ci := 9) X hi 0 1 rfl rfl jin9 jty9 jnm9 (by decide) rfl rfl rfl rfl rfl rfl (Nat.le_of_ble_eq_true rfl) kv_126 d_9_init_8 ?_
  refine jg_ws (ws' := (fun ad : Nat → Nat => [(h0, .inr (9, [jI 0, .ref (ad (B + 1)), jI 0, .null, .null, .null]))]) ad1 ++ jSg Z ad1 C (B + 1) ([1005])) rfl ?_
  refine jg_sload_n (pc := 11) X d_9_init_11 0 rfl ?_
  refine jg_bipush (pc := 12) X d_9_init_12 rfl ?_
  refine jg_pushi (N := 14) (P := fun ad : Nat → Nat => [(h0, .inr (9, [jI 0, .ref (ad (B + 1)), jI 0, .null, .null, .null]))]) (ad := ad1) (b := B + 1) (L := [1005]) (j := B + 2) (pc := 14) X rfl (by decide) d_9_init_14 ⟨Nat.le_of_ble_eq_true rfl, Nat.le_of_ble_eq_true rfl⟩ (fun _ _ _ => rfl) rfl (fun ad' h => by simp only [h (B + 1) (by omega)]) (jClo_of (by decide +kernel)) (hz 2 (by omega) (by omega)) (fun ad2 h2 => ?_)
  replace hB := (h2 B (by omega)).trans hB
  refine jg_putF (pc := 16) (ci := 9) X hi 0 3 rfl rfl jin9 jty9 jnm9 (by decide) rfl rfl rfl rfl rfl rfl (Nat.le_of_ble_eq_true rfl) kv_131 d_9_init_16 ?_
  refine jg_ws (ws' := (fun ad : Nat → Nat => [(h0, .inr (9, [jI 0, .ref (ad (B + 1)), jI 0, .ref (ad (B + 2)), .null, .null]))]) ad2 ++ jSg Z ad2 C (B + 1) ([1005] ++ [1014])) rfl ?_
  refine jg_sload_n (pc := 19) X d_9_init_19 0 rfl ?_
  refine jg_bipush (pc := 20) X d_9_init_20 rfl ?_
  refine jg_pushi (N := 70) (P := fun ad : Nat → Nat => [(h0, .inr (9, [jI 0, .ref (ad (B + 1)), jI 0, .ref (ad (B + 2)), .null, .null]))]) (ad := ad2) (b := B + 1) (L := [1005] ++ [1014]) (j := B + 3) (pc := 22) X rfl (by decide) d_9_init_22 ⟨Nat.le_of_ble_eq_true rfl, Nat.le_of_ble_eq_true rfl⟩ (fun _ _ _ => rfl) rfl (fun ad' h => by simp only [h (B + 1) (by omega), h (B + 2) (by omega)]) (jClo_of (by decide +kernel)) (hz 3 (by omega) (by omega)) (fun ad3 h3 => ?_)
  replace hB := (h3 B (by omega)).trans hB
  refine jg_putF (pc := 24) (ci := 9) X hi 0 4 rfl rfl jin9 jty9 jnm9 (by decide) rfl rfl rfl rfl rfl rfl (Nat.le_of_ble_eq_true rfl) kv_132 d_9_init_24 ?_
  refine jg_ws (ws' := (fun ad : Nat → Nat => [(h0, .inr (9, [jI 0, .ref (ad (B + 1)), jI 0, .ref (ad (B + 2)), .ref (ad (B + 3)), .null]))]) ad3 ++ jSg Z ad3 C (B + 1) ([1005] ++ [1014] ++ [1070])) rfl ?_
  refine jg_sload_n (pc := 27) X d_9_init_27 0 rfl ?_
  refine jg_pushX (st := [.ref h0]) (ci := 2) (y := y_2_init) (rm := q_2_init) (LX := kLe) (P := fun ad : Nat → Nat => [(h0, .inr (9, [jI 0, .ref (ad (B + 1)), jI 0, .ref (ad (B + 2)), .ref (ad (B + 3)), .null]))]) (ad := ad3) (b := B + 1) (L := [1005] ++ [1014] ++ [1070]) (j := B + 4) (pc := 28) X rfl (n_2 (fun d d0 d1 => by rw [show B + 4 + d = B + (4 + d) by omega]; exact hz _ (by omega) (by omega))) rfl jin2 jty2 nd_2 kv_76 kv_77 kv_4 rfl rfl kv_79 kv_80 ⟨by decide, by decide, by decide +kernel⟩ (Or.inl kv_78) d_9_init_28 d_9_init_31 d_9_init_32 ⟨Nat.le_of_ble_eq_true rfl, Nat.le_of_ble_eq_true rfl⟩ (Nat.le_of_ble_eq_true rfl) ⟨Nat.le_of_ble_eq_true rfl, Nat.le_of_ble_eq_true rfl⟩ (fun ad' h => by simp only [h (B + 1) (by omega), h (B + 2) (by omega), h (B + 3) (by omega)]) (jClo_of (by decide +kernel)) (jClo_of (by decide +kernel)) (fun ad4 h4 => ?_)
  replace hB := (h4 B (by omega)).trans hB
  refine jg_putF (pc := 35) (ci := 9) X hi 0 5 rfl rfl jin9 jty9 jnm9 (by decide) rfl rfl rfl rfl rfl rfl (Nat.le_of_ble_eq_true rfl) kv_133 d_9_init_35 ?_
  refine jg_ws (ws' := (fun ad : Nat → Nat => [(h0, .inr (9, [jI 0, .ref (ad (B + 1)), jI 0, .ref (ad (B + 2)), .ref (ad (B + 3)), .ref (ad (B + 4))]))]) ad4 ++ jSg Z ad4 C (B + 1) (([1005] ++ [1014] ++ [1070]) ++ kLe)) rfl ?_
  refine jg_nret (pc := 38) (ad := ad4) X hAe hr hlocks d_9_init_38 ⟨Nat.le_of_ble_eq_true rfl, Nat.le_of_ble_eq_true rfl⟩ hB ?_
  show (h0, _) :: jSg Z ad4 C (B + 1) _ = (ad4 B, jcell (jZa Z ad4) 9 (B : Int) (C (B : Int))) :: jSg Z ad4 C (B + 1) _
  rw [hB]
  simp only [jcell]
  rw [jrn 1 1 rfl, jrn 2 2 rfl, jrn 3 3 rfl, jrn 4 4 rfl, show C (B : Int) 0 = 0 from hz 0 (by omega) (by omega) 0, show C (B : Int) 2 = 0 from hz 0 (by omega) (by omega) 2]
  try rfl
set_option maxHeartbeats 4000000 in
set_option maxRecDepth 100000 in
theorem n_10 {l : Launch} {Z : jE} {C : jC} {B : Nat} (hz : ∀ d, 0 ≤ d → d < 72 → d ≠ 31 → ∀ k, C ((B + d : Nat) : Int) k = 0) (hrw : ∀ j : Nat, j < 8 → C ((B + 31 : Nat) : Int) (j : Int) = ((B + 32 + 5 * j : Nat) : Int)) : jN l y_10_init prog_12_method_1_code 2 q_10_init Z C B kV 10 f_10 := by
  refine jN_of (by decide) rfl (by decide) ?_
  intro p e s m args below meth c A h0 sz X hAe hr hlocks hi
  refine jg_sload_n (pc := 0) X d_10_init_0 0 rfl ?_
  refine jg_objInit (pc := 1) X kv_260 d_10_init_1 ⟨Nat.le_of_ble_eq_true rfl, Nat.le_of_ble_eq_true rfl⟩ ?_
  have hB : (fun _ : Nat => h0) B = h0 := rfl
  refine jg_ws (ws' := (fun ad : Nat → Nat => [(h0, .inr (10, [.null, .null, .null, jI 0]))]) (fun _ => h0) ++ jSg Z (fun _ => h0) C (B + 1) []) rfl ?_
  generalize (fun _ : Nat => h0) = ad0 at hB ⊢
  refine jg_sload_n (pc := 4) X d_10_init_4 0 rfl ?_
  refine jg_pushX (st := [.ref h0]) (ci := 2) (y := y_2_init) (rm := q_2_init) (LX := kLe) (P := fun ad : Nat → Nat => [(h0, .inr (10, [.null, .null, .null, jI 0]))]) (ad := ad0) (b := B + 1) (L := []) (j := B + 1) (pc := 5) X rfl (n_2 (fun d d0 d1 => by rw [show B + 1 + d = B + (1 + d) by omega]; exact hz _ (by omega) (by omega) (by omega))) rfl jin2 jty2 nd_2 kv_261 kv_77 kv_4 rfl rfl kv_79 kv_80 ⟨by decide, by decide, by decide +kernel⟩ (Or.inl kv_262) d_10_init_5 d_10_init_8 d_10_init_9 ⟨Nat.le_of_ble_eq_true rfl, Nat.le_of_ble_eq_true rfl⟩ (Nat.le_of_ble_eq_true rfl) ⟨Nat.le_of_ble_eq_true rfl, Nat.le_of_ble_eq_true rfl⟩ (fun ad' h => rfl) trivial (jClo_of (by decide +kernel)) (fun ad1 h1 => ?_)
  replace hB := (h1 B (by omega)).trans hB
  refine jg_putF (pc := 12) (ci := 10) X hi 0 0 rfl rfl jin10 jty10 jnm10 (by decide) rfl rfl rfl rfl rfl rfl (Nat.le_of_ble_eq_true rfl) kv_268 d_10_init_12 ?_
  refine jg_ws (ws' := (fun ad : Nat → Nat => [(h0, .inr (10, [.ref (ad (B + 1)), .null, .null, jI 0]))]) ad1 ++ jSg Z ad1 C (B + 1) (kLe)) rfl ?_
  refine jg_sload_n (pc := 15) X d_10_init_15 0 rfl ?_
  refine jg_pushX (st := [.ref h0]) (ci := 6) (y := y_6_init) (rm := q_6_init) (LX := kR) (P := fun ad : Nat → Nat => [(h0, .inr (10, [.ref (ad (B + 1)), .null, .null, jI 0]))]) (ad := ad1) (b := B + 1) (L := kLe) (j := B + 29) (pc := 16) X rfl (n_6 (fun d d0 d1 => by rw [show B + 29 + d = B + (29 + d) by omega]; exact hz _ (by omega) (by omega) (by omega))) rfl jin6 jty6 nd_6 kv_263 kv_161 kv_8 rfl rfl kv_163 kv_164 ⟨by decide, by decide, by decide +kernel⟩ (Or.inr kz_264) d_10_init_16 d_10_init_19 d_10_init_20 ⟨Nat.le_of_ble_eq_true rfl, Nat.le_of_ble_eq_true rfl⟩ (Nat.le_of_ble_eq_true rfl) ⟨Nat.le_of_ble_eq_true rfl, Nat.le_of_ble_eq_true rfl⟩ (fun ad' h => by simp only [h (B + 1) (by omega)]) (jClo_of (by decide +kernel)) (jClo_of (by decide +kernel)) (fun ad2 h2 => ?_)
  replace hB := (h2 B (by omega)).trans hB
  refine jg_putF (pc := 23) (ci := 10) X hi 0 1 rfl rfl jin10 jty10 jnm10 (by decide) rfl rfl rfl rfl rfl rfl (Nat.le_of_ble_eq_true rfl) kv_272 d_10_init_23 ?_
  refine jg_ws (ws' := (fun ad : Nat → Nat => [(h0, .inr (10, [.ref (ad (B + 1)), .ref (ad (B + 29)), .null, jI 0]))]) ad2 ++ jSg Z ad2 C (B + 1) ((kLe) ++ kR)) rfl ?_
  refine jg_sload_n (pc := 26) X d_10_init_26 0 rfl ?_
  refine jg_bipush (pc := 27) X d_10_init_27 rfl ?_
  refine jg_newq (N := 8) (pc := 29) X (k := 4) rfl (by decide) kv_265 kz_266 d_10_init_29 ⟨Nat.le_of_ble_eq_true rfl, Nat.le_of_ble_eq_true rfl⟩ (fun r => ?_)
  refine jg_putF (pc := 32) (ci := 10) X hi 0 2 rfl rfl jin10 jty10 jnm10 (by decide) rfl rfl rfl rfl rfl rfl (Nat.le_of_ble_eq_true rfl) kv_276 d_10_init_32 ?_
  refine jg_iconst (pc := 35) X d_10_init_35 ?_
  refine jg_istore_n (pc := 36) X [(1, jI 0), (0, .ref h0)] d_10_init_36 (by decide) rfl ?_
  obtain ⟨adR, hR0, hR1⟩ : ∃ adR : Nat → Nat, (∀ i, i < B + 31 → adR i = ad2 i) ∧ adR (B + 31) = r := ⟨fun i => if i < B + 31 then ad2 i else r, fun i hi => if_pos hi, if_neg (by omega)⟩
  have hrow : (fun _ : Nat => (none : Option Nat)) = jRow_ adR (B + 32) kE.length 0 := by funext j; unfold jRow_; rw [if_neg (by omega)]
  refine jg_ws (ws' := (((h0, .inr (10, [.ref (ad2 (B + 1)), .ref (ad2 (B + 29)), .ref r, jI 0])) :: jSg Z ad2 C (B + 1) (kLe ++ kR)) ++ [(r, .inl (Z.2.1 4, 8, .inr (.inr (.inr (.inr (jRow_ adR (B + 32) kE.length 0))))))]) ++ jSg Z adR C (B + 32) ([] ++ jRep kE 0)) (by rw [← hrow]; rfl) ?_
  refine jg_rows (ci := 10) (cj := 0) (N := 8) (hp := 40) (hd := 37) (tgt := 62) (t0 := 4) (h0 := h0) (r := r) (b := B + 32) (o := B + 32) (kf := 2) (L0 := []) (LX := kE) (W0 := ((h0, .inr (10, [.ref (ad2 (B + 1)), .ref (ad2 (B + 29)), .ref r, jI 0])) :: jSg Z ad2 C (B + 1) (kLe ++ kR))) (c0 := 31) (s0 := 191) (rm := q_0_init) (y := y_0_init) (adE := adR) X (by decide) rfl rfl rfl jin10 (by decide) rfl kv_276 rfl rfl (by decide) (fun k hk => n_0 (fun d d0 d1 => ?_)) rfl jin0 jty0 nd_0 kv_265 kv_230 kv_10 rfl rfl kv_232 kv_233 ⟨by decide, by decide, by decide +kernel⟩ (Or.inr kz_267) (fun _ _ _ => ⟨_, rfl⟩) (by decide) d_10_init_40 rfl d_10_init_43 d_10_init_44 d_10_init_47 d_10_init_48 d_10_init_51 d_10_init_52 d_10_init_55 d_10_init_56 d_10_init_59 rfl (fun k ws cells slots q => jg_iload_n (pc := 37) X d_10_init_37 0 rfl (jg_bipush (pc := 38) X d_10_init_38 rfl q)) ⟨Nat.le_of_ble_eq_true rfl, Nat.le_of_ble_eq_true rfl⟩ ⟨Nat.le_of_ble_eq_true rfl, Nat.le_of_ble_eq_true rfl⟩ trivial (fun k hk => jClo_of (by decide +kernel)) (fun adX hX => ?_) 8 0 adR rfl (fun _ _ => rfl)
  · rw [show B + 32 + kE.length * k + d = B + (32 + 5 * k + d) by simp only [List.length_cons, List.length_nil]; omega]; exact hz _ (by omega) (by omega) (by omega)
  · have hag : ∀ i, i < B + 31 → adX i = ad2 i := fun i hi => (hX i (by omega)).trans (hR0 i hi)
    replace hB := (hag B (by omega)).trans hB
    have hr1 : adX (B + 31) = r := (hX (B + 31) (by omega)).trans hR1
    refine jg_conv (ws' := jSg Z adX C B kV) (fun H hP => ?_) ?_ (jg_nret (pc := 62) (ad := adX) X hAe hr hlocks d_10_init_62 ⟨Nat.le_of_ble_eq_true rfl, Nat.le_of_ble_eq_true rfl⟩ hB rfl)
    · obtain ⟨a12, a3⟩ := va_P_app hP
      obtain ⟨a1, a2⟩ := va_P_app a12
      obtain ⟨b1, b2⟩ := va_P_cons.mp a1
      have b3 := (va_P_cons.mp a2).1
      have t1 := jSg_tr (ad' := adX) (jClo_of (by decide +kernel)) (fun i i0 i1 => hag i (by have h30 := kl_30; omega)) b2
      show va_P Z.1 jcl ((adX B, jcell (jZa Z adX) 10 (B : Int) (C (B : Int))) :: (jSg Z adX C (B + 1) (kLe ++ kR) ++ ((adX (B + 31), jcell (jZa Z adX) 22 ((B + 31 : Nat) : Int) (C ((B + 31 : Nat) : Int))) :: jSg Z adX C (B + 32) (jRep kE 8)))) H
      refine va_P_cons.mpr ⟨?_, t1.app (va_P_cons.mpr ⟨?_, a3⟩)⟩
      · have e : (h0, (.inr (10, [.ref (ad2 (B + 1)), .ref (ad2 (B + 29)), .ref r, jI 0]) : va_E)) = (adX B, jcell (jZa Z adX) 10 (B : Int) (C (B : Int))) := by
          rw [hB]; simp only [jcell]; rw [jrn 1 1 rfl, jrn 29 29 rfl, jrn 31 31 rfl, hr1, hag (B + 1) (by omega), hag (B + 29) (by omega), show C (B : Int) 3 = 0 from hz 0 (by omega) (by omega) (by omega) 3]
        rw [← e]; exact b1
      · show H[adX (B + 31)]? = some (vp_cell (Z.2.1 4) (8, .inr (.inr (.inr (.inr (fun j => some (adX (C ((B + 31 : Nat) : Int) (j : Int)).toNat)))))))
        rw [hr1]
        have e : vp_cell (Z.2.1 4) (8, .inr (.inr (.inr (.inr (fun j => some (adX (C ((B + 31 : Nat) : Int) (j : Int)).toNat)))))) = vp_cell (Z.2.1 4) (8, .inr (.inr (.inr (.inr (jRow_ adX (B + 32) kE.length 8))))) := by
          rw [vp_cell_q, vp_cell_q]
          refine arrV_congr (fun j hj => ?_)
          unfold jRow_
          rw [if_pos hj, hrw j hj, show (((B + 32 + 5 * j : Nat) : Int)).toNat = B + 32 + kE.length * j by simp only [List.length_cons, List.length_nil]; omega]
        rw [e]; exact b3
    · show adX B :: (jSg Z adX C (B + 1) (kLe ++ kR) ++ ((adX (B + 31), _) :: jSg Z adX C (B + 32) (jRep kE 8))).map Prod.fst = _
      rw [List.map_append, jSg_ad (ad := ad2) (ad' := adX) (fun i i0 i1 => hag i (by have h30 := kl_30; omega))]
      show adX B :: (_ ++ adX (B + 31) :: _) = _
      rw [hB, hr1, List.map_append, List.map_append]
      show h0 :: _ = h0 :: _
      rw [List.append_assoc]; rfl
theorem clo_V {C : jC} {B : Nat} (hrw : ∀ j : Nat, j < 8 → C ((B + 31 : Nat) : Int) (j : Int) = ((B + 32 + 5 * j : Nat) : Int)) : jClo C B kV := by
  show jClo C B ([10] ++ (kLe ++ kR) ++ [22] ++ jRep kE 8)
  have h1 : jClo C (B + 1) ((kLe ++ kR)) := jClo_of (by decide +kernel)
  have h3 : jClo C (B + 32) (jRep kE 8) := jClo_of (by decide +kernel)
  refine ⟨⟨by decide, fun q => absurd q (by decide), fun q => absurd q (by decide)⟩, ?_⟩
  show jClo C (B + 1) ((kLe ++ kR) ++ ([22] ++ jRep kE 8))
  refine jClo_app _ _ _ h1 ?_
  refine ⟨⟨by decide, fun _ j hj => ?_, fun q => absurd q (by decide)⟩, h3⟩
  show B + 31 ≤ (C ((B + 31 : Nat) : Int) (j : Int)).toNat ∧ (C ((B + 31 : Nat) : Int) (j : Int)).toNat < B + 31 + (40 + 1)
  rw [hrw j hj]
  omega
set_option maxHeartbeats 4000000 in
set_option maxRecDepth 100000 in
theorem n_8 {l : Launch} {Z : jE} {C : jC} {B : Nat} (hz : ∀ d, 0 ≤ d → d < 304 → (∀ v, v < 4 → d ≠ 47 + 72 * v) → ∀ k, C ((B + d : Nat) : Int) k = 0) (hrw : ∀ v : Nat, v < 4 → ∀ j : Nat, j < 8 → C ((B + 16 + 72 * v + 31 : Nat) : Int) (j : Int) = ((B + 16 + 72 * v + 32 + 5 * j : Nat) : Int)) : jN l y_8_init prog_10_method_1_code 2 q_8_init Z C B kSt 8 f_8 := by
  refine jN_of (by decide) rfl (by decide) ?_
  intro p e s m args below meth c A h0 sz X hAe hr hlocks hi
  refine jg_sload_n (pc := 0) X d_8_init_0 0 rfl ?_
  refine jg_objInit (pc := 1) X kv_153 d_8_init_1 ⟨Nat.le_of_ble_eq_true rfl, Nat.le_of_ble_eq_true rfl⟩ ?_
  have hB : (fun _ : Nat => h0) B = h0 := rfl
  refine jg_ws (ws' := (fun ad : Nat → Nat => [(h0, .inr (8, [.null, .null, .null, .null]))]) (fun _ => h0) ++ jSg Z (fun _ => h0) C (B + 1) []) rfl ?_
  generalize (fun _ : Nat => h0) = ad0 at hB ⊢
  refine jg_sload_n (pc := 4) X d_8_init_4 0 rfl ?_
  refine jg_pushX (st := [.ref h0]) (ci := 7) (y := y_7_init) (rm := q_7_init) (LX := kSh) (P := fun ad : Nat → Nat => [(h0, .inr (8, [.null, .null, .null, .null]))]) (ad := ad0) (b := B + 1) (L := []) (j := B + 1) (pc := 5) X rfl (n_7 (fun d d0 d1 => by rw [show B + 1 + d = B + (1 + d) by omega]; exact hz _ (by omega) (by omega) (fun v hv => by omega))) rfl jin7 jty7 nd_7 kv_154 kv_155 kv_7 rfl rfl kv_157 kv_158 ⟨by decide, by decide, by decide +kernel⟩ (Or.inr kz_156) d_8_init_5 d_8_init_8 d_8_init_9 ⟨Nat.le_of_ble_eq_true rfl, Nat.le_of_ble_eq_true rfl⟩ (Nat.le_of_ble_eq_true rfl) ⟨Nat.le_of_ble_eq_true rfl, Nat.le_of_ble_eq_true rfl⟩ (fun ad' h => rfl) trivial (jClo_of (by decide +kernel)) (fun ad1 h1 => ?_)
  replace hB := (h1 B (by omega)).trans hB
  refine jg_putF (pc := 12) (ci := 8) X hi 0 0 rfl rfl jin8 jty8 jnm8 (by decide) rfl rfl rfl rfl rfl rfl (Nat.le_of_ble_eq_true rfl) kv_288 d_8_init_12 ?_
  refine jg_ws (ws' := (fun ad : Nat → Nat => [(h0, .inr (8, [.ref (ad (B + 1)), .null, .null, .null]))]) ad1 ++ jSg Z ad1 C (B + 1) (kSh)) rfl ?_
  refine jg_sload_n (pc := 15) X d_8_init_15 0 rfl ?_
  refine jg_iconst (pc := 16) X d_8_init_16 ?_
  refine jg_newq (N := 4) (pc := 17) X (k := 5) rfl (by decide) kv_210 kz_211 d_8_init_17 ⟨Nat.le_of_ble_eq_true rfl, Nat.le_of_ble_eq_true rfl⟩ (fun r => ?_)
  refine jg_putF (pc := 20) (ci := 8) X hi 0 1 rfl rfl jin8 jty8 jnm8 (by decide) rfl rfl rfl rfl rfl rfl (Nat.le_of_ble_eq_true rfl) kv_291 d_8_init_20 ?_
  obtain ⟨adR, hR0, hR1⟩ : ∃ adR : Nat → Nat, (∀ i, i < B + 8 → adR i = ad1 i) ∧ adR (B + 8) = r := ⟨fun i => if i < B + 8 then ad1 i else r, fun i hi => if_pos hi, if_neg (by omega)⟩
  refine jg_ws (ws' := (fun _ : Nat → Nat => ((h0, .inr (8, [.ref (ad1 (B + 1)), .ref r, .null, .null])) :: jSg Z ad1 C (B + 1) kSh) ++ [(r, .inl (Z.2.1 5, 4, .inr (.inr (.inr (.inr (fun _ => none))))))]) adR ++ jSg Z adR C (B + 9) []) (by show _ = (_ ++ _) ++ []; rw [List.append_nil]; rfl) ?_
  refine jg_sload_n (pc := 23) X d_8_init_23 0 rfl ?_
  refine jg_pushX (st := [.ref h0]) (ci := 3) (y := y_3_init) (R := q_8_init) (cells := 8) (slots := 307) (rm := q_3_init) (LX := kLo) (P := fun _ : Nat → Nat => ((h0, .inr (8, [.ref (ad1 (B + 1)), .ref r, .null, .null])) :: jSg Z ad1 C (B + 1) kSh) ++ [(r, .inl (Z.2.1 5, 4, .inr (.inr (.inr (.inr (fun _ => none))))))]) (ad := adR) (b := B + 9) (L := []) (j := B + 9) (pc := 24) X rfl (n_3 (fun d d0 d1 => by rw [show B + 9 + d = B + (9 + d) by omega]; exact hz _ (by omega) (by omega) (fun v hv => by omega))) rfl jin3 jty3 nd_3 kv_212 kv_213 kv_9 rfl rfl kv_215 kv_216 ⟨by decide, by decide, by decide +kernel⟩ (Or.inr kz_214) d_8_init_24 d_8_init_27 d_8_init_28 ⟨Nat.le_of_ble_eq_true rfl, Nat.le_of_ble_eq_true rfl⟩ (Nat.le_of_ble_eq_true rfl) ⟨Nat.le_of_ble_eq_true rfl, Nat.le_of_ble_eq_true rfl⟩ (fun ad' h => rfl) trivial (jClo_of (by decide +kernel)) (fun ad3 h3 => ?_)
  refine jg_putF (pc := 31) (ci := 8) X hi 0 2 rfl rfl jin8 jty8 jnm8 (by decide) rfl rfl rfl rfl rfl rfl (Nat.le_of_ble_eq_true rfl) kv_293 d_8_init_31 ?_
  refine jg_ws (ws' := (fun ad : Nat → Nat => ((h0, .inr (8, [.ref (ad1 (B + 1)), .ref r, .ref (ad (B + 9)), .null])) :: jSg Z ad1 C (B + 1) kSh) ++ [(r, .inl (Z.2.1 5, 4, .inr (.inr (.inr (.inr (fun _ => none))))))]) ad3 ++ jSg Z ad3 C (B + 9) kLo) rfl ?_
  refine jg_sload_n (pc := 34) X d_8_init_34 0 rfl ?_
  refine jg_pushX (st := [.ref h0]) (ci := 0) (y := y_0_init) (R := q_8_init) (cells := 10) (slots := 510) (rm := q_0_init) (LX := kE) (P := fun ad : Nat → Nat => ((h0, .inr (8, [.ref (ad1 (B + 1)), .ref r, .ref (ad (B + 9)), .null])) :: jSg Z ad1 C (B + 1) kSh) ++ [(r, .inl (Z.2.1 5, 4, .inr (.inr (.inr (.inr (fun _ => none))))))]) (ad := ad3) (b := B + 9) (L := kLo) (j := B + 11) (pc := 35) X rfl (n_0 (fun d d0 d1 => by rw [show B + 11 + d = B + (11 + d) by omega]; exact hz _ (by omega) (by omega) (fun v hv => by omega))) rfl jin0 jty0 nd_0 kv_229 kv_230 kv_10 rfl rfl kv_232 kv_233 ⟨by decide, by decide, by decide +kernel⟩ (Or.inr kz_231) d_8_init_35 d_8_init_38 d_8_init_39 ⟨Nat.le_of_ble_eq_true rfl, Nat.le_of_ble_eq_true rfl⟩ (Nat.le_of_ble_eq_true rfl) ⟨Nat.le_of_ble_eq_true rfl, Nat.le_of_ble_eq_true rfl⟩ (fun ad' h => by simp only [h (B + 9) (by omega)]) (jClo_of (by decide +kernel)) (jClo_of (by decide +kernel)) (fun ad4 h4 => ?_)
  refine jg_putF (pc := 42) (ci := 8) X hi 0 3 rfl rfl jin8 jty8 jnm8 (by decide) rfl rfl rfl rfl rfl rfl (Nat.le_of_ble_eq_true rfl) kv_295 d_8_init_42 ?_
  refine jg_iconst (pc := 45) X d_8_init_45 ?_
  refine jg_istore_n (pc := 46) X [(1, jI 0), (0, .ref h0)] d_8_init_46 (by decide) rfl ?_
  have hrow : (fun _ : Nat => (none : Option Nat)) = jRow_ ad4 (B + 16) kV.length 0 := by funext j; unfold jRow_; rw [if_neg (by omega)]
  have kVl : kV.length = 72 := by decide
  refine jg_ws (ws' := (((h0, .inr (8, [.ref (ad1 (B + 1)), .ref r, .ref (ad4 (B + 9)), .ref (ad4 (B + 11))])) :: jSg Z ad1 C (B + 1) kSh) ++ [(r, .inl (Z.2.1 5, 4, .inr (.inr (.inr (.inr (jRow_ ad4 (B + 16) kV.length 0))))))]) ++ jSg Z ad4 C (B + 9) ((kLo ++ kE) ++ jRep kV 0)) (by rw [← hrow]; rfl) ?_
  refine jg_rows (ci := 8) (cj := 10) (N := 4) (hp := 49) (hd := 47) (tgt := 71) (t0 := 5) (h0 := h0) (r := r) (b := B + 9) (o := B + 16) (kf := 1) (L0 := kLo ++ kE) (LX := kV) (W0 := ((h0, .inr (8, [.ref (ad1 (B + 1)), .ref r, .ref (ad4 (B + 9)), .ref (ad4 (B + 11))])) :: jSg Z ad1 C (B + 1) kSh)) (c0 := 15) (s0 := 755) (rm := q_10_init) (y := y_10_init) (adE := ad4) X (by decide) rfl rfl rfl jin8 (by decide) rfl kv_291 rfl rfl (by decide) (fun k hk => n_10 (fun d d0 d1 d2 => ?_) (fun j hj => ?_)) rfl jin10 jty10 nd_10 kv_210 kv_256 kv_11 rfl rfl kv_258 kv_259 ⟨by decide, by decide, by decide +kernel⟩ (Or.inl kv_257) (fun _ _ _ => ⟨_, rfl⟩) (by decide) d_8_init_49 rfl d_8_init_52 d_8_init_53 d_8_init_56 d_8_init_57 d_8_init_60 d_8_init_61 d_8_init_64 d_8_init_65 d_8_init_68 rfl (fun k ws cells slots q => jg_iload_n (pc := 47) X d_8_init_47 0 rfl (jg_iconst (pc := 48) X d_8_init_48 q)) ⟨Nat.le_of_ble_eq_true rfl, Nat.le_of_ble_eq_true rfl⟩ ⟨Nat.le_of_ble_eq_true rfl, Nat.le_of_ble_eq_true rfl⟩ (jClo_of (by decide +kernel)) (fun k hk => clo_V (fun j hj => ?_)) (fun ad2 h2 => ?_) 4 0 ad4 rfl (fun _ _ => rfl)
  · rw [kVl, show B + 16 + 72 * k + d = B + (16 + 72 * k + d) by omega]; exact hz _ (by omega) (by omega) (by omega)
  · rw [kVl]; exact hrw k hk j hj
  · rw [kVl]; exact hrw k hk j hj
  · have hag : ∀ i, i < B + 8 → ad2 i = ad1 i := fun i hi => (h2 i (by omega)).trans ((h4 i (by omega)).trans ((h3 i (by omega)).trans (hR0 i hi)))
    replace hB := (hag B (by omega)).trans hB
    have hr1 : ad2 (B + 8) = r := (h2 (B + 8) (by omega)).trans ((h4 (B + 8) (by omega)).trans ((h3 (B + 8) (by omega)).trans hR1))
    refine jg_conv (ws' := jSg Z ad2 C B kSt) (fun H hP => ?_) ?_ (jg_nret (pc := 71) (ad := ad2) X hAe hr hlocks d_8_init_71 ⟨Nat.le_of_ble_eq_true rfl, Nat.le_of_ble_eq_true rfl⟩ hB rfl)
    · obtain ⟨a12, a3⟩ := va_P_app hP
      obtain ⟨a1, a2⟩ := va_P_app a12
      obtain ⟨b1, b2⟩ := va_P_cons.mp a1
      have b3 := (va_P_cons.mp a2).1
      have t1 := jSg_tr (ad' := ad2) (jClo_of (by decide +kernel)) (fun i i0 i1 => hag i (by have h30 := kl_7; omega)) b2
      show va_P Z.1 jcl ((ad2 B, jcell (jZa Z ad2) 8 (B : Int) (C (B : Int))) :: (jSg Z ad2 C (B + 1) kSh ++ ((ad2 (B + 8), jcell (jZa Z ad2) 23 ((B + 8 : Nat) : Int) (C ((B + 8 : Nat) : Int))) :: jSg Z ad2 C (B + 9) ((kLo ++ kE) ++ jRep kV 4)))) H
      refine va_P_cons.mpr ⟨?_, t1.app (va_P_cons.mpr ⟨?_, a3⟩)⟩
      · have e : (h0, (.inr (8, [.ref (ad1 (B + 1)), .ref r, .ref (ad4 (B + 9)), .ref (ad4 (B + 11))]) : va_E)) = (ad2 B, jcell (jZa Z ad2) 8 (B : Int) (C (B : Int))) := by
          rw [hB]; simp only [jcell]; rw [jrn 1 1 rfl, jrn 8 8 rfl, jrn 9 9 rfl, jrn 11 11 rfl, hr1, hag (B + 1) (by omega), h2 (B + 9) (by omega), h2 (B + 11) (by omega)]
        rw [← e]; exact b1
      · show H[ad2 (B + 8)]? = some (vp_cell (Z.2.1 5) (4, .inr (.inr (.inr (.inr (fun j => some (ad2 (((B + 8 : Nat) : Int) + 8 + 72 * (j : Int)).toNat)))))))
        rw [hr1]
        have e : vp_cell (Z.2.1 5) (4, .inr (.inr (.inr (.inr (fun j => some (ad2 (((B + 8 : Nat) : Int) + 8 + 72 * (j : Int)).toNat)))))) = vp_cell (Z.2.1 5) (4, .inr (.inr (.inr (.inr (jRow_ ad2 (B + 16) kV.length 4))))) := by
          rw [vp_cell_q, vp_cell_q]
          refine arrV_congr (fun j hj => ?_)
          unfold jRow_
          rw [if_pos hj, kVl, show (((B + 8 : Nat) : Int) + 8 + 72 * (j : Int)).toNat = B + 16 + 72 * j by omega]
        rw [e]; exact b3
    · show ad2 B :: (jSg Z ad2 C (B + 1) kSh ++ ((ad2 (B + 8), _) :: jSg Z ad2 C (B + 9) ((kLo ++ kE) ++ jRep kV 4))).map Prod.fst = _
      rw [List.map_append, jSg_ad (ad := ad1) (ad' := ad2) (fun i i0 i1 => hag i (by have h30 := kl_7; omega))]
      show ad2 B :: (_ ++ ad2 (B + 8) :: _) = _
      rw [hB, hr1, List.map_append, List.map_append]
      show h0 :: _ = h0 :: _
      rw [List.append_assoc]; rfl
theorem kVl : kV.length = 72 := by decide
theorem clo_St {C : jC} {B : Nat} (hrw : ∀ v : Nat, v < 4 → ∀ j : Nat, j < 8 → C ((B + 16 + 72 * v + 31 : Nat) : Int) (j : Int) = ((B + 16 + 72 * v + 32 + 5 * j : Nat) : Int)) : jClo C B kSt := by
  have h1 : jClo C (B + 1) kSh := jClo_of (by decide +kernel)
  have h2 : jClo C (B + 9) (kLo ++ kE) := jClo_of (by decide +kernel)
  have h3 : jClo C (B + 16) (jRep kV 4) := jRep_clo 4 (fun k hk => by rw [kVl]; exact clo_V (fun j hj => hrw k hk j hj))
  refine ⟨⟨by decide +kernel, fun q => absurd q (by decide), fun q => absurd q (by decide)⟩, ?_⟩
  show jClo C (B + 1) (kSh ++ ([23] ++ ((kLo ++ kE) ++ jRep kV 4)))
  refine jClo_app _ _ _ h1 ?_
  refine ⟨⟨by decide +kernel, fun q => absurd q (by decide), fun q => absurd q (by decide)⟩, ?_⟩
  show jClo C (B + 9) ((kLo ++ kE) ++ jRep kV 4)
  exact jClo_app _ _ _ h2 h3
set_option maxHeartbeats 4000000 in
set_option maxRecDepth 100000 in
theorem n_11 {l : Launch} {Z : jE} {C : jC} {B : Nat} (hk4 : C (B : Int) 4 = -1) (hf : ∀ k, k ≠ 4 → C ((B + 1 : Nat) : Int) k = 0) (hf4 : C ((B + 1 : Nat) : Int) 4 = -1) (hz : ∀ d, 2 ≤ d → d < 345 → (∀ v, v < 4 → d ≠ 82 + 72 * v) → ∀ k, C ((B + d : Nat) : Int) k = 0) (hrw : ∀ v : Nat, v < 4 → ∀ j : Nat, j < 8 → C ((B + 35 + 16 + 72 * v + 31 : Nat) : Int) (j : Int) = ((B + 35 + 16 + 72 * v + 32 + 5 * j : Nat) : Int)) : jN l y_11_init prog_1_method_1_code 1 q_11_init Z C B kP 11 f_11 := by
  refine jN_of (by decide) rfl (by decide) ?_
  intro p e s m args below meth c A h0 sz X hAe hr hlocks hi
  refine jg_sload_n (pc := 0) X d_11_init_0 0 rfl ?_
  refine jg_objInit (pc := 1) X kv_33 d_11_init_1 ⟨Nat.le_of_ble_eq_true rfl, Nat.le_of_ble_eq_true rfl⟩ ?_
  have hB : (fun _ : Nat => h0) B = h0 := rfl
  refine jg_ws (ws' := (fun ad : Nat → Nat => [(h0, .inr (11, [.null, .null, .null, .null, .null]))]) (fun _ => h0) ++ jSg Z (fun _ => h0) C (B + 1) []) rfl ?_
  generalize (fun _ : Nat => h0) = ad0 at hB ⊢
  refine jg_sload_n (pc := 4) X d_11_init_4 0 rfl ?_
  refine jg_pushX (st := [.ref h0]) (ci := 5) (y := y_5_init) (rm := q_5_init) (LX := kRe) (P := fun ad : Nat → Nat => [(h0, .inr (11, [.null, .null, .null, .null, .null]))]) (ad := ad0) (b := B + 1) (L := []) (j := B + 1) (pc := 5) X rfl (n_5 (fun d d0 d1 => by rw [show B + 1 + d = B + (1 + d) by omega]; exact hz _ (by omega) (by omega) (fun v hv => by omega)) hf hf4) rfl jin5 jty5 nd_5 kv_36 kv_37 kv_2 rfl rfl kv_39 kv_40 ⟨by decide, by decide, by decide +kernel⟩ (Or.inr kz_38) d_11_init_5 d_11_init_8 d_11_init_9 ⟨Nat.le_of_ble_eq_true rfl, Nat.le_of_ble_eq_true rfl⟩ (Nat.le_of_ble_eq_true rfl) ⟨Nat.le_of_ble_eq_true rfl, Nat.le_of_ble_eq_true rfl⟩ (fun ad' h => rfl) trivial (jClo_of (by decide +kernel)) (fun ad1 h1 => ?_)
  replace hB := (h1 B (by omega)).trans hB
  refine jg_putF (pc := 12) (ci := 11) X hi 0 0 rfl rfl jin11 jty11 jnm11 (by decide) rfl rfl rfl rfl rfl rfl (Nat.le_of_ble_eq_true rfl) kv_336 d_11_init_12 ?_
  refine jg_ws (ws' := (fun ad : Nat → Nat => [(h0, .inr (11, [.ref (ad (B + 1)), .null, .null, .null, .null]))]) ad1 ++ jSg Z ad1 C (B + 1) (kRe)) rfl ?_
  refine jg_sload_n (pc := 15) X d_11_init_15 0 rfl ?_
  refine jg_pushX (st := [.ref h0]) (ci := 9) (y := y_9_init) (rm := q_9_init) (LX := kT) (P := fun ad : Nat → Nat => [(h0, .inr (11, [.ref (ad (B + 1)), .null, .null, .null, .null]))]) (ad := ad1) (b := B + 1) (L := kRe) (j := B + 3) (pc := 16) X rfl (n_9 (fun d d0 d1 => by rw [show B + 3 + d = B + (3 + d) by omega]; exact hz _ (by omega) (by omega) (fun v hv => by omega))) rfl jin9 jty9 nd_9 kv_70 kv_71 kv_3 rfl rfl kv_73 kv_74 ⟨by decide, by decide, by decide +kernel⟩ (Or.inr kz_72) d_11_init_16 d_11_init_19 d_11_init_20 ⟨Nat.le_of_ble_eq_true rfl, Nat.le_of_ble_eq_true rfl⟩ (Nat.le_of_ble_eq_true rfl) ⟨Nat.le_of_ble_eq_true rfl, Nat.le_of_ble_eq_true rfl⟩ (fun ad' h => by simp only [h (B + 1) (by omega)]) (jClo_of (by decide +kernel)) (jClo_of (by decide +kernel)) (fun ad2 h2 => ?_)
  replace hB := (h2 B (by omega)).trans hB
  refine jg_putF (pc := 23) (ci := 11) X hi 0 1 rfl rfl jin11 jty11 jnm11 (by decide) rfl rfl rfl rfl rfl rfl (Nat.le_of_ble_eq_true rfl) kv_337 d_11_init_23 ?_
  refine jg_ws (ws' := (fun ad : Nat → Nat => [(h0, .inr (11, [.ref (ad (B + 1)), .ref (ad (B + 3)), .null, .null, .null]))]) ad2 ++ jSg Z ad2 C (B + 1) ((kRe) ++ kT)) rfl ?_
  refine jg_sload_n (pc := 26) X d_11_init_26 0 rfl ?_
  refine jg_pushX (st := [.ref h0]) (ci := 8) (y := y_8_init) (rm := q_8_init) (LX := kSt) (P := fun ad : Nat → Nat => [(h0, .inr (11, [.ref (ad (B + 1)), .ref (ad (B + 3)), .null, .null, .null]))]) (ad := ad2) (b := B + 1) (L := (kRe) ++ kT) (j := B + 35) (pc := 27) X rfl (n_8 (fun d d0 d1 d2 => by rw [show B + 35 + d = B + (35 + d) by omega]; exact hz _ (by omega) (by omega) (fun v hv => by have := d2 v hv; omega)) hrw) rfl jin8 jty8 nd_8 kv_148 kv_149 kv_6 rfl rfl kv_151 kv_152 ⟨by decide, by decide, by decide +kernel⟩ (Or.inl kv_150) d_11_init_27 d_11_init_30 d_11_init_31 ⟨Nat.le_of_ble_eq_true rfl, Nat.le_of_ble_eq_true rfl⟩ (Nat.le_of_ble_eq_true rfl) ⟨Nat.le_of_ble_eq_true rfl, Nat.le_of_ble_eq_true rfl⟩ (fun ad' h => by simp only [h (B + 1) (by omega), h (B + 3) (by omega)]) (jClo_of (by decide +kernel)) (clo_St hrw) (fun ad3 h3 => ?_)
  replace hB := (h3 B (by omega)).trans hB
  refine jg_putF (pc := 34) (ci := 11) X hi 0 2 rfl rfl jin11 jty11 jnm11 (by decide) rfl rfl rfl rfl rfl rfl (Nat.le_of_ble_eq_true rfl) kv_338 d_11_init_34 ?_
  refine jg_ws (ws' := (fun ad : Nat → Nat => [(h0, .inr (11, [.ref (ad (B + 1)), .ref (ad (B + 3)), .ref (ad (B + 35)), .null, .null]))]) ad3 ++ jSg Z ad3 C (B + 1) (((kRe) ++ kT) ++ kSt)) rfl ?_
  refine jg_sload_n (pc := 37) X d_11_init_37 0 rfl ?_
  refine jg_pushX (st := [.ref h0]) (ci := 4) (y := y_4_init) (rm := q_4_init) (LX := kQ) (P := fun ad : Nat → Nat => [(h0, .inr (11, [.ref (ad (B + 1)), .ref (ad (B + 3)), .ref (ad (B + 35)), .null, .null]))]) (ad := ad3) (b := B + 1) (L := ((kRe) ++ kT) ++ kSt) (j := B + 339) (pc := 38) X rfl (n_4 (fun d d0 d1 => by rw [show B + 339 + d = B + (339 + d) by omega]; exact hz _ (by omega) (by omega) (fun v hv => by omega))) rfl jin4 jty4 nd_4 kv_305 kv_306 kv_12 rfl rfl kv_308 kv_309 ⟨by decide, by decide, by decide +kernel⟩ (Or.inr kz_307) d_11_init_38 d_11_init_41 d_11_init_42 ⟨Nat.le_of_ble_eq_true rfl, Nat.le_of_ble_eq_true rfl⟩ (Nat.le_of_ble_eq_true rfl) ⟨Nat.le_of_ble_eq_true rfl, Nat.le_of_ble_eq_true rfl⟩ (fun ad' h => by simp only [h (B + 1) (by omega), h (B + 3) (by omega), h (B + 35) (by omega)]) (jClo_app _ _ _ (jClo_of (by decide +kernel)) (clo_St hrw)) (jClo_of (by decide +kernel)) (fun ad4 h4 => ?_)
  replace hB := (h4 B (by omega)).trans hB
  refine jg_putF (pc := 45) (ci := 11) X hi 0 3 rfl rfl jin11 jty11 jnm11 (by decide) rfl rfl rfl rfl rfl rfl (Nat.le_of_ble_eq_true rfl) kv_339 d_11_init_45 ?_
  refine jg_ws (ws' := (fun ad : Nat → Nat => [(h0, .inr (11, [.ref (ad (B + 1)), .ref (ad (B + 3)), .ref (ad (B + 35)), .ref (ad (B + 339)), .null]))]) ad4 ++ jSg Z ad4 C (B + 1) ((((kRe) ++ kT) ++ kSt) ++ kQ)) rfl ?_
  refine jg_nret (pc := 48) (ad := ad4) X hAe hr hlocks d_11_init_48 ⟨Nat.le_of_ble_eq_true rfl, Nat.le_of_ble_eq_true rfl⟩ hB ?_
  show (h0, _) :: jSg Z ad4 C (B + 1) _ = (ad4 B, jcell (jZa Z ad4) 11 (B : Int) (C (B : Int))) :: jSg Z ad4 C (B + 1) _
  rw [hB]
  simp only [jcell]
  rw [jrn 1 1 rfl, jrn 3 3 rfl, jrn 35 35 rfl, jrn 339 339 rfl, hk4]
  rfl
/-- the model's world as it is made: no row -/
def jMw (k : Int) : Int → Int := fun t => if 9 ≤ t ∧ t < 9 + 11 * k ∧ (t - 9) % 11 = 0 then -1 else 0
theorem jMw_0 : jMw 0 = fun _ => 0 := by
  funext t; unfold jMw; rw [if_neg (by omega)]
theorem jMw_s {k : Int} (h : 0 ≤ k) : jMw (k + 1) = fun t => if t = 9 + 11 * k then -1 else jMw k t := by
  funext t
  unfold jMw
  by_cases e : t = 9 + 11 * k
  · rw [if_pos e, if_pos (by omega)]
  · rw [if_neg e]
    by_cases q : 9 ≤ t ∧ t < 9 + 11 * k ∧ (t - 9) % 11 = 0
    · rw [if_pos q, if_pos (by omega)]
    · rw [if_neg q, if_neg (by omega)]
set_option maxHeartbeats 4000000 in
set_option maxRecDepth 100000 in
theorem n_12 {l : Launch} {Z : jE} {C : jC} {B : Nat} (hf : ∀ k, k ≠ 11 → C (B : Int) k = 0) (hf11 : C (B : Int) 11 = -1) (hW : ∀ t, C ((B + 1 : Nat) : Int) t = jMw 24 t) (hz : ∀ d, 2 ≤ d → d < 11 → ∀ k, C ((B + d : Nat) : Int) k = 0) : jN l y_12_init prog_14_method_5_code 2 q_12_init Z C B kM 12 f_12 := by
  refine jN_of (by decide) rfl (by decide) ?_
  intro p e s m args below meth c A h0 sz X hAe hr hlocks hi
  refine jg_sload_n (pc := 0) X d_12_init_0 0 rfl ?_
  refine jg_objInit (pc := 1) X kv_1472 d_12_init_1 ⟨Nat.le_of_ble_eq_true rfl, Nat.le_of_ble_eq_true rfl⟩ ?_
  refine jg_sload_n (pc := 4) X d_12_init_4 0 rfl ?_
  refine jg_sipush (pc := 5) X d_12_init_5 rfl ?_
  refine jg_newi (N := 8954) (pc := 8) X (by decide) d_12_init_8 ⟨Nat.le_of_ble_eq_true rfl, Nat.le_of_ble_eq_true rfl⟩ (fun q => ?_)
  refine jg_putF (pc := 10) (ci := 12) X hi 0 1 rfl rfl jin12 jty12 jnm12 (by decide) rfl rfl rfl rfl rfl rfl (Nat.le_of_ble_eq_true rfl) kv_1474 d_12_init_10 ?_
  obtain ⟨ad0, hB, hq⟩ : ∃ ad : Nat → Nat, ad B = h0 ∧ ad (B + 1) = q := ⟨fun i => if i = B then h0 else q, by simp, by simp⟩
  refine jg_ws (ws' := (fun ad : Nat → Nat => [(h0, .inr (12, [jI 0, .ref q, .null, .null, jI 0, .null, jI 0, jI 0, jI 0, jI 0, jI 0, jI 0, .null, .null, .null, .null, jI 0, .null, .null])), (q, jarr Z 8954 (jMw 0))]) ad0 ++ jSg Z ad0 C (B + 2) []) (by rw [jMw_0]; rfl) ?_
  refine jg_sload_n (pc := 13) X d_12_init_13 0 rfl ?_
  refine jg_sipush (pc := 14) X d_12_init_14 rfl ?_
  refine jg_pushi (N := 8954) (P := fun ad : Nat → Nat => [(h0, .inr (12, [jI 0, .ref q, .null, .null, jI 0, .null, jI 0, jI 0, jI 0, jI 0, jI 0, jI 0, .null, .null, .null, .null, jI 0, .null, .null])), (q, jarr Z 8954 (jMw 0))]) (ad := ad0) (b := B + 2) (L := []) (j := B + 2) (pc := 17) X rfl (by decide) d_12_init_17 ⟨Nat.le_of_ble_eq_true rfl, Nat.le_of_ble_eq_true rfl⟩ (fun _ _ _ => rfl) rfl (fun ad' h => rfl) trivial (hz 2 (by omega) (by omega)) (fun ad1 h1 => ?_)
  replace hB := (h1 B (by omega)).trans hB
  replace hq := (h1 (B + 1) (by omega)).trans hq
  refine jg_putF (pc := 19) (ci := 12) X hi 0 2 rfl rfl jin12 jty12 jnm12 (by decide) rfl rfl rfl rfl rfl rfl (Nat.le_of_ble_eq_true rfl) kv_1475 d_12_init_19 ?_
  refine jg_ws (ws' := (fun ad : Nat → Nat => [(h0, .inr (12, [jI 0, .ref q, .ref (ad (B + 2)), .null, jI 0, .null, jI 0, jI 0, jI 0, jI 0, jI 0, jI 0, .null, .null, .null, .null, jI 0, .null, .null])), (q, jarr Z 8954 (jMw 0))]) ad1 ++ jSg Z ad1 C (B + 2) ([9954])) rfl ?_
  refine jg_sload_n (pc := 22) X d_12_init_22 0 rfl ?_
  refine jg_sipush (pc := 23) X d_12_init_23 rfl ?_
  refine jg_pushi (N := 8954) (P := fun ad : Nat → Nat => [(h0, .inr (12, [jI 0, .ref q, .ref (ad (B + 2)), .null, jI 0, .null, jI 0, jI 0, jI 0, jI 0, jI 0, jI 0, .null, .null, .null, .null, jI 0, .null, .null])), (q, jarr Z 8954 (jMw 0))]) (ad := ad1) (b := B + 2) (L := [9954]) (j := B + 3) (pc := 26) X rfl (by decide) d_12_init_26 ⟨Nat.le_of_ble_eq_true rfl, Nat.le_of_ble_eq_true rfl⟩ (fun _ _ _ => rfl) rfl (fun ad' h => by simp only [h (B + 2) (by omega)]) (jClo_of (by decide +kernel)) (hz 3 (by omega) (by omega)) (fun ad2 h2 => ?_)
  replace hB := (h2 B (by omega)).trans hB
  replace hq := (h2 (B + 1) (by omega)).trans hq
  refine jg_putF (pc := 28) (ci := 12) X hi 0 3 rfl rfl jin12 jty12 jnm12 (by decide) rfl rfl rfl rfl rfl rfl (Nat.le_of_ble_eq_true rfl) kv_1476 d_12_init_28 ?_
  refine jg_ws (ws' := (fun ad : Nat → Nat => [(h0, .inr (12, [jI 0, .ref q, .ref (ad (B + 2)), .ref (ad (B + 3)), jI 0, .null, jI 0, jI 0, jI 0, jI 0, jI 0, jI 0, .null, .null, .null, .null, jI 0, .null, .null])), (q, jarr Z 8954 (jMw 0))]) ad2 ++ jSg Z ad2 C (B + 2) ([9954] ++ [9954])) rfl ?_
  refine jg_sload_n (pc := 31) X d_12_init_31 0 rfl ?_
  refine jg_sipush (pc := 32) X d_12_init_32 rfl ?_
  refine jg_pushb (P := fun ad : Nat → Nat => [(h0, .inr (12, [jI 0, .ref q, .ref (ad (B + 2)), .ref (ad (B + 3)), jI 0, .null, jI 0, jI 0, jI 0, jI 0, jI 0, jI 0, .null, .null, .null, .null, jI 0, .null, .null])), (q, jarr Z 8954 (jMw 0))]) (ad := ad2) (b := B + 2) (L := [9954] ++ [9954]) (j := B + 4) (pc := 35) X rfl d_12_init_35 ⟨Nat.le_of_ble_eq_true rfl, Nat.le_of_ble_eq_true rfl⟩ (fun ad' h => by simp only [h (B + 2) (by omega), h (B + 3) (by omega)]) (jClo_of (by decide +kernel)) (hz 4 (by omega) (by omega)) (fun ad3 h3 => ?_)
  replace hB := (h3 B (by omega)).trans hB
  replace hq := (h3 (B + 1) (by omega)).trans hq
  refine jg_putF (pc := 37) (ci := 12) X hi 0 5 rfl rfl jin12 jty12 jnm12 (by decide) rfl rfl rfl rfl rfl rfl (Nat.le_of_ble_eq_true rfl) kv_1478 d_12_init_37 ?_
  refine jg_ws (ws' := (fun ad : Nat → Nat => [(h0, .inr (12, [jI 0, .ref q, .ref (ad (B + 2)), .ref (ad (B + 3)), jI 0, .ref (ad (B + 4)), jI 0, jI 0, jI 0, jI 0, jI 0, jI 0, .null, .null, .null, .null, jI 0, .null, .null])), (q, jarr Z 8954 (jMw 0))]) ad3 ++ jSg Z ad3 C (B + 2) ([9954] ++ [9954] ++ [20])) rfl ?_
  refine jg_sload_n (pc := 40) X d_12_init_40 0 rfl ?_
  refine jg_iconst (pc := 41) X d_12_init_41 ?_
  refine jg_putP (pc := 42) (ci := 12) X 0 11 rfl rfl jin12 jty12 jnm12 (by decide) rfl rfl rfl rfl rfl (Nat.le_of_ble_eq_true rfl) kv_1484 d_12_init_42 ?_
  refine jg_ws (ws' := (fun ad : Nat → Nat => [(h0, .inr (12, [jI 0, .ref q, .ref (ad (B + 2)), .ref (ad (B + 3)), jI 0, .ref (ad (B + 4)), jI 0, jI 0, jI 0, jI 0, jI 0, jI (-1), .null, .null, .null, .null, jI 0, .null, .null])), (q, jarr Z 8954 (jMw 0))]) ad3 ++ jSg Z ad3 C (B + 2) ([9954] ++ [9954] ++ [20])) rfl ?_
  refine jg_sload_n (pc := 45) X d_12_init_45 0 rfl ?_
  refine jg_iconst (pc := 46) X d_12_init_46 ?_
  refine jg_pushi (N := 5) (P := fun ad : Nat → Nat => [(h0, .inr (12, [jI 0, .ref q, .ref (ad (B + 2)), .ref (ad (B + 3)), jI 0, .ref (ad (B + 4)), jI 0, jI 0, jI 0, jI 0, jI 0, jI (-1), .null, .null, .null, .null, jI 0, .null, .null])), (q, jarr Z 8954 (jMw 0))]) (ad := ad3) (b := B + 2) (L := [9954] ++ [9954] ++ [20]) (j := B + 5) (pc := 47) X rfl (by decide) d_12_init_47 ⟨Nat.le_of_ble_eq_true rfl, Nat.le_of_ble_eq_true rfl⟩ (fun _ _ _ => rfl) rfl (fun ad' h => by simp only [h (B + 2) (by omega), h (B + 3) (by omega), h (B + 4) (by omega)]) (jClo_of (by decide +kernel)) (hz 5 (by omega) (by omega)) (fun ad4 h4 => ?_)
  replace hB := (h4 B (by omega)).trans hB
  replace hq := (h4 (B + 1) (by omega)).trans hq
  refine jg_putF (pc := 49) (ci := 12) X hi 0 12 rfl rfl jin12 jty12 jnm12 (by decide) rfl rfl rfl rfl rfl rfl (Nat.le_of_ble_eq_true rfl) kv_1485 d_12_init_49 ?_
  refine jg_ws (ws' := (fun ad : Nat → Nat => [(h0, .inr (12, [jI 0, .ref q, .ref (ad (B + 2)), .ref (ad (B + 3)), jI 0, .ref (ad (B + 4)), jI 0, jI 0, jI 0, jI 0, jI 0, jI (-1), .ref (ad (B + 5)), .null, .null, .null, jI 0, .null, .null])), (q, jarr Z 8954 (jMw 0))]) ad4 ++ jSg Z ad4 C (B + 2) ([9954] ++ [9954] ++ [20] ++ [1005])) rfl ?_
  refine jg_sload_n (pc := 52) X d_12_init_52 0 rfl ?_
  refine jg_bipush (pc := 53) X d_12_init_53 rfl ?_
  refine jg_pushi (N := 25) (P := fun ad : Nat → Nat => [(h0, .inr (12, [jI 0, .ref q, .ref (ad (B + 2)), .ref (ad (B + 3)), jI 0, .ref (ad (B + 4)), jI 0, jI 0, jI 0, jI 0, jI 0, jI (-1), .ref (ad (B + 5)), .null, .null, .null, jI 0, .null, .null])), (q, jarr Z 8954 (jMw 0))]) (ad := ad4) (b := B + 2) (L := [9954] ++ [9954] ++ [20] ++ [1005]) (j := B + 6) (pc := 55) X rfl (by decide) d_12_init_55 ⟨Nat.le_of_ble_eq_true rfl, Nat.le_of_ble_eq_true rfl⟩ (fun _ _ _ => rfl) rfl (fun ad' h => by simp only [h (B + 2) (by omega), h (B + 3) (by omega), h (B + 4) (by omega), h (B + 5) (by omega)]) (jClo_of (by decide +kernel)) (hz 6 (by omega) (by omega)) (fun ad5 h5 => ?_)
  replace hB := (h5 B (by omega)).trans hB
  replace hq := (h5 (B + 1) (by omega)).trans hq
  refine jg_putF (pc := 57) (ci := 12) X hi 0 13 rfl rfl jin12 jty12 jnm12 (by decide) rfl rfl rfl rfl rfl rfl (Nat.le_of_ble_eq_true rfl) kv_1486 d_12_init_57 ?_
  refine jg_ws (ws' := (fun ad : Nat → Nat => [(h0, .inr (12, [jI 0, .ref q, .ref (ad (B + 2)), .ref (ad (B + 3)), jI 0, .ref (ad (B + 4)), jI 0, jI 0, jI 0, jI 0, jI 0, jI (-1), .ref (ad (B + 5)), .ref (ad (B + 6)), .null, .null, jI 0, .null, .null])), (q, jarr Z 8954 (jMw 0))]) ad5 ++ jSg Z ad5 C (B + 2) ([9954] ++ [9954] ++ [20] ++ [1005] ++ [1025])) rfl ?_
  refine jg_sload_n (pc := 60) X d_12_init_60 0 rfl ?_
  refine jg_sipush (pc := 61) X d_12_init_61 rfl ?_
  refine jg_pushi (N := 241) (P := fun ad : Nat → Nat => [(h0, .inr (12, [jI 0, .ref q, .ref (ad (B + 2)), .ref (ad (B + 3)), jI 0, .ref (ad (B + 4)), jI 0, jI 0, jI 0, jI 0, jI 0, jI (-1), .ref (ad (B + 5)), .ref (ad (B + 6)), .null, .null, jI 0, .null, .null])), (q, jarr Z 8954 (jMw 0))]) (ad := ad5) (b := B + 2) (L := [9954] ++ [9954] ++ [20] ++ [1005] ++ [1025]) (j := B + 7) (pc := 64) X rfl (by decide) d_12_init_64 ⟨Nat.le_of_ble_eq_true rfl, Nat.le_of_ble_eq_true rfl⟩ (fun _ _ _ => rfl) rfl (fun ad' h => by simp only [h (B + 2) (by omega), h (B + 3) (by omega), h (B + 4) (by omega), h (B + 5) (by omega), h (B + 6) (by omega)]) (jClo_of (by decide +kernel)) (hz 7 (by omega) (by omega)) (fun ad6 h6 => ?_)
  replace hB := (h6 B (by omega)).trans hB
  replace hq := (h6 (B + 1) (by omega)).trans hq
  refine jg_putF (pc := 66) (ci := 12) X hi 0 14 rfl rfl jin12 jty12 jnm12 (by decide) rfl rfl rfl rfl rfl rfl (Nat.le_of_ble_eq_true rfl) kv_1487 d_12_init_66 ?_
  refine jg_ws (ws' := (fun ad : Nat → Nat => [(h0, .inr (12, [jI 0, .ref q, .ref (ad (B + 2)), .ref (ad (B + 3)), jI 0, .ref (ad (B + 4)), jI 0, jI 0, jI 0, jI 0, jI 0, jI (-1), .ref (ad (B + 5)), .ref (ad (B + 6)), .ref (ad (B + 7)), .null, jI 0, .null, .null])), (q, jarr Z 8954 (jMw 0))]) ad6 ++ jSg Z ad6 C (B + 2) ([9954] ++ [9954] ++ [20] ++ [1005] ++ [1025] ++ [1241])) rfl ?_
  refine jg_sload_n (pc := 69) X d_12_init_69 0 rfl ?_
  refine jg_bipush (pc := 70) X d_12_init_70 rfl ?_
  refine jg_pushi (N := 72) (P := fun ad : Nat → Nat => [(h0, .inr (12, [jI 0, .ref q, .ref (ad (B + 2)), .ref (ad (B + 3)), jI 0, .ref (ad (B + 4)), jI 0, jI 0, jI 0, jI 0, jI 0, jI (-1), .ref (ad (B + 5)), .ref (ad (B + 6)), .ref (ad (B + 7)), .null, jI 0, .null, .null])), (q, jarr Z 8954 (jMw 0))]) (ad := ad6) (b := B + 2) (L := [9954] ++ [9954] ++ [20] ++ [1005] ++ [1025] ++ [1241]) (j := B + 8) (pc := 72) X rfl (by decide) d_12_init_72 ⟨Nat.le_of_ble_eq_true rfl, Nat.le_of_ble_eq_true rfl⟩ (fun _ _ _ => rfl) rfl (fun ad' h => by simp only [h (B + 2) (by omega), h (B + 3) (by omega), h (B + 4) (by omega), h (B + 5) (by omega), h (B + 6) (by omega), h (B + 7) (by omega)]) (jClo_of (by decide +kernel)) (hz 8 (by omega) (by omega)) (fun ad7 h7 => ?_)
  replace hB := (h7 B (by omega)).trans hB
  replace hq := (h7 (B + 1) (by omega)).trans hq
  refine jg_putF (pc := 74) (ci := 12) X hi 0 15 rfl rfl jin12 jty12 jnm12 (by decide) rfl rfl rfl rfl rfl rfl (Nat.le_of_ble_eq_true rfl) kv_1488 d_12_init_74 ?_
  refine jg_ws (ws' := (fun ad : Nat → Nat => [(h0, .inr (12, [jI 0, .ref q, .ref (ad (B + 2)), .ref (ad (B + 3)), jI 0, .ref (ad (B + 4)), jI 0, jI 0, jI 0, jI 0, jI 0, jI (-1), .ref (ad (B + 5)), .ref (ad (B + 6)), .ref (ad (B + 7)), .ref (ad (B + 8)), jI 0, .null, .null])), (q, jarr Z 8954 (jMw 0))]) ad7 ++ jSg Z ad7 C (B + 2) ([9954] ++ [9954] ++ [20] ++ [1005] ++ [1025] ++ [1241] ++ [1072])) rfl ?_
  refine jg_sload_n (pc := 77) X d_12_init_77 0 rfl ?_
  refine jg_bipush (pc := 78) X d_12_init_78 rfl ?_
  refine jg_pushi (N := 24) (P := fun ad : Nat → Nat => [(h0, .inr (12, [jI 0, .ref q, .ref (ad (B + 2)), .ref (ad (B + 3)), jI 0, .ref (ad (B + 4)), jI 0, jI 0, jI 0, jI 0, jI 0, jI (-1), .ref (ad (B + 5)), .ref (ad (B + 6)), .ref (ad (B + 7)), .ref (ad (B + 8)), jI 0, .null, .null])), (q, jarr Z 8954 (jMw 0))]) (ad := ad7) (b := B + 2) (L := [9954] ++ [9954] ++ [20] ++ [1005] ++ [1025] ++ [1241] ++ [1072]) (j := B + 9) (pc := 80) X rfl (by decide) d_12_init_80 ⟨Nat.le_of_ble_eq_true rfl, Nat.le_of_ble_eq_true rfl⟩ (fun _ _ _ => rfl) rfl (fun ad' h => by simp only [h (B + 2) (by omega), h (B + 3) (by omega), h (B + 4) (by omega), h (B + 5) (by omega), h (B + 6) (by omega), h (B + 7) (by omega), h (B + 8) (by omega)]) (jClo_of (by decide +kernel)) (hz 9 (by omega) (by omega)) (fun ad8 h8 => ?_)
  replace hB := (h8 B (by omega)).trans hB
  replace hq := (h8 (B + 1) (by omega)).trans hq
  refine jg_putF (pc := 82) (ci := 12) X hi 0 17 rfl rfl jin12 jty12 jnm12 (by decide) rfl rfl rfl rfl rfl rfl (Nat.le_of_ble_eq_true rfl) kv_1490 d_12_init_82 ?_
  refine jg_ws (ws' := (fun ad : Nat → Nat => [(h0, .inr (12, [jI 0, .ref q, .ref (ad (B + 2)), .ref (ad (B + 3)), jI 0, .ref (ad (B + 4)), jI 0, jI 0, jI 0, jI 0, jI 0, jI (-1), .ref (ad (B + 5)), .ref (ad (B + 6)), .ref (ad (B + 7)), .ref (ad (B + 8)), jI 0, .ref (ad (B + 9)), .null])), (q, jarr Z 8954 (jMw 0))]) ad8 ++ jSg Z ad8 C (B + 2) ([9954] ++ [9954] ++ [20] ++ [1005] ++ [1025] ++ [1241] ++ [1072] ++ [1024])) rfl ?_
  refine jg_sload_n (pc := 85) X d_12_init_85 0 rfl ?_
  refine jg_iconst (pc := 86) X d_12_init_86 ?_
  refine jg_pushi (N := 2) (P := fun ad : Nat → Nat => [(h0, .inr (12, [jI 0, .ref q, .ref (ad (B + 2)), .ref (ad (B + 3)), jI 0, .ref (ad (B + 4)), jI 0, jI 0, jI 0, jI 0, jI 0, jI (-1), .ref (ad (B + 5)), .ref (ad (B + 6)), .ref (ad (B + 7)), .ref (ad (B + 8)), jI 0, .ref (ad (B + 9)), .null])), (q, jarr Z 8954 (jMw 0))]) (ad := ad8) (b := B + 2) (L := [9954] ++ [9954] ++ [20] ++ [1005] ++ [1025] ++ [1241] ++ [1072] ++ [1024]) (j := B + 10) (pc := 87) X rfl (by decide) d_12_init_87 ⟨Nat.le_of_ble_eq_true rfl, Nat.le_of_ble_eq_true rfl⟩ (fun _ _ _ => rfl) rfl (fun ad' h => by simp only [h (B + 2) (by omega), h (B + 3) (by omega), h (B + 4) (by omega), h (B + 5) (by omega), h (B + 6) (by omega), h (B + 7) (by omega), h (B + 8) (by omega), h (B + 9) (by omega)]) (jClo_of (by decide +kernel)) (hz 10 (by omega) (by omega)) (fun ad9 h9 => ?_)
  replace hB := (h9 B (by omega)).trans hB
  replace hq := (h9 (B + 1) (by omega)).trans hq
  refine jg_putF (pc := 89) (ci := 12) X hi 0 18 rfl rfl jin12 jty12 jnm12 (by decide) rfl rfl rfl rfl rfl rfl (Nat.le_of_ble_eq_true rfl) kv_1491 d_12_init_89 ?_
  refine jg_ws (ws' := (fun ad : Nat → Nat => [(h0, .inr (12, [jI 0, .ref q, .ref (ad (B + 2)), .ref (ad (B + 3)), jI 0, .ref (ad (B + 4)), jI 0, jI 0, jI 0, jI 0, jI 0, jI (-1), .ref (ad (B + 5)), .ref (ad (B + 6)), .ref (ad (B + 7)), .ref (ad (B + 8)), jI 0, .ref (ad (B + 9)), .ref (ad (B + 10))])), (q, jarr Z 8954 (jMw 0))]) ad9 ++ jSg Z ad9 C (B + 2) ([9954] ++ [9954] ++ [20] ++ [1005] ++ [1025] ++ [1241] ++ [1072] ++ [1024] ++ [1002])) rfl ?_
  refine jg_iconst (pc := 92) X d_12_init_92 ?_
  refine jg_istore_n (pc := 93) X [(1, jI 0), (0, .ref h0)] d_12_init_93 (by decide) rfl ?_
  have loop : ∀ (n k : Nat), k + n = 24 → jG p l e q_12_init s m args below meth c 2 Z A ([(h0, .inr (12, [jI 0, .ref q, .ref (ad9 (B + 2)), .ref (ad9 (B + 3)), jI 0, .ref (ad9 (B + 4)), jI 0, jI 0, jI 0, jI 0, jI 0, jI (-1), .ref (ad9 (B + 5)), .ref (ad9 (B + 6)), .ref (ad9 (B + 7)), .ref (ad9 (B + 8)), jI 0, .ref (ad9 (B + 9)), .ref (ad9 (B + 10))])), (q, jarr Z 8954 (jMw k))] ++ jSg Z ad9 C (B + 2) ([9954] ++ [9954] ++ [20] ++ [1005] ++ [1025] ++ [1241] ++ [1072] ++ [1024] ++ [1002])) q_12_init.cells q_12_init.slots (MQ below (va_Qv (fun ad : Nat → Nat => ad B = h0) (fun ad t => va_P Z.1 jcl (jSg Z ad C B kM) t.heap ∧ va_D (va_A [(h0, .inr (12, f_12))] sz) (jSg Z ad C B kM)) (va_A [(h0, .inr (12, f_12))] sz)) args s q_12_init.cells q_12_init.slots (va_A [(h0, .inr (12, f_12))] sz)) 94 [(1, jI k), (0, .ref h0)] [] := by
    intro n
    induction n with
    | zero =>
      intro k hk
      have ek : k = 24 := by omega
      subst ek
      refine jg_iload_n (pc := 94) X d_12_init_94 0 rfl ?_
      refine jg_bipush (pc := 95) X d_12_init_95 rfl ?_
      refine jg_icmp_ge (T := True) (F := False) (tgt := 119) (pc := 97) X d_12_init_97 rfl ⟨by decide, by decide⟩ ⟨by decide, by decide⟩ (by rw [if_pos (by decide)]; trivial) (fun _ _ => ?_) (fun _ h => h.elim)
      refine jg_nret (pc := 119) (ad := ad9) X hAe hr hlocks d_12_init_119 ⟨Nat.le_refl _, Nat.le_refl _⟩ hB ?_
      show (h0, _) :: (q, _) :: jSg Z ad9 C (B + 2) _ = (ad9 B, jcell (jZa Z ad9) 12 (B : Int) (C (B : Int))) :: (ad9 (B + 1), jarr Z 8954 (C ((B + 1 : Nat) : Int))) :: jSg Z ad9 C (B + 2) _
      have hW2 : C ((B + 1 : Nat) : Int) = jMw 24 := funext hW
      rw [hB, hq, hW2]
      simp only [jcell]
      rw [jrn 1 1 rfl, jrn 2 2 rfl, jrn 3 3 rfl, jrn 4 4 rfl, jrn 5 5 rfl, jrn 6 6 rfl, jrn 7 7 rfl, jrn 8 8 rfl, jrn 9 9 rfl, jrn 10 10 rfl, hq, hf 0 (by decide), hf 4 (by decide), hf 6 (by decide), hf 7 (by decide), hf 8 (by decide), hf 9 (by decide), hf 10 (by decide), hf11, hf 16 (by decide)]
      rfl
    | succ n ih =>
      intro k hk
      refine jg_iload_n (pc := 94) X d_12_init_94 0 rfl ?_
      refine jg_bipush (pc := 95) X d_12_init_95 rfl ?_
      refine jg_icmp_ge (T := False) (F := True) (tgt := 119) (pc := 97) X d_12_init_97 rfl ⟨by omega, by omega⟩ ⟨by decide, by decide⟩ (by rw [if_neg (by omega)]; trivial) (fun _ h => h.elim) (fun _ _ => ?_)
      refine jg_sload_n (pc := 100) X d_12_init_100 1 rfl ?_
      refine jg_getP (pc := 101) (ci := 12) X 0 1 rfl rfl jin12 (by decide) rfl rfl kv_1474 d_12_init_101 ?_
      refine jg_bipush (pc := 104) X d_12_init_104 rfl ?_
      refine jg_bipush (pc := 106) X d_12_init_106 rfl ?_
      refine jg_iload_n (pc := 108) X d_12_init_108 0 rfl ?_
      refine jg_imul (pc := 109) X d_12_init_109 ?_
      refine jg_iadd (pc := 110) X d_12_init_110 ?_
      refine jg_iconst (pc := 111) X d_12_init_111 ?_
      refine jg_iastP (pc := 112) (N := 8954) X 1 rfl (by omega) (by omega) (by decide) d_12_init_112 ?_
      refine jg_iinc (pc := 113) X [(1, jI ((k : Int) + 1)), (0, .ref h0)] d_12_init_113 0 rfl (by decide) rfl ?_
      refine jg_goto (tgt := 94) (pc := 116) X d_12_init_116 rfl ?_
      have e : jarr Z 8954 (jMw ((k + 1 : Nat) : Int)) = .inl (Z.2.1 0, 8954, .inl (upd (fun j => Int32.ofInt (jMw (k : Int) j)) (9 + 11 * (k : Int)).toNat (Int32.ofInt (-1)))) := by
        have h1 := ji_upd (Z := Z) (a := 0) (i := 9 + 11 * (k : Int)) (x := -1) (len := 8954) (C := fun _ => jMw k) (by omega)
        rw [show ((k + 1 : Nat) : Int) = (k : Int) + 1 by omega, jMw_s (by omega)]
        exact h1
      have := ih (k + 1) (by omega)
      rw [e] at this
      exact this
  exact loop 24 0 rfl

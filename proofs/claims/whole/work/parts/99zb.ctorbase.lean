-- the constructors
abbrev kE : List Nat := [0, 1060, 1060, 1060, 1060]
abbrev kF : List Nat := [1, 1006, 1006, 1006, 1006]
abbrev kLe : List Nat := [2, 21, 1003] ++ jRep kF 5
abbrev kLo : List Nat := [3, 1200]
abbrev kR : List Nat := [6, 1024]
abbrev kSh : List Nat := [7, 1005, 1024, 1120, 1120] ++ kR
theorem kl_30 : (kLe ++ kR).length = 30 := by decide
theorem kl_7 : kSh.length = 7 := by decide
abbrev kV : List Nat := [10] ++ (kLe ++ kR) ++ [22] ++ jRep kE 8
abbrev kSt : List Nat := [8] ++ kSh ++ [23] ++ ((kLo ++ kE) ++ jRep kV 4)
abbrev kT : List Nat := [9, 1005, 1014, 1070] ++ kLe
abbrev kRe : List Nat := [5, 1400]
abbrev kQ : List Nat := [4] ++ kR ++ [1024, 1024, 1024]
abbrev kP : List Nat := [11] ++ (((kRe ++ kT) ++ kSt) ++ kQ)
abbrev kM : List Nat := [12, 9954, 9954, 9954, 20, 1005, 1025, 1241, 1072, 1024, 1002]
def y_0_init : MethodName := ⟨"PrivateViews$Edit", "<init>", "()V"⟩
def q_0_init : Room := { frames := 1, cells := 4, slots := 240, locals := 12 }
def y_1_init : MethodName := ⟨"PrivateViews$Filter", "<init>", "()V"⟩
def q_1_init : Room := { frames := 1, cells := 4, slots := 24, locals := 12 }
def y_2_init : MethodName := ⟨"PrivateViews$Lens", "<init>", "()V"⟩
def q_2_init : Room := { frames := 2, cells := 27, slots := 153, locals := 32 }
def y_3_init : MethodName := ⟨"PrivateViews$Log", "<init>", "()V"⟩
def q_3_init : Room := { frames := 1, cells := 1, slots := 200, locals := 12 }
def y_4_init : MethodName := ⟨"PrivateViews$Questions", "<init>", "()V"⟩
def q_4_init : Room := { frames := 2, cells := 5, slots := 98, locals := 32 }
def y_5_init : MethodName := ⟨"PrivateViews$Reader", "<init>", "()V"⟩
def q_5_init : Room := { frames := 1, cells := 1, slots := 400, locals := 12 }
def y_6_init : MethodName := ⟨"PrivateViews$RowList", "<init>", "()V"⟩
def q_6_init : Room := { frames := 1, cells := 1, slots := 24, locals := 12 }
def y_7_init : MethodName := ⟨"PrivateViews$Sheet", "<init>", "()V"⟩
def q_7_init : Room := { frames := 2, cells := 6, slots := 295, locals := 32 }
def y_8_init : MethodName := ⟨"PrivateViews$State", "<init>", "()V"⟩
def q_8_init : Room := { frames := 4, cells := 303, slots := 9375, locals := 74 }
def y_9_init : MethodName := ⟨"PrivateViews$Texts", "<init>", "()V"⟩
def q_9_init : Room := { frames := 3, cells := 31, slots := 246, locals := 53 }
def y_10_init : MethodName := ⟨"PrivateViews$View", "<init>", "()V"⟩
def q_10_init : Room := { frames := 3, cells := 71, slots := 2151, locals := 53 }
def y_11_init : MethodName := ⟨"PrivateViews", "<init>", "()V"⟩
def q_11_init : Room := { frames := 5, cells := 344, slots := 10143, locals := 95 }
def y_12_init : MethodName := ⟨"PrivateViewsModel", "<init>", "()V"⟩
def q_12_init : Room := { frames := 1, cells := 10, slots := 27631, locals := 12 }
abbrev f_0 : List Value := [jI 0, .null, .null, .null, .null]
theorem nd_0 : ∀ j, j < 5 → defaultValue (jt0 j) = vp_V f_0 j := by
  intro j hj
  match j, hj with
  | 0, _ => rfl
  | 1, _ => rfl
  | 2, _ => rfl
  | 3, _ => rfl
  | 4, _ => rfl
  | n + 5, h => exact absurd h (by omega)
theorem d_0_init_0 : decode prog_2_method_1_code 0 = .ok (.aload_n 0, 1) := by decide +kernel
theorem d_0_init_1 : decode prog_2_method_1_code 1 = .ok (.invokespecial 3, 3) := by decide +kernel
theorem d_0_init_4 : decode prog_2_method_1_code 4 = .ok (.aload_n 0, 1) := by decide +kernel
theorem d_0_init_5 : decode prog_2_method_1_code 5 = .ok (.bipush 60, 2) := by decide +kernel
theorem d_0_init_7 : decode prog_2_method_1_code 7 = .ok (.newarray .int, 2) := by decide +kernel
theorem d_0_init_9 : decode prog_2_method_1_code 9 = .ok (.putfield 9, 3) := by decide +kernel
theorem d_0_init_12 : decode prog_2_method_1_code 12 = .ok (.aload_n 0, 1) := by decide +kernel
theorem d_0_init_13 : decode prog_2_method_1_code 13 = .ok (.bipush 60, 2) := by decide +kernel
theorem d_0_init_15 : decode prog_2_method_1_code 15 = .ok (.newarray .int, 2) := by decide +kernel
theorem d_0_init_17 : decode prog_2_method_1_code 17 = .ok (.putfield 15, 3) := by decide +kernel
theorem d_0_init_20 : decode prog_2_method_1_code 20 = .ok (.aload_n 0, 1) := by decide +kernel
theorem d_0_init_21 : decode prog_2_method_1_code 21 = .ok (.bipush 60, 2) := by decide +kernel
theorem d_0_init_23 : decode prog_2_method_1_code 23 = .ok (.newarray .int, 2) := by decide +kernel
theorem d_0_init_25 : decode prog_2_method_1_code 25 = .ok (.putfield 18, 3) := by decide +kernel
theorem d_0_init_28 : decode prog_2_method_1_code 28 = .ok (.aload_n 0, 1) := by decide +kernel
theorem d_0_init_29 : decode prog_2_method_1_code 29 = .ok (.bipush 60, 2) := by decide +kernel
theorem d_0_init_31 : decode prog_2_method_1_code 31 = .ok (.newarray .int, 2) := by decide +kernel
theorem d_0_init_33 : decode prog_2_method_1_code 33 = .ok (.putfield 21, 3) := by decide +kernel
theorem d_0_init_36 : decode prog_2_method_1_code 36 = .ok (.return_, 1) := by decide +kernel
abbrev f_1 : List Value := [jI 0, .null, .null, .null, .null]
theorem nd_1 : ∀ j, j < 5 → defaultValue (jt1 j) = vp_V f_1 j := by
  intro j hj
  match j, hj with
  | 0, _ => rfl
  | 1, _ => rfl
  | 2, _ => rfl
  | 3, _ => rfl
  | 4, _ => rfl
  | n + 5, h => exact absurd h (by omega)
theorem d_1_init_0 : decode prog_3_method_1_code 0 = .ok (.aload_n 0, 1) := by decide +kernel
theorem d_1_init_1 : decode prog_3_method_1_code 1 = .ok (.invokespecial 3, 3) := by decide +kernel
theorem d_1_init_4 : decode prog_3_method_1_code 4 = .ok (.aload_n 0, 1) := by decide +kernel
theorem d_1_init_5 : decode prog_3_method_1_code 5 = .ok (.bipush 6, 2) := by decide +kernel
theorem d_1_init_7 : decode prog_3_method_1_code 7 = .ok (.newarray .int, 2) := by decide +kernel
theorem d_1_init_9 : decode prog_3_method_1_code 9 = .ok (.putfield 9, 3) := by decide +kernel
theorem d_1_init_12 : decode prog_3_method_1_code 12 = .ok (.aload_n 0, 1) := by decide +kernel
theorem d_1_init_13 : decode prog_3_method_1_code 13 = .ok (.bipush 6, 2) := by decide +kernel
theorem d_1_init_15 : decode prog_3_method_1_code 15 = .ok (.newarray .int, 2) := by decide +kernel
theorem d_1_init_17 : decode prog_3_method_1_code 17 = .ok (.putfield 15, 3) := by decide +kernel
theorem d_1_init_20 : decode prog_3_method_1_code 20 = .ok (.aload_n 0, 1) := by decide +kernel
theorem d_1_init_21 : decode prog_3_method_1_code 21 = .ok (.bipush 6, 2) := by decide +kernel
theorem d_1_init_23 : decode prog_3_method_1_code 23 = .ok (.newarray .int, 2) := by decide +kernel
theorem d_1_init_25 : decode prog_3_method_1_code 25 = .ok (.putfield 18, 3) := by decide +kernel
theorem d_1_init_28 : decode prog_3_method_1_code 28 = .ok (.aload_n 0, 1) := by decide +kernel
theorem d_1_init_29 : decode prog_3_method_1_code 29 = .ok (.bipush 6, 2) := by decide +kernel
theorem d_1_init_31 : decode prog_3_method_1_code 31 = .ok (.newarray .int, 2) := by decide +kernel
theorem d_1_init_33 : decode prog_3_method_1_code 33 = .ok (.putfield 21, 3) := by decide +kernel
theorem d_1_init_36 : decode prog_3_method_1_code 36 = .ok (.return_, 1) := by decide +kernel
abbrev f_2 : List Value := [.null, .null, jI 0, jI 0]
theorem nd_2 : ∀ j, j < 4 → defaultValue (jt2 j) = vp_V f_2 j := by
  intro j hj
  match j, hj with
  | 0, _ => rfl
  | 1, _ => rfl
  | 2, _ => rfl
  | 3, _ => rfl
  | n + 4, h => exact absurd h (by omega)
theorem d_2_init_0 : decode prog_4_method_1_code 0 = .ok (.aload_n 0, 1) := by decide +kernel
theorem d_2_init_1 : decode prog_4_method_1_code 1 = .ok (.invokespecial 3, 3) := by decide +kernel
theorem d_2_init_4 : decode prog_4_method_1_code 4 = .ok (.aload_n 0, 1) := by decide +kernel
theorem d_2_init_5 : decode prog_4_method_1_code 5 = .ok (.iconst 5, 1) := by decide +kernel
theorem d_2_init_6 : decode prog_4_method_1_code 6 = .ok (.anewarray 9, 3) := by decide +kernel
theorem d_2_init_9 : decode prog_4_method_1_code 9 = .ok (.putfield 11, 3) := by decide +kernel
theorem d_2_init_12 : decode prog_4_method_1_code 12 = .ok (.aload_n 0, 1) := by decide +kernel
theorem d_2_init_13 : decode prog_4_method_1_code 13 = .ok (.iconst 3, 1) := by decide +kernel
theorem d_2_init_14 : decode prog_4_method_1_code 14 = .ok (.newarray .int, 2) := by decide +kernel
theorem d_2_init_16 : decode prog_4_method_1_code 16 = .ok (.putfield 17, 3) := by decide +kernel
theorem d_2_init_19 : decode prog_4_method_1_code 19 = .ok (.iconst 0, 1) := by decide +kernel
theorem d_2_init_20 : decode prog_4_method_1_code 20 = .ok (.istore_n 1, 1) := by decide +kernel
theorem d_2_init_21 : decode prog_4_method_1_code 21 = .ok (.iload_n 1, 1) := by decide +kernel
theorem d_2_init_22 : decode prog_4_method_1_code 22 = .ok (.iconst 5, 1) := by decide +kernel
theorem d_2_init_23 : decode prog_4_method_1_code 23 = .ok (.if_icmp .ge 22, 3) := by decide +kernel
theorem d_2_init_26 : decode prog_4_method_1_code 26 = .ok (.aload_n 0, 1) := by decide +kernel
theorem d_2_init_27 : decode prog_4_method_1_code 27 = .ok (.getfield 11, 3) := by decide +kernel
theorem d_2_init_30 : decode prog_4_method_1_code 30 = .ok (.iload_n 1, 1) := by decide +kernel
theorem d_2_init_31 : decode prog_4_method_1_code 31 = .ok (.new 9, 3) := by decide +kernel
theorem d_2_init_34 : decode prog_4_method_1_code 34 = .ok (.dup, 1) := by decide +kernel
theorem d_2_init_35 : decode prog_4_method_1_code 35 = .ok (.invokespecial 21, 3) := by decide +kernel
theorem d_2_init_38 : decode prog_4_method_1_code 38 = .ok (.aastore, 1) := by decide +kernel
theorem d_2_init_39 : decode prog_4_method_1_code 39 = .ok (.iinc 1 1, 3) := by decide +kernel
theorem d_2_init_42 : decode prog_4_method_1_code 42 = .ok (.goto (-21), 3) := by decide +kernel
theorem d_2_init_45 : decode prog_4_method_1_code 45 = .ok (.return_, 1) := by decide +kernel
abbrev f_3 : List Value := [.null, jI 0, jI 0]
theorem nd_3 : ∀ j, j < 3 → defaultValue (jt3 j) = vp_V f_3 j := by
  intro j hj
  match j, hj with
  | 0, _ => rfl
  | 1, _ => rfl
  | 2, _ => rfl
  | n + 3, h => exact absurd h (by omega)
theorem d_3_init_0 : decode prog_5_method_1_code 0 = .ok (.aload_n 0, 1) := by decide +kernel
theorem d_3_init_1 : decode prog_5_method_1_code 1 = .ok (.invokespecial 3, 3) := by decide +kernel
theorem d_3_init_4 : decode prog_5_method_1_code 4 = .ok (.aload_n 0, 1) := by decide +kernel
theorem d_3_init_5 : decode prog_5_method_1_code 5 = .ok (.sipush 200, 3) := by decide +kernel
theorem d_3_init_8 : decode prog_5_method_1_code 8 = .ok (.newarray .int, 2) := by decide +kernel
theorem d_3_init_10 : decode prog_5_method_1_code 10 = .ok (.putfield 11, 3) := by decide +kernel
theorem d_3_init_13 : decode prog_5_method_1_code 13 = .ok (.return_, 1) := by decide +kernel
abbrev f_4 : List Value := [.null, .null, .null, .null, jI 0, jI 0, jI 0]
theorem nd_4 : ∀ j, j < 7 → defaultValue (jt4 j) = vp_V f_4 j := by
  intro j hj
  match j, hj with
  | 0, _ => rfl
  | 1, _ => rfl
  | 2, _ => rfl
  | 3, _ => rfl
  | 4, _ => rfl
  | 5, _ => rfl
  | 6, _ => rfl
  | n + 7, h => exact absurd h (by omega)
theorem d_4_init_0 : decode prog_6_method_1_code 0 = .ok (.aload_n 0, 1) := by decide +kernel
theorem d_4_init_1 : decode prog_6_method_1_code 1 = .ok (.invokespecial 3, 3) := by decide +kernel
theorem d_4_init_4 : decode prog_6_method_1_code 4 = .ok (.aload_n 0, 1) := by decide +kernel
theorem d_4_init_5 : decode prog_6_method_1_code 5 = .ok (.new 9, 3) := by decide +kernel
theorem d_4_init_8 : decode prog_6_method_1_code 8 = .ok (.dup, 1) := by decide +kernel
theorem d_4_init_9 : decode prog_6_method_1_code 9 = .ok (.invokespecial 11, 3) := by decide +kernel
theorem d_4_init_12 : decode prog_6_method_1_code 12 = .ok (.putfield 12, 3) := by decide +kernel
theorem d_4_init_15 : decode prog_6_method_1_code 15 = .ok (.aload_n 0, 1) := by decide +kernel
theorem d_4_init_16 : decode prog_6_method_1_code 16 = .ok (.bipush 24, 2) := by decide +kernel
theorem d_4_init_18 : decode prog_6_method_1_code 18 = .ok (.newarray .int, 2) := by decide +kernel
theorem d_4_init_20 : decode prog_6_method_1_code 20 = .ok (.putfield 18, 3) := by decide +kernel
theorem d_4_init_23 : decode prog_6_method_1_code 23 = .ok (.aload_n 0, 1) := by decide +kernel
theorem d_4_init_24 : decode prog_6_method_1_code 24 = .ok (.bipush 24, 2) := by decide +kernel
theorem d_4_init_26 : decode prog_6_method_1_code 26 = .ok (.newarray .int, 2) := by decide +kernel
theorem d_4_init_28 : decode prog_6_method_1_code 28 = .ok (.putfield 22, 3) := by decide +kernel
theorem d_4_init_31 : decode prog_6_method_1_code 31 = .ok (.aload_n 0, 1) := by decide +kernel
theorem d_4_init_32 : decode prog_6_method_1_code 32 = .ok (.bipush 24, 2) := by decide +kernel
theorem d_4_init_34 : decode prog_6_method_1_code 34 = .ok (.newarray .int, 2) := by decide +kernel
theorem d_4_init_36 : decode prog_6_method_1_code 36 = .ok (.putfield 25, 3) := by decide +kernel
theorem d_4_init_39 : decode prog_6_method_1_code 39 = .ok (.return_, 1) := by decide +kernel
abbrev f_5 : List Value := [.null, jI 0, jI 0, jI 0, jI 0, jI 0, jI 0]
theorem nd_5 : ∀ j, j < 7 → defaultValue (jt5 j) = vp_V f_5 j := by
  intro j hj
  match j, hj with
  | 0, _ => rfl
  | 1, _ => rfl
  | 2, _ => rfl
  | 3, _ => rfl
  | 4, _ => rfl
  | 5, _ => rfl
  | 6, _ => rfl
  | n + 7, h => exact absurd h (by omega)
theorem d_5_init_0 : decode prog_7_method_1_code 0 = .ok (.aload_n 0, 1) := by decide +kernel
theorem d_5_init_1 : decode prog_7_method_1_code 1 = .ok (.invokespecial 3, 3) := by decide +kernel
theorem d_5_init_4 : decode prog_7_method_1_code 4 = .ok (.aload_n 0, 1) := by decide +kernel
theorem d_5_init_5 : decode prog_7_method_1_code 5 = .ok (.sipush 400, 3) := by decide +kernel
theorem d_5_init_8 : decode prog_7_method_1_code 8 = .ok (.newarray .int, 2) := by decide +kernel
theorem d_5_init_10 : decode prog_7_method_1_code 10 = .ok (.putfield 9, 3) := by decide +kernel
theorem d_5_init_13 : decode prog_7_method_1_code 13 = .ok (.aload_n 0, 1) := by decide +kernel
theorem d_5_init_14 : decode prog_7_method_1_code 14 = .ok (.iconst (-1), 1) := by decide +kernel
theorem d_5_init_15 : decode prog_7_method_1_code 15 = .ok (.putfield 15, 3) := by decide +kernel
theorem d_5_init_18 : decode prog_7_method_1_code 18 = .ok (.return_, 1) := by decide +kernel
abbrev f_6 : List Value := [.null, jI 0]
theorem nd_6 : ∀ j, j < 2 → defaultValue (jt6 j) = vp_V f_6 j := by
  intro j hj
  match j, hj with
  | 0, _ => rfl
  | 1, _ => rfl
  | n + 2, h => exact absurd h (by omega)
theorem d_6_init_0 : decode prog_8_method_1_code 0 = .ok (.aload_n 0, 1) := by decide +kernel
theorem d_6_init_1 : decode prog_8_method_1_code 1 = .ok (.invokespecial 3, 3) := by decide +kernel
theorem d_6_init_4 : decode prog_8_method_1_code 4 = .ok (.aload_n 0, 1) := by decide +kernel
theorem d_6_init_5 : decode prog_8_method_1_code 5 = .ok (.bipush 24, 2) := by decide +kernel
theorem d_6_init_7 : decode prog_8_method_1_code 7 = .ok (.newarray .int, 2) := by decide +kernel
theorem d_6_init_9 : decode prog_8_method_1_code 9 = .ok (.putfield 9, 3) := by decide +kernel
theorem d_6_init_12 : decode prog_8_method_1_code 12 = .ok (.return_, 1) := by decide +kernel
abbrev f_7 : List Value := [jI 0, .null, .null, .null, .null, .null, jI 0, jI 0]
theorem nd_7 : ∀ j, j < 8 → defaultValue (jt7 j) = vp_V f_7 j := by
  intro j hj
  match j, hj with
  | 0, _ => rfl
  | 1, _ => rfl
  | 2, _ => rfl
  | 3, _ => rfl
  | 4, _ => rfl
  | 5, _ => rfl
  | 6, _ => rfl
  | 7, _ => rfl
  | n + 8, h => exact absurd h (by omega)
theorem d_7_init_0 : decode prog_9_method_1_code 0 = .ok (.aload_n 0, 1) := by decide +kernel
theorem d_7_init_1 : decode prog_9_method_1_code 1 = .ok (.invokespecial 3, 3) := by decide +kernel
theorem d_7_init_4 : decode prog_9_method_1_code 4 = .ok (.aload_n 0, 1) := by decide +kernel
theorem d_7_init_5 : decode prog_9_method_1_code 5 = .ok (.iconst 5, 1) := by decide +kernel
theorem d_7_init_6 : decode prog_9_method_1_code 6 = .ok (.newarray .int, 2) := by decide +kernel
theorem d_7_init_8 : decode prog_9_method_1_code 8 = .ok (.putfield 9, 3) := by decide +kernel
theorem d_7_init_11 : decode prog_9_method_1_code 11 = .ok (.aload_n 0, 1) := by decide +kernel
theorem d_7_init_12 : decode prog_9_method_1_code 12 = .ok (.bipush 24, 2) := by decide +kernel
theorem d_7_init_14 : decode prog_9_method_1_code 14 = .ok (.newarray .int, 2) := by decide +kernel
theorem d_7_init_16 : decode prog_9_method_1_code 16 = .ok (.putfield 15, 3) := by decide +kernel
theorem d_7_init_19 : decode prog_9_method_1_code 19 = .ok (.aload_n 0, 1) := by decide +kernel
theorem d_7_init_20 : decode prog_9_method_1_code 20 = .ok (.bipush 120, 2) := by decide +kernel
theorem d_7_init_22 : decode prog_9_method_1_code 22 = .ok (.newarray .int, 2) := by decide +kernel
theorem d_7_init_24 : decode prog_9_method_1_code 24 = .ok (.putfield 18, 3) := by decide +kernel
theorem d_7_init_27 : decode prog_9_method_1_code 27 = .ok (.aload_n 0, 1) := by decide +kernel
theorem d_7_init_28 : decode prog_9_method_1_code 28 = .ok (.bipush 120, 2) := by decide +kernel
theorem d_7_init_30 : decode prog_9_method_1_code 30 = .ok (.newarray .int, 2) := by decide +kernel
theorem d_7_init_32 : decode prog_9_method_1_code 32 = .ok (.putfield 21, 3) := by decide +kernel
theorem d_7_init_35 : decode prog_9_method_1_code 35 = .ok (.aload_n 0, 1) := by decide +kernel
theorem d_7_init_36 : decode prog_9_method_1_code 36 = .ok (.new 24, 3) := by decide +kernel
theorem d_7_init_39 : decode prog_9_method_1_code 39 = .ok (.dup, 1) := by decide +kernel
theorem d_7_init_40 : decode prog_9_method_1_code 40 = .ok (.invokespecial 26, 3) := by decide +kernel
theorem d_7_init_43 : decode prog_9_method_1_code 43 = .ok (.putfield 27, 3) := by decide +kernel
theorem d_7_init_46 : decode prog_9_method_1_code 46 = .ok (.return_, 1) := by decide +kernel
abbrev f_8 : List Value := [.null, .null, .null, .null]
theorem nd_8 : ∀ j, j < 4 → defaultValue (jt8 j) = vp_V f_8 j := by
  intro j hj
  match j, hj with
  | 0, _ => rfl
  | 1, _ => rfl
  | 2, _ => rfl
  | 3, _ => rfl
  | n + 4, h => exact absurd h (by omega)
theorem d_8_init_0 : decode prog_10_method_1_code 0 = .ok (.aload_n 0, 1) := by decide +kernel
theorem d_8_init_1 : decode prog_10_method_1_code 1 = .ok (.invokespecial 3, 3) := by decide +kernel
theorem d_8_init_4 : decode prog_10_method_1_code 4 = .ok (.aload_n 0, 1) := by decide +kernel
theorem d_8_init_5 : decode prog_10_method_1_code 5 = .ok (.new 9, 3) := by decide +kernel
theorem d_8_init_8 : decode prog_10_method_1_code 8 = .ok (.dup, 1) := by decide +kernel
theorem d_8_init_9 : decode prog_10_method_1_code 9 = .ok (.invokespecial 11, 3) := by decide +kernel
theorem d_8_init_12 : decode prog_10_method_1_code 12 = .ok (.putfield 12, 3) := by decide +kernel
theorem d_8_init_15 : decode prog_10_method_1_code 15 = .ok (.aload_n 0, 1) := by decide +kernel
theorem d_8_init_16 : decode prog_10_method_1_code 16 = .ok (.iconst 4, 1) := by decide +kernel
theorem d_8_init_17 : decode prog_10_method_1_code 17 = .ok (.anewarray 18, 3) := by decide +kernel
theorem d_8_init_20 : decode prog_10_method_1_code 20 = .ok (.putfield 20, 3) := by decide +kernel
theorem d_8_init_23 : decode prog_10_method_1_code 23 = .ok (.aload_n 0, 1) := by decide +kernel
theorem d_8_init_24 : decode prog_10_method_1_code 24 = .ok (.new 24, 3) := by decide +kernel
theorem d_8_init_27 : decode prog_10_method_1_code 27 = .ok (.dup, 1) := by decide +kernel
theorem d_8_init_28 : decode prog_10_method_1_code 28 = .ok (.invokespecial 26, 3) := by decide +kernel
theorem d_8_init_31 : decode prog_10_method_1_code 31 = .ok (.putfield 27, 3) := by decide +kernel
theorem d_8_init_34 : decode prog_10_method_1_code 34 = .ok (.aload_n 0, 1) := by decide +kernel
theorem d_8_init_35 : decode prog_10_method_1_code 35 = .ok (.new 31, 3) := by decide +kernel
theorem d_8_init_38 : decode prog_10_method_1_code 38 = .ok (.dup, 1) := by decide +kernel
theorem d_8_init_39 : decode prog_10_method_1_code 39 = .ok (.invokespecial 33, 3) := by decide +kernel
theorem d_8_init_42 : decode prog_10_method_1_code 42 = .ok (.putfield 34, 3) := by decide +kernel
theorem d_8_init_45 : decode prog_10_method_1_code 45 = .ok (.iconst 0, 1) := by decide +kernel
theorem d_8_init_46 : decode prog_10_method_1_code 46 = .ok (.istore_n 1, 1) := by decide +kernel
theorem d_8_init_47 : decode prog_10_method_1_code 47 = .ok (.iload_n 1, 1) := by decide +kernel
theorem d_8_init_48 : decode prog_10_method_1_code 48 = .ok (.iconst 4, 1) := by decide +kernel
theorem d_8_init_49 : decode prog_10_method_1_code 49 = .ok (.if_icmp .ge 22, 3) := by decide +kernel
theorem d_8_init_52 : decode prog_10_method_1_code 52 = .ok (.aload_n 0, 1) := by decide +kernel
theorem d_8_init_53 : decode prog_10_method_1_code 53 = .ok (.getfield 20, 3) := by decide +kernel
theorem d_8_init_56 : decode prog_10_method_1_code 56 = .ok (.iload_n 1, 1) := by decide +kernel
theorem d_8_init_57 : decode prog_10_method_1_code 57 = .ok (.new 18, 3) := by decide +kernel
theorem d_8_init_60 : decode prog_10_method_1_code 60 = .ok (.dup, 1) := by decide +kernel
theorem d_8_init_61 : decode prog_10_method_1_code 61 = .ok (.invokespecial 38, 3) := by decide +kernel
theorem d_8_init_64 : decode prog_10_method_1_code 64 = .ok (.aastore, 1) := by decide +kernel
theorem d_8_init_65 : decode prog_10_method_1_code 65 = .ok (.iinc 1 1, 3) := by decide +kernel
theorem d_8_init_68 : decode prog_10_method_1_code 68 = .ok (.goto (-21), 3) := by decide +kernel
theorem d_8_init_71 : decode prog_10_method_1_code 71 = .ok (.return_, 1) := by decide +kernel
abbrev f_9 : List Value := [jI 0, .null, jI 0, .null, .null, .null]
theorem nd_9 : ∀ j, j < 6 → defaultValue (jt9 j) = vp_V f_9 j := by
  intro j hj
  match j, hj with
  | 0, _ => rfl
  | 1, _ => rfl
  | 2, _ => rfl
  | 3, _ => rfl
  | 4, _ => rfl
  | 5, _ => rfl
  | n + 6, h => exact absurd h (by omega)
theorem d_9_init_0 : decode prog_11_method_1_code 0 = .ok (.aload_n 0, 1) := by decide +kernel
theorem d_9_init_1 : decode prog_11_method_1_code 1 = .ok (.invokespecial 3, 3) := by decide +kernel
theorem d_9_init_4 : decode prog_11_method_1_code 4 = .ok (.aload_n 0, 1) := by decide +kernel
theorem d_9_init_5 : decode prog_11_method_1_code 5 = .ok (.iconst 5, 1) := by decide +kernel
theorem d_9_init_6 : decode prog_11_method_1_code 6 = .ok (.newarray .int, 2) := by decide +kernel
theorem d_9_init_8 : decode prog_11_method_1_code 8 = .ok (.putfield 9, 3) := by decide +kernel
theorem d_9_init_11 : decode prog_11_method_1_code 11 = .ok (.aload_n 0, 1) := by decide +kernel
theorem d_9_init_12 : decode prog_11_method_1_code 12 = .ok (.bipush 14, 2) := by decide +kernel
theorem d_9_init_14 : decode prog_11_method_1_code 14 = .ok (.newarray .int, 2) := by decide +kernel
theorem d_9_init_16 : decode prog_11_method_1_code 16 = .ok (.putfield 15, 3) := by decide +kernel
theorem d_9_init_19 : decode prog_11_method_1_code 19 = .ok (.aload_n 0, 1) := by decide +kernel
theorem d_9_init_20 : decode prog_11_method_1_code 20 = .ok (.bipush 70, 2) := by decide +kernel
theorem d_9_init_22 : decode prog_11_method_1_code 22 = .ok (.newarray .int, 2) := by decide +kernel
theorem d_9_init_24 : decode prog_11_method_1_code 24 = .ok (.putfield 18, 3) := by decide +kernel
theorem d_9_init_27 : decode prog_11_method_1_code 27 = .ok (.aload_n 0, 1) := by decide +kernel
theorem d_9_init_28 : decode prog_11_method_1_code 28 = .ok (.new 21, 3) := by decide +kernel
theorem d_9_init_31 : decode prog_11_method_1_code 31 = .ok (.dup, 1) := by decide +kernel
theorem d_9_init_32 : decode prog_11_method_1_code 32 = .ok (.invokespecial 23, 3) := by decide +kernel
theorem d_9_init_35 : decode prog_11_method_1_code 35 = .ok (.putfield 24, 3) := by decide +kernel
theorem d_9_init_38 : decode prog_11_method_1_code 38 = .ok (.return_, 1) := by decide +kernel
abbrev f_10 : List Value := [.null, .null, .null, jI 0]
theorem nd_10 : ∀ j, j < 4 → defaultValue (jt10 j) = vp_V f_10 j := by
  intro j hj
  match j, hj with
  | 0, _ => rfl
  | 1, _ => rfl
  | 2, _ => rfl
  | 3, _ => rfl
  | n + 4, h => exact absurd h (by omega)
theorem d_10_init_0 : decode prog_12_method_1_code 0 = .ok (.aload_n 0, 1) := by decide +kernel
theorem d_10_init_1 : decode prog_12_method_1_code 1 = .ok (.invokespecial 3, 3) := by decide +kernel
theorem d_10_init_4 : decode prog_12_method_1_code 4 = .ok (.aload_n 0, 1) := by decide +kernel
theorem d_10_init_5 : decode prog_12_method_1_code 5 = .ok (.new 9, 3) := by decide +kernel
theorem d_10_init_8 : decode prog_12_method_1_code 8 = .ok (.dup, 1) := by decide +kernel
theorem d_10_init_9 : decode prog_12_method_1_code 9 = .ok (.invokespecial 11, 3) := by decide +kernel
theorem d_10_init_12 : decode prog_12_method_1_code 12 = .ok (.putfield 12, 3) := by decide +kernel
theorem d_10_init_15 : decode prog_12_method_1_code 15 = .ok (.aload_n 0, 1) := by decide +kernel
theorem d_10_init_16 : decode prog_12_method_1_code 16 = .ok (.new 18, 3) := by decide +kernel
theorem d_10_init_19 : decode prog_12_method_1_code 19 = .ok (.dup, 1) := by decide +kernel
theorem d_10_init_20 : decode prog_12_method_1_code 20 = .ok (.invokespecial 20, 3) := by decide +kernel
theorem d_10_init_23 : decode prog_12_method_1_code 23 = .ok (.putfield 21, 3) := by decide +kernel
theorem d_10_init_26 : decode prog_12_method_1_code 26 = .ok (.aload_n 0, 1) := by decide +kernel
theorem d_10_init_27 : decode prog_12_method_1_code 27 = .ok (.bipush 8, 2) := by decide +kernel
theorem d_10_init_29 : decode prog_12_method_1_code 29 = .ok (.anewarray 25, 3) := by decide +kernel
theorem d_10_init_32 : decode prog_12_method_1_code 32 = .ok (.putfield 27, 3) := by decide +kernel
theorem d_10_init_35 : decode prog_12_method_1_code 35 = .ok (.iconst 0, 1) := by decide +kernel
theorem d_10_init_36 : decode prog_12_method_1_code 36 = .ok (.istore_n 1, 1) := by decide +kernel
theorem d_10_init_37 : decode prog_12_method_1_code 37 = .ok (.iload_n 1, 1) := by decide +kernel
theorem d_10_init_38 : decode prog_12_method_1_code 38 = .ok (.bipush 8, 2) := by decide +kernel
theorem d_10_init_40 : decode prog_12_method_1_code 40 = .ok (.if_icmp .ge 22, 3) := by decide +kernel
theorem d_10_init_43 : decode prog_12_method_1_code 43 = .ok (.aload_n 0, 1) := by decide +kernel
theorem d_10_init_44 : decode prog_12_method_1_code 44 = .ok (.getfield 27, 3) := by decide +kernel
theorem d_10_init_47 : decode prog_12_method_1_code 47 = .ok (.iload_n 1, 1) := by decide +kernel
theorem d_10_init_48 : decode prog_12_method_1_code 48 = .ok (.new 25, 3) := by decide +kernel
theorem d_10_init_51 : decode prog_12_method_1_code 51 = .ok (.dup, 1) := by decide +kernel
theorem d_10_init_52 : decode prog_12_method_1_code 52 = .ok (.invokespecial 31, 3) := by decide +kernel
theorem d_10_init_55 : decode prog_12_method_1_code 55 = .ok (.aastore, 1) := by decide +kernel
theorem d_10_init_56 : decode prog_12_method_1_code 56 = .ok (.iinc 1 1, 3) := by decide +kernel
theorem d_10_init_59 : decode prog_12_method_1_code 59 = .ok (.goto (-22), 3) := by decide +kernel
theorem d_10_init_62 : decode prog_12_method_1_code 62 = .ok (.return_, 1) := by decide +kernel
abbrev f_11 : List Value := [.null, .null, .null, .null, .null]
theorem nd_11 : ∀ j, j < 5 → defaultValue (jt11 j) = vp_V f_11 j := by
  intro j hj
  match j, hj with
  | 0, _ => rfl
  | 1, _ => rfl
  | 2, _ => rfl
  | 3, _ => rfl
  | 4, _ => rfl
  | n + 5, h => exact absurd h (by omega)
theorem d_11_init_0 : decode prog_1_method_1_code 0 = .ok (.aload_n 0, 1) := by decide +kernel
theorem d_11_init_1 : decode prog_1_method_1_code 1 = .ok (.invokespecial 1, 3) := by decide +kernel
theorem d_11_init_4 : decode prog_1_method_1_code 4 = .ok (.aload_n 0, 1) := by decide +kernel
theorem d_11_init_5 : decode prog_1_method_1_code 5 = .ok (.new 7, 3) := by decide +kernel
theorem d_11_init_8 : decode prog_1_method_1_code 8 = .ok (.dup, 1) := by decide +kernel
theorem d_11_init_9 : decode prog_1_method_1_code 9 = .ok (.invokespecial 9, 3) := by decide +kernel
theorem d_11_init_12 : decode prog_1_method_1_code 12 = .ok (.putfield 10, 3) := by decide +kernel
theorem d_11_init_15 : decode prog_1_method_1_code 15 = .ok (.aload_n 0, 1) := by decide +kernel
theorem d_11_init_16 : decode prog_1_method_1_code 16 = .ok (.new 16, 3) := by decide +kernel
theorem d_11_init_19 : decode prog_1_method_1_code 19 = .ok (.dup, 1) := by decide +kernel
theorem d_11_init_20 : decode prog_1_method_1_code 20 = .ok (.invokespecial 18, 3) := by decide +kernel
theorem d_11_init_23 : decode prog_1_method_1_code 23 = .ok (.putfield 19, 3) := by decide +kernel
theorem d_11_init_26 : decode prog_1_method_1_code 26 = .ok (.aload_n 0, 1) := by decide +kernel
theorem d_11_init_27 : decode prog_1_method_1_code 27 = .ok (.new 23, 3) := by decide +kernel
theorem d_11_init_30 : decode prog_1_method_1_code 30 = .ok (.dup, 1) := by decide +kernel
theorem d_11_init_31 : decode prog_1_method_1_code 31 = .ok (.invokespecial 25, 3) := by decide +kernel
theorem d_11_init_34 : decode prog_1_method_1_code 34 = .ok (.putfield 26, 3) := by decide +kernel
theorem d_11_init_37 : decode prog_1_method_1_code 37 = .ok (.aload_n 0, 1) := by decide +kernel
theorem d_11_init_38 : decode prog_1_method_1_code 38 = .ok (.new 30, 3) := by decide +kernel
theorem d_11_init_41 : decode prog_1_method_1_code 41 = .ok (.dup, 1) := by decide +kernel
theorem d_11_init_42 : decode prog_1_method_1_code 42 = .ok (.invokespecial 32, 3) := by decide +kernel
theorem d_11_init_45 : decode prog_1_method_1_code 45 = .ok (.putfield 33, 3) := by decide +kernel
theorem d_11_init_48 : decode prog_1_method_1_code 48 = .ok (.return_, 1) := by decide +kernel
abbrev f_12 : List Value := [jI 0, .null, .null, .null, jI 0, .null, jI 0, jI 0, jI 0, jI 0, jI 0, jI 0, .null, .null, .null, .null, jI 0, .null, .null]
theorem nd_12 : ∀ j, j < 19 → defaultValue (jt12 j) = vp_V f_12 j := by
  intro j hj
  match j, hj with
  | 0, _ => rfl
  | 1, _ => rfl
  | 2, _ => rfl
  | 3, _ => rfl
  | 4, _ => rfl
  | 5, _ => rfl
  | 6, _ => rfl
  | 7, _ => rfl
  | 8, _ => rfl
  | 9, _ => rfl
  | 10, _ => rfl
  | 11, _ => rfl
  | 12, _ => rfl
  | 13, _ => rfl
  | 14, _ => rfl
  | 15, _ => rfl
  | 16, _ => rfl
  | 17, _ => rfl
  | 18, _ => rfl
  | n + 19, h => exact absurd h (by omega)
theorem d_12_init_0 : decode prog_14_method_5_code 0 = .ok (.aload_n 0, 1) := by decide +kernel
theorem d_12_init_1 : decode prog_14_method_5_code 1 = .ok (.invokespecial 7, 3) := by decide +kernel
theorem d_12_init_4 : decode prog_14_method_5_code 4 = .ok (.aload_n 0, 1) := by decide +kernel
theorem d_12_init_5 : decode prog_14_method_5_code 5 = .ok (.sipush 8954, 3) := by decide +kernel
theorem d_12_init_8 : decode prog_14_method_5_code 8 = .ok (.newarray .int, 2) := by decide +kernel
theorem d_12_init_10 : decode prog_14_method_5_code 10 = .ok (.putfield 13, 3) := by decide +kernel
theorem d_12_init_13 : decode prog_14_method_5_code 13 = .ok (.aload_n 0, 1) := by decide +kernel
theorem d_12_init_14 : decode prog_14_method_5_code 14 = .ok (.sipush 8954, 3) := by decide +kernel
theorem d_12_init_17 : decode prog_14_method_5_code 17 = .ok (.newarray .int, 2) := by decide +kernel
theorem d_12_init_19 : decode prog_14_method_5_code 19 = .ok (.putfield 17, 3) := by decide +kernel
theorem d_12_init_22 : decode prog_14_method_5_code 22 = .ok (.aload_n 0, 1) := by decide +kernel
theorem d_12_init_23 : decode prog_14_method_5_code 23 = .ok (.sipush 8954, 3) := by decide +kernel
theorem d_12_init_26 : decode prog_14_method_5_code 26 = .ok (.newarray .int, 2) := by decide +kernel
theorem d_12_init_28 : decode prog_14_method_5_code 28 = .ok (.putfield 20, 3) := by decide +kernel
theorem d_12_init_31 : decode prog_14_method_5_code 31 = .ok (.aload_n 0, 1) := by decide +kernel
theorem d_12_init_32 : decode prog_14_method_5_code 32 = .ok (.sipush 400, 3) := by decide +kernel
theorem d_12_init_35 : decode prog_14_method_5_code 35 = .ok (.newarray .byte, 2) := by decide +kernel
theorem d_12_init_37 : decode prog_14_method_5_code 37 = .ok (.putfield 23, 3) := by decide +kernel
theorem d_12_init_40 : decode prog_14_method_5_code 40 = .ok (.aload_n 0, 1) := by decide +kernel
theorem d_12_init_41 : decode prog_14_method_5_code 41 = .ok (.iconst (-1), 1) := by decide +kernel
theorem d_12_init_42 : decode prog_14_method_5_code 42 = .ok (.putfield 27, 3) := by decide +kernel
theorem d_12_init_45 : decode prog_14_method_5_code 45 = .ok (.aload_n 0, 1) := by decide +kernel
theorem d_12_init_46 : decode prog_14_method_5_code 46 = .ok (.iconst 5, 1) := by decide +kernel
theorem d_12_init_47 : decode prog_14_method_5_code 47 = .ok (.newarray .int, 2) := by decide +kernel
theorem d_12_init_49 : decode prog_14_method_5_code 49 = .ok (.putfield 30, 3) := by decide +kernel
theorem d_12_init_52 : decode prog_14_method_5_code 52 = .ok (.aload_n 0, 1) := by decide +kernel
theorem d_12_init_53 : decode prog_14_method_5_code 53 = .ok (.bipush 25, 2) := by decide +kernel
theorem d_12_init_55 : decode prog_14_method_5_code 55 = .ok (.newarray .int, 2) := by decide +kernel
theorem d_12_init_57 : decode prog_14_method_5_code 57 = .ok (.putfield 33, 3) := by decide +kernel
theorem d_12_init_60 : decode prog_14_method_5_code 60 = .ok (.aload_n 0, 1) := by decide +kernel
theorem d_12_init_61 : decode prog_14_method_5_code 61 = .ok (.sipush 241, 3) := by decide +kernel
theorem d_12_init_64 : decode prog_14_method_5_code 64 = .ok (.newarray .int, 2) := by decide +kernel
theorem d_12_init_66 : decode prog_14_method_5_code 66 = .ok (.putfield 36, 3) := by decide +kernel
theorem d_12_init_69 : decode prog_14_method_5_code 69 = .ok (.aload_n 0, 1) := by decide +kernel
theorem d_12_init_70 : decode prog_14_method_5_code 70 = .ok (.bipush 72, 2) := by decide +kernel
theorem d_12_init_72 : decode prog_14_method_5_code 72 = .ok (.newarray .int, 2) := by decide +kernel
theorem d_12_init_74 : decode prog_14_method_5_code 74 = .ok (.putfield 39, 3) := by decide +kernel
theorem d_12_init_77 : decode prog_14_method_5_code 77 = .ok (.aload_n 0, 1) := by decide +kernel
theorem d_12_init_78 : decode prog_14_method_5_code 78 = .ok (.bipush 24, 2) := by decide +kernel
theorem d_12_init_80 : decode prog_14_method_5_code 80 = .ok (.newarray .int, 2) := by decide +kernel
theorem d_12_init_82 : decode prog_14_method_5_code 82 = .ok (.putfield 42, 3) := by decide +kernel
theorem d_12_init_85 : decode prog_14_method_5_code 85 = .ok (.aload_n 0, 1) := by decide +kernel
theorem d_12_init_86 : decode prog_14_method_5_code 86 = .ok (.iconst 2, 1) := by decide +kernel
theorem d_12_init_87 : decode prog_14_method_5_code 87 = .ok (.newarray .int, 2) := by decide +kernel
theorem d_12_init_89 : decode prog_14_method_5_code 89 = .ok (.putfield 45, 3) := by decide +kernel
theorem d_12_init_92 : decode prog_14_method_5_code 92 = .ok (.iconst 0, 1) := by decide +kernel
theorem d_12_init_93 : decode prog_14_method_5_code 93 = .ok (.istore_n 1, 1) := by decide +kernel
theorem d_12_init_94 : decode prog_14_method_5_code 94 = .ok (.iload_n 1, 1) := by decide +kernel
theorem d_12_init_95 : decode prog_14_method_5_code 95 = .ok (.bipush 24, 2) := by decide +kernel
theorem d_12_init_97 : decode prog_14_method_5_code 97 = .ok (.if_icmp .ge 22, 3) := by decide +kernel
theorem d_12_init_100 : decode prog_14_method_5_code 100 = .ok (.aload_n 0, 1) := by decide +kernel
theorem d_12_init_101 : decode prog_14_method_5_code 101 = .ok (.getfield 13, 3) := by decide +kernel
theorem d_12_init_104 : decode prog_14_method_5_code 104 = .ok (.bipush 9, 2) := by decide +kernel
theorem d_12_init_106 : decode prog_14_method_5_code 106 = .ok (.bipush 11, 2) := by decide +kernel
theorem d_12_init_108 : decode prog_14_method_5_code 108 = .ok (.iload_n 1, 1) := by decide +kernel
theorem d_12_init_109 : decode prog_14_method_5_code 109 = .ok (.imul, 1) := by decide +kernel
theorem d_12_init_110 : decode prog_14_method_5_code 110 = .ok (.iadd, 1) := by decide +kernel
theorem d_12_init_111 : decode prog_14_method_5_code 111 = .ok (.iconst (-1), 1) := by decide +kernel
theorem d_12_init_112 : decode prog_14_method_5_code 112 = .ok (.iastore, 1) := by decide +kernel
theorem d_12_init_113 : decode prog_14_method_5_code 113 = .ok (.iinc 1 1, 3) := by decide +kernel
theorem d_12_init_116 : decode prog_14_method_5_code 116 = .ok (.goto (-22), 3) := by decide +kernel
theorem d_12_init_119 : decode prog_14_method_5_code 119 = .ok (.return_, 1) := by decide +kernel
theorem kv_2 : Cond.initialized "PrivateViews$Reader" ∈ jTB := jtb (List.mem_of_getElem? (i := 2) (by decide +kernel)) (by decide +kernel)
theorem kv_3 : Cond.initialized "PrivateViews$Texts" ∈ jTB := jtb (List.mem_of_getElem? (i := 3) (by decide +kernel)) (by decide +kernel)
theorem kv_4 : Cond.initialized "PrivateViews$Lens" ∈ jTB := jtb (List.mem_of_getElem? (i := 4) (by decide +kernel)) (by decide +kernel)
theorem kv_5 : Cond.initialized "PrivateViews$Filter" ∈ jTB := jtb (List.mem_of_getElem? (i := 5) (by decide +kernel)) (by decide +kernel)
theorem kv_6 : Cond.initialized "PrivateViews$State" ∈ jTB := jtb (List.mem_of_getElem? (i := 6) (by decide +kernel)) (by decide +kernel)
theorem kv_7 : Cond.initialized "PrivateViews$Sheet" ∈ jTB := jtb (List.mem_of_getElem? (i := 7) (by decide +kernel)) (by decide +kernel)
theorem kv_8 : Cond.initialized "PrivateViews$RowList" ∈ jTB := jtb (List.mem_of_getElem? (i := 8) (by decide +kernel)) (by decide +kernel)
theorem kv_9 : Cond.initialized "PrivateViews$Log" ∈ jTB := jtb (List.mem_of_getElem? (i := 9) (by decide +kernel)) (by decide +kernel)
theorem kv_10 : Cond.initialized "PrivateViews$Edit" ∈ jTB := jtb (List.mem_of_getElem? (i := 10) (by decide +kernel)) (by decide +kernel)
theorem kv_11 : Cond.initialized "PrivateViews$View" ∈ jTB := jtb (List.mem_of_getElem? (i := 11) (by decide +kernel)) (by decide +kernel)
theorem kv_12 : Cond.initialized "PrivateViews$Questions" ∈ jTB := jtb (List.mem_of_getElem? (i := 12) (by decide +kernel)) (by decide +kernel)
theorem kv_33 : Cond.methodLink "PrivateViews" 1 ⟨"java/lang/Object", "<init>", "()V"⟩ ∈ jTB := jtb (List.mem_of_getElem? (i := 33) (by decide +kernel)) (by decide +kernel)
theorem kv_36 : Cond.classLink "PrivateViews" 7 "PrivateViews$Reader" ∈ jTB := jtb (List.mem_of_getElem? (i := 36) (by decide +kernel)) (by decide +kernel)
theorem kv_37 : Cond.instantiable "PrivateViews$Reader" 7 ∈ jTB := jtb (List.mem_of_getElem? (i := 37) (by decide +kernel)) (by decide +kernel)
theorem kv_39 : Cond.instanceMethod ⟨"PrivateViews$Reader", "<init>", "()V"⟩ ∈ jTB := jtb (List.mem_of_getElem? (i := 39) (by decide +kernel)) (by decide +kernel)
theorem kv_40 : Cond.code ⟨"PrivateViews$Reader", "<init>", "()V"⟩ prog_7_method_1_code 1 none ∈ jTB := jtb (List.mem_of_getElem? (i := 40) (by decide +kernel)) (by decide +kernel)
theorem kv_41 : Cond.methodLink "PrivateViews$Reader" 3 ⟨"java/lang/Object", "<init>", "()V"⟩ ∈ jTB := jtb (List.mem_of_getElem? (i := 41) (by decide +kernel)) (by decide +kernel)
theorem kv_42 : Cond.fieldLink "PrivateViews$Reader" 9 "PrivateViews$Reader" "tape" "[I" ∈ jTB := jtb (List.mem_of_getElem? (i := 42) (by decide +kernel)) (by decide +kernel)
theorem kv_48 : Cond.fieldLink "PrivateViews$Reader" 15 "PrivateViews$Reader" "wrong" "I" ∈ jTB := jtb (List.mem_of_getElem? (i := 48) (by decide +kernel)) (by decide +kernel)
theorem kv_70 : Cond.classLink "PrivateViews" 16 "PrivateViews$Texts" ∈ jTB := jtb (List.mem_of_getElem? (i := 70) (by decide +kernel)) (by decide +kernel)
theorem kv_71 : Cond.instantiable "PrivateViews$Texts" 6 ∈ jTB := jtb (List.mem_of_getElem? (i := 71) (by decide +kernel)) (by decide +kernel)
theorem kv_73 : Cond.instanceMethod ⟨"PrivateViews$Texts", "<init>", "()V"⟩ ∈ jTB := jtb (List.mem_of_getElem? (i := 73) (by decide +kernel)) (by decide +kernel)
theorem kv_74 : Cond.code ⟨"PrivateViews$Texts", "<init>", "()V"⟩ prog_11_method_1_code 1 none ∈ jTB := jtb (List.mem_of_getElem? (i := 74) (by decide +kernel)) (by decide +kernel)
theorem kv_75 : Cond.methodLink "PrivateViews$Texts" 3 ⟨"java/lang/Object", "<init>", "()V"⟩ ∈ jTB := jtb (List.mem_of_getElem? (i := 75) (by decide +kernel)) (by decide +kernel)
theorem kv_76 : Cond.classLink "PrivateViews$Texts" 21 "PrivateViews$Lens" ∈ jTB := jtb (List.mem_of_getElem? (i := 76) (by decide +kernel)) (by decide +kernel)
theorem kv_77 : Cond.instantiable "PrivateViews$Lens" 4 ∈ jTB := jtb (List.mem_of_getElem? (i := 77) (by decide +kernel)) (by decide +kernel)
theorem kv_78 : Cond.methodLink "PrivateViews$Texts" 23 ⟨"PrivateViews$Lens", "<init>", "()V"⟩ ∈ jTB := jtb (List.mem_of_getElem? (i := 78) (by decide +kernel)) (by decide +kernel)
theorem kv_79 : Cond.instanceMethod ⟨"PrivateViews$Lens", "<init>", "()V"⟩ ∈ jTB := jtb (List.mem_of_getElem? (i := 79) (by decide +kernel)) (by decide +kernel)
theorem kv_80 : Cond.code ⟨"PrivateViews$Lens", "<init>", "()V"⟩ prog_4_method_1_code 2 none ∈ jTB := jtb (List.mem_of_getElem? (i := 80) (by decide +kernel)) (by decide +kernel)
theorem kv_81 : Cond.methodLink "PrivateViews$Lens" 3 ⟨"java/lang/Object", "<init>", "()V"⟩ ∈ jTB := jtb (List.mem_of_getElem? (i := 81) (by decide +kernel)) (by decide +kernel)
theorem kv_82 : Cond.classLink "PrivateViews$Lens" 9 "PrivateViews$Filter" ∈ jTB := jtb (List.mem_of_getElem? (i := 82) (by decide +kernel)) (by decide +kernel)
theorem kv_84 : Cond.instantiable "PrivateViews$Filter" 5 ∈ jTB := jtb (List.mem_of_getElem? (i := 84) (by decide +kernel)) (by decide +kernel)
theorem kv_86 : Cond.instanceMethod ⟨"PrivateViews$Filter", "<init>", "()V"⟩ ∈ jTB := jtb (List.mem_of_getElem? (i := 86) (by decide +kernel)) (by decide +kernel)
theorem kv_87 : Cond.code ⟨"PrivateViews$Filter", "<init>", "()V"⟩ prog_3_method_1_code 1 none ∈ jTB := jtb (List.mem_of_getElem? (i := 87) (by decide +kernel)) (by decide +kernel)
theorem kv_88 : Cond.methodLink "PrivateViews$Filter" 3 ⟨"java/lang/Object", "<init>", "()V"⟩ ∈ jTB := jtb (List.mem_of_getElem? (i := 88) (by decide +kernel)) (by decide +kernel)
theorem kv_92 : Cond.fieldLink "PrivateViews$Filter" 9 "PrivateViews$Filter" "forms" "[I" ∈ jTB := jtb (List.mem_of_getElem? (i := 92) (by decide +kernel)) (by decide +kernel)
theorem kv_93 : Cond.fieldLink "PrivateViews$Filter" 15 "PrivateViews$Filter" "lows" "[I" ∈ jTB := jtb (List.mem_of_getElem? (i := 93) (by decide +kernel)) (by decide +kernel)
theorem kv_94 : Cond.fieldLink "PrivateViews$Filter" 18 "PrivateViews$Filter" "highs" "[I" ∈ jTB := jtb (List.mem_of_getElem? (i := 94) (by decide +kernel)) (by decide +kernel)
theorem kv_95 : Cond.fieldLink "PrivateViews$Filter" 21 "PrivateViews$Filter" "turns" "[I" ∈ jTB := jtb (List.mem_of_getElem? (i := 95) (by decide +kernel)) (by decide +kernel)
theorem kv_107 : Cond.fieldLink "PrivateViews$Lens" 11 "PrivateViews$Lens" "filters" "[LPrivateViews$Filter;" ∈ jTB := jtb (List.mem_of_getElem? (i := 107) (by decide +kernel)) (by decide +kernel)
theorem kv_108 : Cond.fieldLink "PrivateViews$Lens" 17 "PrivateViews$Lens" "sortCodes" "[I" ∈ jTB := jtb (List.mem_of_getElem? (i := 108) (by decide +kernel)) (by decide +kernel)
theorem kv_126 : Cond.fieldLink "PrivateViews$Texts" 9 "PrivateViews$Texts" "kindsTold" "[I" ∈ jTB := jtb (List.mem_of_getElem? (i := 126) (by decide +kernel)) (by decide +kernel)
theorem kv_131 : Cond.fieldLink "PrivateViews$Texts" 15 "PrivateViews$Texts" "widths" "[I" ∈ jTB := jtb (List.mem_of_getElem? (i := 131) (by decide +kernel)) (by decide +kernel)
theorem kv_132 : Cond.fieldLink "PrivateViews$Texts" 18 "PrivateViews$Texts" "values" "[I" ∈ jTB := jtb (List.mem_of_getElem? (i := 132) (by decide +kernel)) (by decide +kernel)
theorem kv_133 : Cond.fieldLink "PrivateViews$Texts" 24 "PrivateViews$Texts" "lens" "LPrivateViews$Lens;" ∈ jTB := jtb (List.mem_of_getElem? (i := 133) (by decide +kernel)) (by decide +kernel)
theorem kv_148 : Cond.classLink "PrivateViews" 23 "PrivateViews$State" ∈ jTB := jtb (List.mem_of_getElem? (i := 148) (by decide +kernel)) (by decide +kernel)
theorem kv_149 : Cond.instantiable "PrivateViews$State" 4 ∈ jTB := jtb (List.mem_of_getElem? (i := 149) (by decide +kernel)) (by decide +kernel)
theorem kv_150 : Cond.methodLink "PrivateViews" 25 ⟨"PrivateViews$State", "<init>", "()V"⟩ ∈ jTB := jtb (List.mem_of_getElem? (i := 150) (by decide +kernel)) (by decide +kernel)
theorem kv_151 : Cond.instanceMethod ⟨"PrivateViews$State", "<init>", "()V"⟩ ∈ jTB := jtb (List.mem_of_getElem? (i := 151) (by decide +kernel)) (by decide +kernel)
theorem kv_152 : Cond.code ⟨"PrivateViews$State", "<init>", "()V"⟩ prog_10_method_1_code 2 none ∈ jTB := jtb (List.mem_of_getElem? (i := 152) (by decide +kernel)) (by decide +kernel)
theorem kv_153 : Cond.methodLink "PrivateViews$State" 3 ⟨"java/lang/Object", "<init>", "()V"⟩ ∈ jTB := jtb (List.mem_of_getElem? (i := 153) (by decide +kernel)) (by decide +kernel)
theorem kv_154 : Cond.classLink "PrivateViews$State" 9 "PrivateViews$Sheet" ∈ jTB := jtb (List.mem_of_getElem? (i := 154) (by decide +kernel)) (by decide +kernel)
theorem kv_155 : Cond.instantiable "PrivateViews$Sheet" 8 ∈ jTB := jtb (List.mem_of_getElem? (i := 155) (by decide +kernel)) (by decide +kernel)
theorem kv_157 : Cond.instanceMethod ⟨"PrivateViews$Sheet", "<init>", "()V"⟩ ∈ jTB := jtb (List.mem_of_getElem? (i := 157) (by decide +kernel)) (by decide +kernel)
theorem kv_158 : Cond.code ⟨"PrivateViews$Sheet", "<init>", "()V"⟩ prog_9_method_1_code 1 none ∈ jTB := jtb (List.mem_of_getElem? (i := 158) (by decide +kernel)) (by decide +kernel)
theorem kv_159 : Cond.methodLink "PrivateViews$Sheet" 3 ⟨"java/lang/Object", "<init>", "()V"⟩ ∈ jTB := jtb (List.mem_of_getElem? (i := 159) (by decide +kernel)) (by decide +kernel)
theorem kv_160 : Cond.classLink "PrivateViews$Sheet" 24 "PrivateViews$RowList" ∈ jTB := jtb (List.mem_of_getElem? (i := 160) (by decide +kernel)) (by decide +kernel)
theorem kv_161 : Cond.instantiable "PrivateViews$RowList" 2 ∈ jTB := jtb (List.mem_of_getElem? (i := 161) (by decide +kernel)) (by decide +kernel)
theorem kv_163 : Cond.instanceMethod ⟨"PrivateViews$RowList", "<init>", "()V"⟩ ∈ jTB := jtb (List.mem_of_getElem? (i := 163) (by decide +kernel)) (by decide +kernel)
theorem kv_164 : Cond.code ⟨"PrivateViews$RowList", "<init>", "()V"⟩ prog_8_method_1_code 1 none ∈ jTB := jtb (List.mem_of_getElem? (i := 164) (by decide +kernel)) (by decide +kernel)
theorem kv_165 : Cond.methodLink "PrivateViews$RowList" 3 ⟨"java/lang/Object", "<init>", "()V"⟩ ∈ jTB := jtb (List.mem_of_getElem? (i := 165) (by decide +kernel)) (by decide +kernel)
theorem kv_166 : Cond.fieldLink "PrivateViews$RowList" 9 "PrivateViews$RowList" "seats" "[I" ∈ jTB := jtb (List.mem_of_getElem? (i := 166) (by decide +kernel)) (by decide +kernel)
theorem kv_178 : Cond.fieldLink "PrivateViews$Sheet" 9 "PrivateViews$Sheet" "kindsTold" "[I" ∈ jTB := jtb (List.mem_of_getElem? (i := 178) (by decide +kernel)) (by decide +kernel)
theorem kv_181 : Cond.fieldLink "PrivateViews$Sheet" 15 "PrivateViews$Sheet" "keys" "[I" ∈ jTB := jtb (List.mem_of_getElem? (i := 181) (by decide +kernel)) (by decide +kernel)
theorem kv_182 : Cond.fieldLink "PrivateViews$Sheet" 18 "PrivateViews$Sheet" "values" "[I" ∈ jTB := jtb (List.mem_of_getElem? (i := 182) (by decide +kernel)) (by decide +kernel)
theorem kv_183 : Cond.fieldLink "PrivateViews$Sheet" 21 "PrivateViews$Sheet" "writers" "[I" ∈ jTB := jtb (List.mem_of_getElem? (i := 183) (by decide +kernel)) (by decide +kernel)
theorem kv_184 : Cond.fieldLink "PrivateViews$Sheet" 27 "PrivateViews$Sheet" "ordered" "LPrivateViews$RowList;" ∈ jTB := jtb (List.mem_of_getElem? (i := 184) (by decide +kernel)) (by decide +kernel)
theorem kv_210 : Cond.classLink "PrivateViews$State" 18 "PrivateViews$View" ∈ jTB := jtb (List.mem_of_getElem? (i := 210) (by decide +kernel)) (by decide +kernel)
theorem kv_212 : Cond.classLink "PrivateViews$State" 24 "PrivateViews$Log" ∈ jTB := jtb (List.mem_of_getElem? (i := 212) (by decide +kernel)) (by decide +kernel)
theorem kv_213 : Cond.instantiable "PrivateViews$Log" 3 ∈ jTB := jtb (List.mem_of_getElem? (i := 213) (by decide +kernel)) (by decide +kernel)
theorem kv_215 : Cond.instanceMethod ⟨"PrivateViews$Log", "<init>", "()V"⟩ ∈ jTB := jtb (List.mem_of_getElem? (i := 215) (by decide +kernel)) (by decide +kernel)
theorem kv_216 : Cond.code ⟨"PrivateViews$Log", "<init>", "()V"⟩ prog_5_method_1_code 1 none ∈ jTB := jtb (List.mem_of_getElem? (i := 216) (by decide +kernel)) (by decide +kernel)
theorem kv_217 : Cond.methodLink "PrivateViews$Log" 3 ⟨"java/lang/Object", "<init>", "()V"⟩ ∈ jTB := jtb (List.mem_of_getElem? (i := 217) (by decide +kernel)) (by decide +kernel)
theorem kv_218 : Cond.fieldLink "PrivateViews$Log" 11 "PrivateViews$Log" "parts" "[I" ∈ jTB := jtb (List.mem_of_getElem? (i := 218) (by decide +kernel)) (by decide +kernel)
theorem kv_229 : Cond.classLink "PrivateViews$State" 31 "PrivateViews$Edit" ∈ jTB := jtb (List.mem_of_getElem? (i := 229) (by decide +kernel)) (by decide +kernel)
theorem kv_230 : Cond.instantiable "PrivateViews$Edit" 5 ∈ jTB := jtb (List.mem_of_getElem? (i := 230) (by decide +kernel)) (by decide +kernel)
theorem kv_232 : Cond.instanceMethod ⟨"PrivateViews$Edit", "<init>", "()V"⟩ ∈ jTB := jtb (List.mem_of_getElem? (i := 232) (by decide +kernel)) (by decide +kernel)
theorem kv_233 : Cond.code ⟨"PrivateViews$Edit", "<init>", "()V"⟩ prog_2_method_1_code 1 none ∈ jTB := jtb (List.mem_of_getElem? (i := 233) (by decide +kernel)) (by decide +kernel)
theorem kv_234 : Cond.methodLink "PrivateViews$Edit" 3 ⟨"java/lang/Object", "<init>", "()V"⟩ ∈ jTB := jtb (List.mem_of_getElem? (i := 234) (by decide +kernel)) (by decide +kernel)
theorem kv_237 : Cond.fieldLink "PrivateViews$Edit" 9 "PrivateViews$Edit" "keys" "[I" ∈ jTB := jtb (List.mem_of_getElem? (i := 237) (by decide +kernel)) (by decide +kernel)
theorem kv_239 : Cond.fieldLink "PrivateViews$Edit" 15 "PrivateViews$Edit" "columns" "[I" ∈ jTB := jtb (List.mem_of_getElem? (i := 239) (by decide +kernel)) (by decide +kernel)
theorem kv_241 : Cond.fieldLink "PrivateViews$Edit" 18 "PrivateViews$Edit" "were" "[I" ∈ jTB := jtb (List.mem_of_getElem? (i := 241) (by decide +kernel)) (by decide +kernel)
theorem kv_243 : Cond.fieldLink "PrivateViews$Edit" 21 "PrivateViews$Edit" "became" "[I" ∈ jTB := jtb (List.mem_of_getElem? (i := 243) (by decide +kernel)) (by decide +kernel)
theorem kv_256 : Cond.instantiable "PrivateViews$View" 4 ∈ jTB := jtb (List.mem_of_getElem? (i := 256) (by decide +kernel)) (by decide +kernel)
theorem kv_257 : Cond.methodLink "PrivateViews$State" 38 ⟨"PrivateViews$View", "<init>", "()V"⟩ ∈ jTB := jtb (List.mem_of_getElem? (i := 257) (by decide +kernel)) (by decide +kernel)
theorem kv_258 : Cond.instanceMethod ⟨"PrivateViews$View", "<init>", "()V"⟩ ∈ jTB := jtb (List.mem_of_getElem? (i := 258) (by decide +kernel)) (by decide +kernel)
theorem kv_259 : Cond.code ⟨"PrivateViews$View", "<init>", "()V"⟩ prog_12_method_1_code 2 none ∈ jTB := jtb (List.mem_of_getElem? (i := 259) (by decide +kernel)) (by decide +kernel)
theorem kv_260 : Cond.methodLink "PrivateViews$View" 3 ⟨"java/lang/Object", "<init>", "()V"⟩ ∈ jTB := jtb (List.mem_of_getElem? (i := 260) (by decide +kernel)) (by decide +kernel)
theorem kv_261 : Cond.classLink "PrivateViews$View" 9 "PrivateViews$Lens" ∈ jTB := jtb (List.mem_of_getElem? (i := 261) (by decide +kernel)) (by decide +kernel)
theorem kv_262 : Cond.methodLink "PrivateViews$View" 11 ⟨"PrivateViews$Lens", "<init>", "()V"⟩ ∈ jTB := jtb (List.mem_of_getElem? (i := 262) (by decide +kernel)) (by decide +kernel)
theorem kv_263 : Cond.classLink "PrivateViews$View" 18 "PrivateViews$RowList" ∈ jTB := jtb (List.mem_of_getElem? (i := 263) (by decide +kernel)) (by decide +kernel)
theorem kv_265 : Cond.classLink "PrivateViews$View" 25 "PrivateViews$Edit" ∈ jTB := jtb (List.mem_of_getElem? (i := 265) (by decide +kernel)) (by decide +kernel)
theorem kv_268 : Cond.fieldLink "PrivateViews$View" 12 "PrivateViews$View" "lens" "LPrivateViews$Lens;" ∈ jTB := jtb (List.mem_of_getElem? (i := 268) (by decide +kernel)) (by decide +kernel)
theorem kv_272 : Cond.fieldLink "PrivateViews$View" 21 "PrivateViews$View" "list" "LPrivateViews$RowList;" ∈ jTB := jtb (List.mem_of_getElem? (i := 272) (by decide +kernel)) (by decide +kernel)
theorem kv_276 : Cond.fieldLink "PrivateViews$View" 27 "PrivateViews$View" "edits" "[LPrivateViews$Edit;" ∈ jTB := jtb (List.mem_of_getElem? (i := 276) (by decide +kernel)) (by decide +kernel)
theorem kv_288 : Cond.fieldLink "PrivateViews$State" 12 "PrivateViews$State" "sheet" "LPrivateViews$Sheet;" ∈ jTB := jtb (List.mem_of_getElem? (i := 288) (by decide +kernel)) (by decide +kernel)
theorem kv_291 : Cond.fieldLink "PrivateViews$State" 20 "PrivateViews$State" "views" "[LPrivateViews$View;" ∈ jTB := jtb (List.mem_of_getElem? (i := 291) (by decide +kernel)) (by decide +kernel)
theorem kv_293 : Cond.fieldLink "PrivateViews$State" 27 "PrivateViews$State" "log" "LPrivateViews$Log;" ∈ jTB := jtb (List.mem_of_getElem? (i := 293) (by decide +kernel)) (by decide +kernel)
theorem kv_295 : Cond.fieldLink "PrivateViews$State" 34 "PrivateViews$State" "draft" "LPrivateViews$Edit;" ∈ jTB := jtb (List.mem_of_getElem? (i := 295) (by decide +kernel)) (by decide +kernel)
theorem kv_305 : Cond.classLink "PrivateViews" 30 "PrivateViews$Questions" ∈ jTB := jtb (List.mem_of_getElem? (i := 305) (by decide +kernel)) (by decide +kernel)
theorem kv_306 : Cond.instantiable "PrivateViews$Questions" 7 ∈ jTB := jtb (List.mem_of_getElem? (i := 306) (by decide +kernel)) (by decide +kernel)
theorem kv_308 : Cond.instanceMethod ⟨"PrivateViews$Questions", "<init>", "()V"⟩ ∈ jTB := jtb (List.mem_of_getElem? (i := 308) (by decide +kernel)) (by decide +kernel)
theorem kv_309 : Cond.code ⟨"PrivateViews$Questions", "<init>", "()V"⟩ prog_6_method_1_code 1 none ∈ jTB := jtb (List.mem_of_getElem? (i := 309) (by decide +kernel)) (by decide +kernel)
theorem kv_310 : Cond.methodLink "PrivateViews$Questions" 3 ⟨"java/lang/Object", "<init>", "()V"⟩ ∈ jTB := jtb (List.mem_of_getElem? (i := 310) (by decide +kernel)) (by decide +kernel)
theorem kv_311 : Cond.classLink "PrivateViews$Questions" 9 "PrivateViews$RowList" ∈ jTB := jtb (List.mem_of_getElem? (i := 311) (by decide +kernel)) (by decide +kernel)
theorem kv_313 : Cond.fieldLink "PrivateViews$Questions" 12 "PrivateViews$Questions" "fresh" "LPrivateViews$RowList;" ∈ jTB := jtb (List.mem_of_getElem? (i := 313) (by decide +kernel)) (by decide +kernel)
theorem kv_314 : Cond.fieldLink "PrivateViews$Questions" 18 "PrivateViews$Questions" "ranks" "[I" ∈ jTB := jtb (List.mem_of_getElem? (i := 314) (by decide +kernel)) (by decide +kernel)
theorem kv_315 : Cond.fieldLink "PrivateViews$Questions" 22 "PrivateViews$Questions" "longest" "[I" ∈ jTB := jtb (List.mem_of_getElem? (i := 315) (by decide +kernel)) (by decide +kernel)
theorem kv_316 : Cond.fieldLink "PrivateViews$Questions" 25 "PrivateViews$Questions" "sorted" "[I" ∈ jTB := jtb (List.mem_of_getElem? (i := 316) (by decide +kernel)) (by decide +kernel)
theorem kv_336 : Cond.fieldLink "PrivateViews" 10 "PrivateViews" "reader" "LPrivateViews$Reader;" ∈ jTB := jtb (List.mem_of_getElem? (i := 336) (by decide +kernel)) (by decide +kernel)
theorem kv_337 : Cond.fieldLink "PrivateViews" 19 "PrivateViews" "texts" "LPrivateViews$Texts;" ∈ jTB := jtb (List.mem_of_getElem? (i := 337) (by decide +kernel)) (by decide +kernel)
theorem kv_338 : Cond.fieldLink "PrivateViews" 26 "PrivateViews" "now" "LPrivateViews$State;" ∈ jTB := jtb (List.mem_of_getElem? (i := 338) (by decide +kernel)) (by decide +kernel)
theorem kv_339 : Cond.fieldLink "PrivateViews" 33 "PrivateViews" "questions" "LPrivateViews$Questions;" ∈ jTB := jtb (List.mem_of_getElem? (i := 339) (by decide +kernel)) (by decide +kernel)
theorem kv_1472 : Cond.methodLink "PrivateViewsModel" 7 ⟨"java/lang/Object", "<init>", "()V"⟩ ∈ jTB := jtb (List.mem_of_getElem? (i := 1472) (by decide +kernel)) (by decide +kernel)
theorem kv_1474 : Cond.fieldLink "PrivateViewsModel" 13 "PrivateViewsModel" "world" "[I" ∈ jTB := jtb (List.mem_of_getElem? (i := 1474) (by decide +kernel)) (by decide +kernel)
theorem kv_1475 : Cond.fieldLink "PrivateViewsModel" 17 "PrivateViewsModel" "image" "[I" ∈ jTB := jtb (List.mem_of_getElem? (i := 1475) (by decide +kernel)) (by decide +kernel)
theorem kv_1476 : Cond.fieldLink "PrivateViewsModel" 20 "PrivateViewsModel" "earlier" "[I" ∈ jTB := jtb (List.mem_of_getElem? (i := 1476) (by decide +kernel)) (by decide +kernel)
theorem kv_1478 : Cond.fieldLink "PrivateViewsModel" 23 "PrivateViewsModel" "tape" "[B" ∈ jTB := jtb (List.mem_of_getElem? (i := 1478) (by decide +kernel)) (by decide +kernel)
theorem kv_1484 : Cond.fieldLink "PrivateViewsModel" 27 "PrivateViewsModel" "faultAt" "I" ∈ jTB := jtb (List.mem_of_getElem? (i := 1484) (by decide +kernel)) (by decide +kernel)
theorem kv_1485 : Cond.fieldLink "PrivateViewsModel" 30 "PrivateViewsModel" "five" "[I" ∈ jTB := jtb (List.mem_of_getElem? (i := 1485) (by decide +kernel)) (by decide +kernel)
theorem kv_1486 : Cond.fieldLink "PrivateViewsModel" 33 "PrivateViewsModel" "fresh" "[I" ∈ jTB := jtb (List.mem_of_getElem? (i := 1486) (by decide +kernel)) (by decide +kernel)
theorem kv_1487 : Cond.fieldLink "PrivateViewsModel" 36 "PrivateViewsModel" "draft" "[I" ∈ jTB := jtb (List.mem_of_getElem? (i := 1487) (by decide +kernel)) (by decide +kernel)
theorem kv_1488 : Cond.fieldLink "PrivateViewsModel" 39 "PrivateViewsModel" "grid" "[I" ∈ jTB := jtb (List.mem_of_getElem? (i := 1488) (by decide +kernel)) (by decide +kernel)
theorem kv_1490 : Cond.fieldLink "PrivateViewsModel" 42 "PrivateViewsModel" "rising" "[I" ∈ jTB := jtb (List.mem_of_getElem? (i := 1490) (by decide +kernel)) (by decide +kernel)
theorem kv_1491 : Cond.fieldLink "PrivateViewsModel" 45 "PrivateViewsModel" "tried" "[I" ∈ jTB := jtb (List.mem_of_getElem? (i := 1491) (by decide +kernel)) (by decide +kernel)
theorem kz_38 : Cond.methodLinkNest "PrivateViews" 9 ⟨"PrivateViews$Reader", "<init>", "()V"⟩ "PrivateViews" ∈ jNest := jnest (List.mem_of_getElem? (i := 38) (by decide +kernel)) (by decide +kernel)
theorem kz_72 : Cond.methodLinkNest "PrivateViews" 18 ⟨"PrivateViews$Texts", "<init>", "()V"⟩ "PrivateViews" ∈ jNest := jnest (List.mem_of_getElem? (i := 72) (by decide +kernel)) (by decide +kernel)
theorem kz_83 : Cond.arrayOver (.object "PrivateViews$Filter") ∈ jNest := jnest (List.mem_of_getElem? (i := 83) (by decide +kernel)) (by decide +kernel)
theorem kz_85 : Cond.methodLinkNest "PrivateViews$Lens" 21 ⟨"PrivateViews$Filter", "<init>", "()V"⟩ "PrivateViews" ∈ jNest := jnest (List.mem_of_getElem? (i := 85) (by decide +kernel)) (by decide +kernel)
theorem kz_156 : Cond.methodLinkNest "PrivateViews$State" 11 ⟨"PrivateViews$Sheet", "<init>", "()V"⟩ "PrivateViews" ∈ jNest := jnest (List.mem_of_getElem? (i := 156) (by decide +kernel)) (by decide +kernel)
theorem kz_162 : Cond.methodLinkNest "PrivateViews$Sheet" 26 ⟨"PrivateViews$RowList", "<init>", "()V"⟩ "PrivateViews" ∈ jNest := jnest (List.mem_of_getElem? (i := 162) (by decide +kernel)) (by decide +kernel)
theorem kz_211 : Cond.arrayOver (.object "PrivateViews$View") ∈ jNest := jnest (List.mem_of_getElem? (i := 211) (by decide +kernel)) (by decide +kernel)
theorem kz_214 : Cond.methodLinkNest "PrivateViews$State" 26 ⟨"PrivateViews$Log", "<init>", "()V"⟩ "PrivateViews" ∈ jNest := jnest (List.mem_of_getElem? (i := 214) (by decide +kernel)) (by decide +kernel)
theorem kz_231 : Cond.methodLinkNest "PrivateViews$State" 33 ⟨"PrivateViews$Edit", "<init>", "()V"⟩ "PrivateViews" ∈ jNest := jnest (List.mem_of_getElem? (i := 231) (by decide +kernel)) (by decide +kernel)
theorem kz_264 : Cond.methodLinkNest "PrivateViews$View" 20 ⟨"PrivateViews$RowList", "<init>", "()V"⟩ "PrivateViews" ∈ jNest := jnest (List.mem_of_getElem? (i := 264) (by decide +kernel)) (by decide +kernel)
theorem kz_266 : Cond.arrayOver (.object "PrivateViews$Edit") ∈ jNest := jnest (List.mem_of_getElem? (i := 266) (by decide +kernel)) (by decide +kernel)
theorem kz_267 : Cond.methodLinkNest "PrivateViews$View" 31 ⟨"PrivateViews$Edit", "<init>", "()V"⟩ "PrivateViews" ∈ jNest := jnest (List.mem_of_getElem? (i := 267) (by decide +kernel)) (by decide +kernel)
theorem kz_307 : Cond.methodLinkNest "PrivateViews" 32 ⟨"PrivateViews$Questions", "<init>", "()V"⟩ "PrivateViews" ∈ jNest := jnest (List.mem_of_getElem? (i := 307) (by decide +kernel)) (by decide +kernel)
theorem kz_312 : Cond.methodLinkNest "PrivateViews$Questions" 11 ⟨"PrivateViews$RowList", "<init>", "()V"⟩ "PrivateViews" ∈ jNest := jnest (List.mem_of_getElem? (i := 312) (by decide +kernel)) (by decide +kernel)

theorem d_L_sheet_0 : decode method_3_code 0 = .ok (.aload_n 1, 1) := by decide +kernel
theorem d_L_sheet_1 : decode method_3_code 1 = .ok (.iconst 0, 1) := by decide +kernel
theorem d_L_sheet_2 : decode method_3_code 2 = .ok (.aload_n 0, 1) := by decide +kernel
theorem d_L_sheet_3 : decode method_3_code 3 = .ok (.invokevirtual 7, 3) := by decide +kernel
theorem d_L_sheet_6 : decode method_3_code 6 = .ok (.i2l, 1) := by decide +kernel
theorem d_L_sheet_7 : decode method_3_code 7 = .ok (.lastore, 1) := by decide +kernel
theorem d_L_sheet_8 : decode method_3_code 8 = .ok (.goto 9, 3) := by decide +kernel
theorem d_L_sheet_11 : decode method_3_code 11 = .ok (.astore_n 2, 1) := by decide +kernel
theorem d_L_sheet_12 : decode method_3_code 12 = .ok (.iconst 1, 1) := by decide +kernel
theorem d_L_sheet_13 : decode method_3_code 13 = .ok (.ireturn, 1) := by decide +kernel
theorem d_L_sheet_14 : decode method_3_code 14 = .ok (.astore_n 2, 1) := by decide +kernel
theorem d_L_sheet_15 : decode method_3_code 15 = .ok (.iconst 2, 1) := by decide +kernel
theorem d_L_sheet_16 : decode method_3_code 16 = .ok (.ireturn, 1) := by decide +kernel
theorem d_L_sheet_17 : decode method_3_code 17 = .ok (.iconst 0, 1) := by decide +kernel
theorem d_L_sheet_18 : decode method_3_code 18 = .ok (.ireturn, 1) := by decide +kernel
abbrev y_L_sheet : MethodName := ⟨"PrivateViewsLaw", "sheet", "(LPrivateViews;[J)I"⟩
abbrev hh_sheet : List (Nat × Nat × Nat × Nat) := [(0, 8, 11, 13), (0, 8, 14, 15)]
def q_L_sheet : Room := { frames := 10, cells := 1, slots := 6, locals := 233 }
theorem d_L_view_0 : decode method_4_code 0 = .ok (.aload_n 2, 1) := by decide +kernel
theorem d_L_view_1 : decode method_4_code 1 = .ok (.iconst 0, 1) := by decide +kernel
theorem d_L_view_2 : decode method_4_code 2 = .ok (.aload_n 0, 1) := by decide +kernel
theorem d_L_view_3 : decode method_4_code 3 = .ok (.iload_n 1, 1) := by decide +kernel
theorem d_L_view_4 : decode method_4_code 4 = .ok (.invokevirtual 17, 3) := by decide +kernel
theorem d_L_view_7 : decode method_4_code 7 = .ok (.i2l, 1) := by decide +kernel
theorem d_L_view_8 : decode method_4_code 8 = .ok (.lastore, 1) := by decide +kernel
theorem d_L_view_9 : decode method_4_code 9 = .ok (.goto 9, 3) := by decide +kernel
theorem d_L_view_12 : decode method_4_code 12 = .ok (.astore_n 3, 1) := by decide +kernel
theorem d_L_view_13 : decode method_4_code 13 = .ok (.iconst 1, 1) := by decide +kernel
theorem d_L_view_14 : decode method_4_code 14 = .ok (.ireturn, 1) := by decide +kernel
theorem d_L_view_15 : decode method_4_code 15 = .ok (.astore_n 3, 1) := by decide +kernel
theorem d_L_view_16 : decode method_4_code 16 = .ok (.iconst 2, 1) := by decide +kernel
theorem d_L_view_17 : decode method_4_code 17 = .ok (.ireturn, 1) := by decide +kernel
theorem d_L_view_18 : decode method_4_code 18 = .ok (.iconst 0, 1) := by decide +kernel
theorem d_L_view_19 : decode method_4_code 19 = .ok (.ireturn, 1) := by decide +kernel
abbrev y_L_view : MethodName := ⟨"PrivateViewsLaw", "view", "(LPrivateViews;I[J)I"⟩
abbrev hh_view : List (Nat × Nat × Nat × Nat) := [(0, 9, 12, 21), (0, 9, 15, 13)]
def q_L_view : Room := { frames := 11, cells := 2, slots := 12, locals := 261 }
theorem d_L_kind_0 : decode method_5_code 0 = .ok (.aload_n 2, 1) := by decide +kernel
theorem d_L_kind_1 : decode method_5_code 1 = .ok (.iconst 0, 1) := by decide +kernel
theorem d_L_kind_2 : decode method_5_code 2 = .ok (.aload_n 0, 1) := by decide +kernel
theorem d_L_kind_3 : decode method_5_code 3 = .ok (.iload_n 1, 1) := by decide +kernel
theorem d_L_kind_4 : decode method_5_code 4 = .ok (.invokevirtual 23, 3) := by decide +kernel
theorem d_L_kind_7 : decode method_5_code 7 = .ok (.i2l, 1) := by decide +kernel
theorem d_L_kind_8 : decode method_5_code 8 = .ok (.lastore, 1) := by decide +kernel
theorem d_L_kind_9 : decode method_5_code 9 = .ok (.goto 6, 3) := by decide +kernel
theorem d_L_kind_12 : decode method_5_code 12 = .ok (.astore_n 3, 1) := by decide +kernel
theorem d_L_kind_13 : decode method_5_code 13 = .ok (.iconst 1, 1) := by decide +kernel
theorem d_L_kind_14 : decode method_5_code 14 = .ok (.ireturn, 1) := by decide +kernel
theorem d_L_kind_15 : decode method_5_code 15 = .ok (.iconst 0, 1) := by decide +kernel
theorem d_L_kind_16 : decode method_5_code 16 = .ok (.ireturn, 1) := by decide +kernel
abbrev y_L_kind : MethodName := ⟨"PrivateViewsLaw", "kind", "(LPrivateViews;I[J)I"⟩
abbrev hh_kind : List (Nat × Nat × Nat × Nat) := [(0, 9, 12, 21)]
def q_L_kind : Room := { frames := 8, cells := 1, slots := 6, locals := 131 }
theorem d_L_cell_0 : decode method_6_code 0 = .ok (.aload_n 3, 1) := by decide +kernel
theorem d_L_cell_1 : decode method_6_code 1 = .ok (.iconst 0, 1) := by decide +kernel
theorem d_L_cell_2 : decode method_6_code 2 = .ok (.aload_n 0, 1) := by decide +kernel
theorem d_L_cell_3 : decode method_6_code 3 = .ok (.iload_n 1, 1) := by decide +kernel
theorem d_L_cell_4 : decode method_6_code 4 = .ok (.iload_n 2, 1) := by decide +kernel
theorem d_L_cell_5 : decode method_6_code 5 = .ok (.invokevirtual 26, 3) := by decide +kernel
theorem d_L_cell_8 : decode method_6_code 8 = .ok (.i2l, 1) := by decide +kernel
theorem d_L_cell_9 : decode method_6_code 9 = .ok (.lastore, 1) := by decide +kernel
theorem d_L_cell_10 : decode method_6_code 10 = .ok (.goto 7, 3) := by decide +kernel
theorem d_L_cell_13 : decode method_6_code 13 = .ok (.astore 4, 2) := by decide +kernel
theorem d_L_cell_15 : decode method_6_code 15 = .ok (.iconst 1, 1) := by decide +kernel
theorem d_L_cell_16 : decode method_6_code 16 = .ok (.ireturn, 1) := by decide +kernel
theorem d_L_cell_17 : decode method_6_code 17 = .ok (.iconst 0, 1) := by decide +kernel
theorem d_L_cell_18 : decode method_6_code 18 = .ok (.ireturn, 1) := by decide +kernel
abbrev y_L_cell : MethodName := ⟨"PrivateViewsLaw", "cell", "(LPrivateViews;II[J)I"⟩
abbrev hh_cell : List (Nat × Nat × Nat × Nat) := [(0, 10, 13, 21)]
def q_L_cell : Room := { frames := 8, cells := 2, slots := 12, locals := 134 }
theorem d_L_row_0 : decode method_7_code 0 = .ok (.aload_n 3, 1) := by decide +kernel
theorem d_L_row_1 : decode method_7_code 1 = .ok (.iconst 0, 1) := by decide +kernel
theorem d_L_row_2 : decode method_7_code 2 = .ok (.aload_n 0, 1) := by decide +kernel
theorem d_L_row_3 : decode method_7_code 3 = .ok (.iload_n 1, 1) := by decide +kernel
theorem d_L_row_4 : decode method_7_code 4 = .ok (.iload_n 2, 1) := by decide +kernel
theorem d_L_row_5 : decode method_7_code 5 = .ok (.invokevirtual 30, 3) := by decide +kernel
theorem d_L_row_8 : decode method_7_code 8 = .ok (.i2l, 1) := by decide +kernel
theorem d_L_row_9 : decode method_7_code 9 = .ok (.lastore, 1) := by decide +kernel
theorem d_L_row_10 : decode method_7_code 10 = .ok (.goto 7, 3) := by decide +kernel
theorem d_L_row_13 : decode method_7_code 13 = .ok (.astore 4, 2) := by decide +kernel
theorem d_L_row_15 : decode method_7_code 15 = .ok (.iconst 1, 1) := by decide +kernel
theorem d_L_row_16 : decode method_7_code 16 = .ok (.ireturn, 1) := by decide +kernel
theorem d_L_row_17 : decode method_7_code 17 = .ok (.iconst 0, 1) := by decide +kernel
theorem d_L_row_18 : decode method_7_code 18 = .ok (.ireturn, 1) := by decide +kernel
abbrev y_L_row : MethodName := ⟨"PrivateViewsLaw", "row", "(LPrivateViews;II[J)I"⟩
abbrev hh_row : List (Nat × Nat × Nat × Nat) := [(0, 10, 13, 21)]
def q_L_row : Room := { frames := 8, cells := 1, slots := 6, locals := 132 }
theorem d_L_place_0 : decode method_8_code 0 = .ok (.aload_n 3, 1) := by decide +kernel
theorem d_L_place_1 : decode method_8_code 1 = .ok (.iconst 0, 1) := by decide +kernel
theorem d_L_place_2 : decode method_8_code 2 = .ok (.aload_n 0, 1) := by decide +kernel
theorem d_L_place_3 : decode method_8_code 3 = .ok (.iload_n 1, 1) := by decide +kernel
theorem d_L_place_4 : decode method_8_code 4 = .ok (.iload_n 2, 1) := by decide +kernel
theorem d_L_place_5 : decode method_8_code 5 = .ok (.invokevirtual 33, 3) := by decide +kernel
theorem d_L_place_8 : decode method_8_code 8 = .ok (.i2l, 1) := by decide +kernel
theorem d_L_place_9 : decode method_8_code 9 = .ok (.lastore, 1) := by decide +kernel
theorem d_L_place_10 : decode method_8_code 10 = .ok (.goto 7, 3) := by decide +kernel
theorem d_L_place_13 : decode method_8_code 13 = .ok (.astore 4, 2) := by decide +kernel
theorem d_L_place_15 : decode method_8_code 15 = .ok (.iconst 1, 1) := by decide +kernel
theorem d_L_place_16 : decode method_8_code 16 = .ok (.ireturn, 1) := by decide +kernel
theorem d_L_place_17 : decode method_8_code 17 = .ok (.iconst 0, 1) := by decide +kernel
theorem d_L_place_18 : decode method_8_code 18 = .ok (.ireturn, 1) := by decide +kernel
abbrev y_L_place : MethodName := ⟨"PrivateViewsLaw", "place", "(LPrivateViews;II[J)I"⟩
abbrev hh_place : List (Nat × Nat × Nat × Nat) := [(0, 10, 13, 21)]
def q_L_place : Room := { frames := 8, cells := 2, slots := 12, locals := 134 }
theorem d_L_about_0 : decode method_9_code 0 = .ok (.aload_n 3, 1) := by decide +kernel
theorem d_L_about_1 : decode method_9_code 1 = .ok (.iconst 0, 1) := by decide +kernel
theorem d_L_about_2 : decode method_9_code 2 = .ok (.aload_n 0, 1) := by decide +kernel
theorem d_L_about_3 : decode method_9_code 3 = .ok (.iload_n 1, 1) := by decide +kernel
theorem d_L_about_4 : decode method_9_code 4 = .ok (.iload_n 2, 1) := by decide +kernel
theorem d_L_about_5 : decode method_9_code 5 = .ok (.invokevirtual 36, 3) := by decide +kernel
theorem d_L_about_8 : decode method_9_code 8 = .ok (.i2l, 1) := by decide +kernel
theorem d_L_about_9 : decode method_9_code 9 = .ok (.lastore, 1) := by decide +kernel
theorem d_L_about_10 : decode method_9_code 10 = .ok (.goto 11, 3) := by decide +kernel
theorem d_L_about_13 : decode method_9_code 13 = .ok (.astore 4, 2) := by decide +kernel
theorem d_L_about_15 : decode method_9_code 15 = .ok (.iconst 1, 1) := by decide +kernel
theorem d_L_about_16 : decode method_9_code 16 = .ok (.ireturn, 1) := by decide +kernel
theorem d_L_about_17 : decode method_9_code 17 = .ok (.astore 4, 2) := by decide +kernel
theorem d_L_about_19 : decode method_9_code 19 = .ok (.iconst 2, 1) := by decide +kernel
theorem d_L_about_20 : decode method_9_code 20 = .ok (.ireturn, 1) := by decide +kernel
theorem d_L_about_21 : decode method_9_code 21 = .ok (.iconst 0, 1) := by decide +kernel
theorem d_L_about_22 : decode method_9_code 22 = .ok (.ireturn, 1) := by decide +kernel
abbrev y_L_about : MethodName := ⟨"PrivateViewsLaw", "about", "(LPrivateViews;II[J)I"⟩
abbrev hh_about : List (Nat × Nat × Nat × Nat) := [(0, 10, 13, 21), (0, 10, 17, 39)]
def q_L_about : Room := { frames := 8, cells := 2, slots := 12, locals := 133 }
theorem d_L_sorts_0 : decode method_10_code 0 = .ok (.aload_n 3, 1) := by decide +kernel
theorem d_L_sorts_1 : decode method_10_code 1 = .ok (.iconst 0, 1) := by decide +kernel
theorem d_L_sorts_2 : decode method_10_code 2 = .ok (.aload_n 0, 1) := by decide +kernel
theorem d_L_sorts_3 : decode method_10_code 3 = .ok (.iload_n 1, 1) := by decide +kernel
theorem d_L_sorts_4 : decode method_10_code 4 = .ok (.iload_n 2, 1) := by decide +kernel
theorem d_L_sorts_5 : decode method_10_code 5 = .ok (.invokevirtual 41, 3) := by decide +kernel
theorem d_L_sorts_8 : decode method_10_code 8 = .ok (.i2l, 1) := by decide +kernel
theorem d_L_sorts_9 : decode method_10_code 9 = .ok (.lastore, 1) := by decide +kernel
theorem d_L_sorts_10 : decode method_10_code 10 = .ok (.goto 7, 3) := by decide +kernel
theorem d_L_sorts_13 : decode method_10_code 13 = .ok (.astore 4, 2) := by decide +kernel
theorem d_L_sorts_15 : decode method_10_code 15 = .ok (.iconst 1, 1) := by decide +kernel
theorem d_L_sorts_16 : decode method_10_code 16 = .ok (.ireturn, 1) := by decide +kernel
theorem d_L_sorts_17 : decode method_10_code 17 = .ok (.iconst 0, 1) := by decide +kernel
theorem d_L_sorts_18 : decode method_10_code 18 = .ok (.ireturn, 1) := by decide +kernel
abbrev y_L_sorts : MethodName := ⟨"PrivateViewsLaw", "sorts", "(LPrivateViews;II[J)I"⟩
abbrev hh_sorts : List (Nat × Nat × Nat × Nat) := [(0, 10, 13, 21)]
def q_L_sorts : Room := { frames := 8, cells := 1, slots := 6, locals := 132 }
theorem d_L_set_0 : decode method_11_code 0 = .ok (.aload 5, 2) := by decide +kernel
theorem d_L_set_2 : decode method_11_code 2 = .ok (.iconst 0, 1) := by decide +kernel
theorem d_L_set_3 : decode method_11_code 3 = .ok (.aload_n 0, 1) := by decide +kernel
theorem d_L_set_4 : decode method_11_code 4 = .ok (.iload_n 1, 1) := by decide +kernel
theorem d_L_set_5 : decode method_11_code 5 = .ok (.iload_n 2, 1) := by decide +kernel
theorem d_L_set_6 : decode method_11_code 6 = .ok (.iload_n 3, 1) := by decide +kernel
theorem d_L_set_7 : decode method_11_code 7 = .ok (.iload 4, 2) := by decide +kernel
theorem d_L_set_9 : decode method_11_code 9 = .ok (.invokevirtual 44, 3) := by decide +kernel
theorem d_L_set_12 : decode method_11_code 12 = .ok (.i2l, 1) := by decide +kernel
theorem d_L_set_13 : decode method_11_code 13 = .ok (.lastore, 1) := by decide +kernel
theorem d_L_set_14 : decode method_11_code 14 = .ok (.goto 15, 3) := by decide +kernel
theorem d_L_set_17 : decode method_11_code 17 = .ok (.astore 6, 2) := by decide +kernel
theorem d_L_set_19 : decode method_11_code 19 = .ok (.iconst 1, 1) := by decide +kernel
theorem d_L_set_20 : decode method_11_code 20 = .ok (.ireturn, 1) := by decide +kernel
theorem d_L_set_21 : decode method_11_code 21 = .ok (.astore 6, 2) := by decide +kernel
theorem d_L_set_23 : decode method_11_code 23 = .ok (.iconst 2, 1) := by decide +kernel
theorem d_L_set_24 : decode method_11_code 24 = .ok (.ireturn, 1) := by decide +kernel
theorem d_L_set_25 : decode method_11_code 25 = .ok (.astore 6, 2) := by decide +kernel
theorem d_L_set_27 : decode method_11_code 27 = .ok (.iconst 3, 1) := by decide +kernel
theorem d_L_set_28 : decode method_11_code 28 = .ok (.ireturn, 1) := by decide +kernel
theorem d_L_set_29 : decode method_11_code 29 = .ok (.iconst 0, 1) := by decide +kernel
theorem d_L_set_30 : decode method_11_code 30 = .ok (.ireturn, 1) := by decide +kernel
abbrev y_L_set : MethodName := ⟨"PrivateViewsLaw", "set", "(LPrivateViews;IIII[J)I"⟩
abbrev hh_set : List (Nat × Nat × Nat × Nat) := [(0, 14, 17, 21), (0, 14, 21, 48), (0, 14, 25, 13)]
def q_L_set : Room := { frames := 8, cells := 5, slots := 30, locals := 173 }
theorem d_L_clear_0 : decode method_12_code 0 = .ok (.aload 4, 2) := by decide +kernel
theorem d_L_clear_2 : decode method_12_code 2 = .ok (.iconst 0, 1) := by decide +kernel
theorem d_L_clear_3 : decode method_12_code 3 = .ok (.aload_n 0, 1) := by decide +kernel
theorem d_L_clear_4 : decode method_12_code 4 = .ok (.iload_n 1, 1) := by decide +kernel
theorem d_L_clear_5 : decode method_12_code 5 = .ok (.iload_n 2, 1) := by decide +kernel
theorem d_L_clear_6 : decode method_12_code 6 = .ok (.iload_n 3, 1) := by decide +kernel
theorem d_L_clear_7 : decode method_12_code 7 = .ok (.invokevirtual 50, 3) := by decide +kernel
theorem d_L_clear_10 : decode method_12_code 10 = .ok (.i2l, 1) := by decide +kernel
theorem d_L_clear_11 : decode method_12_code 11 = .ok (.lastore, 1) := by decide +kernel
theorem d_L_clear_12 : decode method_12_code 12 = .ok (.goto 11, 3) := by decide +kernel
theorem d_L_clear_15 : decode method_12_code 15 = .ok (.astore 5, 2) := by decide +kernel
theorem d_L_clear_17 : decode method_12_code 17 = .ok (.iconst 1, 1) := by decide +kernel
theorem d_L_clear_18 : decode method_12_code 18 = .ok (.ireturn, 1) := by decide +kernel
theorem d_L_clear_19 : decode method_12_code 19 = .ok (.astore 5, 2) := by decide +kernel
theorem d_L_clear_21 : decode method_12_code 21 = .ok (.iconst 2, 1) := by decide +kernel
theorem d_L_clear_22 : decode method_12_code 22 = .ok (.ireturn, 1) := by decide +kernel
theorem d_L_clear_23 : decode method_12_code 23 = .ok (.iconst 0, 1) := by decide +kernel
theorem d_L_clear_24 : decode method_12_code 24 = .ok (.ireturn, 1) := by decide +kernel
abbrev y_L_clear : MethodName := ⟨"PrivateViewsLaw", "clear", "(LPrivateViews;III[J)I"⟩
abbrev hh_clear : List (Nat × Nat × Nat × Nat) := [(0, 12, 15, 21), (0, 12, 19, 48)]
def q_L_clear : Room := { frames := 8, cells := 4, slots := 24, locals := 172 }
theorem d_L_fill_0 : decode method_13_code 0 = .ok (.aload 5, 2) := by decide +kernel
theorem d_L_fill_2 : decode method_13_code 2 = .ok (.iconst 0, 1) := by decide +kernel
theorem d_L_fill_3 : decode method_13_code 3 = .ok (.aload_n 0, 1) := by decide +kernel
theorem d_L_fill_4 : decode method_13_code 4 = .ok (.iload_n 1, 1) := by decide +kernel
theorem d_L_fill_5 : decode method_13_code 5 = .ok (.iload_n 2, 1) := by decide +kernel
theorem d_L_fill_6 : decode method_13_code 6 = .ok (.iload_n 3, 1) := by decide +kernel
theorem d_L_fill_7 : decode method_13_code 7 = .ok (.iload 4, 2) := by decide +kernel
theorem d_L_fill_9 : decode method_13_code 9 = .ok (.invokevirtual 54, 3) := by decide +kernel
theorem d_L_fill_12 : decode method_13_code 12 = .ok (.i2l, 1) := by decide +kernel
theorem d_L_fill_13 : decode method_13_code 13 = .ok (.lastore, 1) := by decide +kernel
theorem d_L_fill_14 : decode method_13_code 14 = .ok (.goto 15, 3) := by decide +kernel
theorem d_L_fill_17 : decode method_13_code 17 = .ok (.astore 6, 2) := by decide +kernel
theorem d_L_fill_19 : decode method_13_code 19 = .ok (.iconst 1, 1) := by decide +kernel
theorem d_L_fill_20 : decode method_13_code 20 = .ok (.ireturn, 1) := by decide +kernel
theorem d_L_fill_21 : decode method_13_code 21 = .ok (.astore 6, 2) := by decide +kernel
theorem d_L_fill_23 : decode method_13_code 23 = .ok (.iconst 2, 1) := by decide +kernel
theorem d_L_fill_24 : decode method_13_code 24 = .ok (.ireturn, 1) := by decide +kernel
theorem d_L_fill_25 : decode method_13_code 25 = .ok (.astore 6, 2) := by decide +kernel
theorem d_L_fill_27 : decode method_13_code 27 = .ok (.iconst 3, 1) := by decide +kernel
theorem d_L_fill_28 : decode method_13_code 28 = .ok (.ireturn, 1) := by decide +kernel
theorem d_L_fill_29 : decode method_13_code 29 = .ok (.iconst 0, 1) := by decide +kernel
theorem d_L_fill_30 : decode method_13_code 30 = .ok (.ireturn, 1) := by decide +kernel
abbrev y_L_fill : MethodName := ⟨"PrivateViewsLaw", "fill", "(LPrivateViews;IIII[J)I"⟩
abbrev hh_fill : List (Nat × Nat × Nat × Nat) := [(0, 14, 17, 21), (0, 14, 21, 13), (0, 14, 25, 48)]
def q_L_fill : Room := { frames := 8, cells := 5, slots := 30, locals := 151 }
theorem d_L_replace_0 : decode method_14_code 0 = .ok (.aload 5, 2) := by decide +kernel
theorem d_L_replace_2 : decode method_14_code 2 = .ok (.iconst 0, 1) := by decide +kernel
theorem d_L_replace_3 : decode method_14_code 3 = .ok (.aload_n 0, 1) := by decide +kernel
theorem d_L_replace_4 : decode method_14_code 4 = .ok (.iload_n 1, 1) := by decide +kernel
theorem d_L_replace_5 : decode method_14_code 5 = .ok (.iload_n 2, 1) := by decide +kernel
theorem d_L_replace_6 : decode method_14_code 6 = .ok (.iload_n 3, 1) := by decide +kernel
theorem d_L_replace_7 : decode method_14_code 7 = .ok (.iload 4, 2) := by decide +kernel
theorem d_L_replace_9 : decode method_14_code 9 = .ok (.invokevirtual 57, 3) := by decide +kernel
theorem d_L_replace_12 : decode method_14_code 12 = .ok (.i2l, 1) := by decide +kernel
theorem d_L_replace_13 : decode method_14_code 13 = .ok (.lastore, 1) := by decide +kernel
theorem d_L_replace_14 : decode method_14_code 14 = .ok (.goto 15, 3) := by decide +kernel
theorem d_L_replace_17 : decode method_14_code 17 = .ok (.astore 6, 2) := by decide +kernel
theorem d_L_replace_19 : decode method_14_code 19 = .ok (.iconst 1, 1) := by decide +kernel
theorem d_L_replace_20 : decode method_14_code 20 = .ok (.ireturn, 1) := by decide +kernel
theorem d_L_replace_21 : decode method_14_code 21 = .ok (.astore 6, 2) := by decide +kernel
theorem d_L_replace_23 : decode method_14_code 23 = .ok (.iconst 2, 1) := by decide +kernel
theorem d_L_replace_24 : decode method_14_code 24 = .ok (.ireturn, 1) := by decide +kernel
theorem d_L_replace_25 : decode method_14_code 25 = .ok (.astore 6, 2) := by decide +kernel
theorem d_L_replace_27 : decode method_14_code 27 = .ok (.iconst 3, 1) := by decide +kernel
theorem d_L_replace_28 : decode method_14_code 28 = .ok (.ireturn, 1) := by decide +kernel
theorem d_L_replace_29 : decode method_14_code 29 = .ok (.iconst 0, 1) := by decide +kernel
theorem d_L_replace_30 : decode method_14_code 30 = .ok (.ireturn, 1) := by decide +kernel
abbrev y_L_replace : MethodName := ⟨"PrivateViewsLaw", "replace", "(LPrivateViews;IIII[J)I"⟩
abbrev hh_replace : List (Nat × Nat × Nat × Nat) := [(0, 14, 17, 21), (0, 14, 21, 48), (0, 14, 25, 13)]
def q_L_replace : Room := { frames := 8, cells := 4, slots := 24, locals := 150 }
theorem d_L_swap_0 : decode method_15_code 0 = .ok (.aload 5, 2) := by decide +kernel
theorem d_L_swap_2 : decode method_15_code 2 = .ok (.iconst 0, 1) := by decide +kernel
theorem d_L_swap_3 : decode method_15_code 3 = .ok (.aload_n 0, 1) := by decide +kernel
theorem d_L_swap_4 : decode method_15_code 4 = .ok (.iload_n 1, 1) := by decide +kernel
theorem d_L_swap_5 : decode method_15_code 5 = .ok (.iload_n 2, 1) := by decide +kernel
theorem d_L_swap_6 : decode method_15_code 6 = .ok (.iload_n 3, 1) := by decide +kernel
theorem d_L_swap_7 : decode method_15_code 7 = .ok (.iload 4, 2) := by decide +kernel
theorem d_L_swap_9 : decode method_15_code 9 = .ok (.invokevirtual 60, 3) := by decide +kernel
theorem d_L_swap_12 : decode method_15_code 12 = .ok (.i2l, 1) := by decide +kernel
theorem d_L_swap_13 : decode method_15_code 13 = .ok (.lastore, 1) := by decide +kernel
theorem d_L_swap_14 : decode method_15_code 14 = .ok (.goto 15, 3) := by decide +kernel
theorem d_L_swap_17 : decode method_15_code 17 = .ok (.astore 6, 2) := by decide +kernel
theorem d_L_swap_19 : decode method_15_code 19 = .ok (.iconst 1, 1) := by decide +kernel
theorem d_L_swap_20 : decode method_15_code 20 = .ok (.ireturn, 1) := by decide +kernel
theorem d_L_swap_21 : decode method_15_code 21 = .ok (.astore 6, 2) := by decide +kernel
theorem d_L_swap_23 : decode method_15_code 23 = .ok (.iconst 2, 1) := by decide +kernel
theorem d_L_swap_24 : decode method_15_code 24 = .ok (.ireturn, 1) := by decide +kernel
theorem d_L_swap_25 : decode method_15_code 25 = .ok (.astore 6, 2) := by decide +kernel
theorem d_L_swap_27 : decode method_15_code 27 = .ok (.iconst 3, 1) := by decide +kernel
theorem d_L_swap_28 : decode method_15_code 28 = .ok (.ireturn, 1) := by decide +kernel
theorem d_L_swap_29 : decode method_15_code 29 = .ok (.iconst 0, 1) := by decide +kernel
theorem d_L_swap_30 : decode method_15_code 30 = .ok (.ireturn, 1) := by decide +kernel
abbrev y_L_swap : MethodName := ⟨"PrivateViewsLaw", "swap", "(LPrivateViews;IIII[J)I"⟩
abbrev hh_swap : List (Nat × Nat × Nat × Nat) := [(0, 14, 17, 21), (0, 14, 21, 13), (0, 14, 25, 48)]
def q_L_swap : Room := { frames := 8, cells := 5, slots := 30, locals := 152 }
theorem d_L_paste_0 : decode method_16_code 0 = .ok (.aload 4, 2) := by decide +kernel
theorem d_L_paste_2 : decode method_16_code 2 = .ok (.iconst 0, 1) := by decide +kernel
theorem d_L_paste_3 : decode method_16_code 3 = .ok (.aload_n 0, 1) := by decide +kernel
theorem d_L_paste_4 : decode method_16_code 4 = .ok (.iload_n 1, 1) := by decide +kernel
theorem d_L_paste_5 : decode method_16_code 5 = .ok (.iload_n 2, 1) := by decide +kernel
theorem d_L_paste_6 : decode method_16_code 6 = .ok (.iload_n 3, 1) := by decide +kernel
theorem d_L_paste_7 : decode method_16_code 7 = .ok (.invokevirtual 63, 3) := by decide +kernel
theorem d_L_paste_10 : decode method_16_code 10 = .ok (.i2l, 1) := by decide +kernel
theorem d_L_paste_11 : decode method_16_code 11 = .ok (.lastore, 1) := by decide +kernel
theorem d_L_paste_12 : decode method_16_code 12 = .ok (.goto 19, 3) := by decide +kernel
theorem d_L_paste_15 : decode method_16_code 15 = .ok (.astore 5, 2) := by decide +kernel
theorem d_L_paste_17 : decode method_16_code 17 = .ok (.iconst 1, 1) := by decide +kernel
theorem d_L_paste_18 : decode method_16_code 18 = .ok (.ireturn, 1) := by decide +kernel
theorem d_L_paste_19 : decode method_16_code 19 = .ok (.astore 5, 2) := by decide +kernel
theorem d_L_paste_21 : decode method_16_code 21 = .ok (.iconst 2, 1) := by decide +kernel
theorem d_L_paste_22 : decode method_16_code 22 = .ok (.ireturn, 1) := by decide +kernel
theorem d_L_paste_23 : decode method_16_code 23 = .ok (.astore 5, 2) := by decide +kernel
theorem d_L_paste_25 : decode method_16_code 25 = .ok (.iconst 3, 1) := by decide +kernel
theorem d_L_paste_26 : decode method_16_code 26 = .ok (.ireturn, 1) := by decide +kernel
theorem d_L_paste_27 : decode method_16_code 27 = .ok (.astore 5, 2) := by decide +kernel
theorem d_L_paste_29 : decode method_16_code 29 = .ok (.iconst 4, 1) := by decide +kernel
theorem d_L_paste_30 : decode method_16_code 30 = .ok (.ireturn, 1) := by decide +kernel
theorem d_L_paste_31 : decode method_16_code 31 = .ok (.iconst 0, 1) := by decide +kernel
theorem d_L_paste_32 : decode method_16_code 32 = .ok (.ireturn, 1) := by decide +kernel
abbrev y_L_paste : MethodName := ⟨"PrivateViewsLaw", "paste", "(LPrivateViews;III[J)I"⟩
abbrev hh_paste : List (Nat × Nat × Nat × Nat) := [(0, 12, 15, 21), (0, 12, 19, 48), (0, 12, 23, 13), (0, 12, 27, 15)]
def q_L_paste : Room := { frames := 8, cells := 5, slots := 30, locals := 176 }
theorem d_L_add_0 : decode method_17_code 0 = .ok (.aload_n 3, 1) := by decide +kernel
theorem d_L_add_1 : decode method_17_code 1 = .ok (.iconst 0, 1) := by decide +kernel
theorem d_L_add_2 : decode method_17_code 2 = .ok (.aload_n 0, 1) := by decide +kernel
theorem d_L_add_3 : decode method_17_code 3 = .ok (.iload_n 1, 1) := by decide +kernel
theorem d_L_add_4 : decode method_17_code 4 = .ok (.iload_n 2, 1) := by decide +kernel
theorem d_L_add_5 : decode method_17_code 5 = .ok (.invokevirtual 66, 3) := by decide +kernel
theorem d_L_add_8 : decode method_17_code 8 = .ok (.i2l, 1) := by decide +kernel
theorem d_L_add_9 : decode method_17_code 9 = .ok (.lastore, 1) := by decide +kernel
theorem d_L_add_10 : decode method_17_code 10 = .ok (.goto 11, 3) := by decide +kernel
theorem d_L_add_13 : decode method_17_code 13 = .ok (.astore 4, 2) := by decide +kernel
theorem d_L_add_15 : decode method_17_code 15 = .ok (.iconst 1, 1) := by decide +kernel
theorem d_L_add_16 : decode method_17_code 16 = .ok (.ireturn, 1) := by decide +kernel
theorem d_L_add_17 : decode method_17_code 17 = .ok (.astore 4, 2) := by decide +kernel
theorem d_L_add_19 : decode method_17_code 19 = .ok (.iconst 2, 1) := by decide +kernel
theorem d_L_add_20 : decode method_17_code 20 = .ok (.ireturn, 1) := by decide +kernel
theorem d_L_add_21 : decode method_17_code 21 = .ok (.iconst 0, 1) := by decide +kernel
theorem d_L_add_22 : decode method_17_code 22 = .ok (.ireturn, 1) := by decide +kernel
abbrev y_L_add : MethodName := ⟨"PrivateViewsLaw", "add", "(LPrivateViews;II[J)I"⟩
abbrev hh_add : List (Nat × Nat × Nat × Nat) := [(0, 10, 13, 21), (0, 10, 17, 15)]
def q_L_add : Room := { frames := 8, cells := 3, slots := 18, locals := 142 }
theorem d_L_drop_0 : decode method_18_code 0 = .ok (.aload_n 3, 1) := by decide +kernel
theorem d_L_drop_1 : decode method_18_code 1 = .ok (.iconst 0, 1) := by decide +kernel
theorem d_L_drop_2 : decode method_18_code 2 = .ok (.aload_n 0, 1) := by decide +kernel
theorem d_L_drop_3 : decode method_18_code 3 = .ok (.iload_n 1, 1) := by decide +kernel
theorem d_L_drop_4 : decode method_18_code 4 = .ok (.iload_n 2, 1) := by decide +kernel
theorem d_L_drop_5 : decode method_18_code 5 = .ok (.invokevirtual 69, 3) := by decide +kernel
theorem d_L_drop_8 : decode method_18_code 8 = .ok (.i2l, 1) := by decide +kernel
theorem d_L_drop_9 : decode method_18_code 9 = .ok (.lastore, 1) := by decide +kernel
theorem d_L_drop_10 : decode method_18_code 10 = .ok (.goto 7, 3) := by decide +kernel
theorem d_L_drop_13 : decode method_18_code 13 = .ok (.astore 4, 2) := by decide +kernel
theorem d_L_drop_15 : decode method_18_code 15 = .ok (.iconst 1, 1) := by decide +kernel
theorem d_L_drop_16 : decode method_18_code 16 = .ok (.ireturn, 1) := by decide +kernel
theorem d_L_drop_17 : decode method_18_code 17 = .ok (.iconst 0, 1) := by decide +kernel
theorem d_L_drop_18 : decode method_18_code 18 = .ok (.ireturn, 1) := by decide +kernel
abbrev y_L_drop : MethodName := ⟨"PrivateViewsLaw", "drop", "(LPrivateViews;II[J)I"⟩
abbrev hh_drop : List (Nat × Nat × Nat × Nat) := [(0, 10, 13, 21)]
def q_L_drop : Room := { frames := 8, cells := 2, slots := 12, locals := 136 }
theorem d_L_drag_0 : decode method_19_code 0 = .ok (.aload 4, 2) := by decide +kernel
theorem d_L_drag_2 : decode method_19_code 2 = .ok (.iconst 0, 1) := by decide +kernel
theorem d_L_drag_3 : decode method_19_code 3 = .ok (.aload_n 0, 1) := by decide +kernel
theorem d_L_drag_4 : decode method_19_code 4 = .ok (.iload_n 1, 1) := by decide +kernel
theorem d_L_drag_5 : decode method_19_code 5 = .ok (.iload_n 2, 1) := by decide +kernel
theorem d_L_drag_6 : decode method_19_code 6 = .ok (.iload_n 3, 1) := by decide +kernel
theorem d_L_drag_7 : decode method_19_code 7 = .ok (.invokevirtual 72, 3) := by decide +kernel
theorem d_L_drag_10 : decode method_19_code 10 = .ok (.i2l, 1) := by decide +kernel
theorem d_L_drag_11 : decode method_19_code 11 = .ok (.lastore, 1) := by decide +kernel
theorem d_L_drag_12 : decode method_19_code 12 = .ok (.goto 11, 3) := by decide +kernel
theorem d_L_drag_15 : decode method_19_code 15 = .ok (.astore 5, 2) := by decide +kernel
theorem d_L_drag_17 : decode method_19_code 17 = .ok (.iconst 1, 1) := by decide +kernel
theorem d_L_drag_18 : decode method_19_code 18 = .ok (.ireturn, 1) := by decide +kernel
theorem d_L_drag_19 : decode method_19_code 19 = .ok (.astore 5, 2) := by decide +kernel
theorem d_L_drag_21 : decode method_19_code 21 = .ok (.iconst 2, 1) := by decide +kernel
theorem d_L_drag_22 : decode method_19_code 22 = .ok (.ireturn, 1) := by decide +kernel
theorem d_L_drag_23 : decode method_19_code 23 = .ok (.iconst 0, 1) := by decide +kernel
theorem d_L_drag_24 : decode method_19_code 24 = .ok (.ireturn, 1) := by decide +kernel
abbrev y_L_drag : MethodName := ⟨"PrivateViewsLaw", "drag", "(LPrivateViews;III[J)I"⟩
abbrev hh_drag : List (Nat × Nat × Nat × Nat) := [(0, 12, 15, 21), (0, 12, 19, 13)]
def q_L_drag : Room := { frames := 8, cells := 4, slots := 24, locals := 137 }
theorem d_L_refresh_0 : decode method_20_code 0 = .ok (.aload_n 2, 1) := by decide +kernel
theorem d_L_refresh_1 : decode method_20_code 1 = .ok (.iconst 0, 1) := by decide +kernel
theorem d_L_refresh_2 : decode method_20_code 2 = .ok (.aload_n 0, 1) := by decide +kernel
theorem d_L_refresh_3 : decode method_20_code 3 = .ok (.iload_n 1, 1) := by decide +kernel
theorem d_L_refresh_4 : decode method_20_code 4 = .ok (.invokevirtual 75, 3) := by decide +kernel
theorem d_L_refresh_7 : decode method_20_code 7 = .ok (.i2l, 1) := by decide +kernel
theorem d_L_refresh_8 : decode method_20_code 8 = .ok (.lastore, 1) := by decide +kernel
theorem d_L_refresh_9 : decode method_20_code 9 = .ok (.goto 6, 3) := by decide +kernel
theorem d_L_refresh_12 : decode method_20_code 12 = .ok (.astore_n 3, 1) := by decide +kernel
theorem d_L_refresh_13 : decode method_20_code 13 = .ok (.iconst 1, 1) := by decide +kernel
theorem d_L_refresh_14 : decode method_20_code 14 = .ok (.ireturn, 1) := by decide +kernel
theorem d_L_refresh_15 : decode method_20_code 15 = .ok (.iconst 0, 1) := by decide +kernel
theorem d_L_refresh_16 : decode method_20_code 16 = .ok (.ireturn, 1) := by decide +kernel
abbrev y_L_refresh : MethodName := ⟨"PrivateViewsLaw", "refresh", "(LPrivateViews;I[J)I"⟩
abbrev hh_refresh : List (Nat × Nat × Nat × Nat) := [(0, 9, 12, 21)]
def q_L_refresh : Room := { frames := 8, cells := 1, slots := 6, locals := 164 }
theorem d_L_undo_0 : decode method_21_code 0 = .ok (.aload_n 2, 1) := by decide +kernel
theorem d_L_undo_1 : decode method_21_code 1 = .ok (.iconst 0, 1) := by decide +kernel
theorem d_L_undo_2 : decode method_21_code 2 = .ok (.aload_n 0, 1) := by decide +kernel
theorem d_L_undo_3 : decode method_21_code 3 = .ok (.iload_n 1, 1) := by decide +kernel
theorem d_L_undo_4 : decode method_21_code 4 = .ok (.invokevirtual 78, 3) := by decide +kernel
theorem d_L_undo_7 : decode method_21_code 7 = .ok (.i2l, 1) := by decide +kernel
theorem d_L_undo_8 : decode method_21_code 8 = .ok (.lastore, 1) := by decide +kernel
theorem d_L_undo_9 : decode method_21_code 9 = .ok (.goto 9, 3) := by decide +kernel
theorem d_L_undo_12 : decode method_21_code 12 = .ok (.astore_n 3, 1) := by decide +kernel
theorem d_L_undo_13 : decode method_21_code 13 = .ok (.iconst 1, 1) := by decide +kernel
theorem d_L_undo_14 : decode method_21_code 14 = .ok (.ireturn, 1) := by decide +kernel
theorem d_L_undo_15 : decode method_21_code 15 = .ok (.astore_n 3, 1) := by decide +kernel
theorem d_L_undo_16 : decode method_21_code 16 = .ok (.iconst 2, 1) := by decide +kernel
theorem d_L_undo_17 : decode method_21_code 17 = .ok (.ireturn, 1) := by decide +kernel
theorem d_L_undo_18 : decode method_21_code 18 = .ok (.iconst 0, 1) := by decide +kernel
theorem d_L_undo_19 : decode method_21_code 19 = .ok (.ireturn, 1) := by decide +kernel
abbrev y_L_undo : MethodName := ⟨"PrivateViewsLaw", "undo", "(LPrivateViews;I[J)I"⟩
abbrev hh_undo : List (Nat × Nat × Nat × Nat) := [(0, 9, 12, 21), (0, 9, 15, 48)]
def q_L_undo : Room := { frames := 8, cells := 2, slots := 12, locals := 133 }
theorem d_L_fits_0 : decode method_22_code 0 = .ok (.aload_n 3, 1) := by decide +kernel
theorem d_L_fits_1 : decode method_22_code 1 = .ok (.iconst 0, 1) := by decide +kernel
theorem d_L_fits_2 : decode method_22_code 2 = .ok (.aload_n 0, 1) := by decide +kernel
theorem d_L_fits_3 : decode method_22_code 3 = .ok (.iload_n 1, 1) := by decide +kernel
theorem d_L_fits_4 : decode method_22_code 4 = .ok (.iload_n 2, 1) := by decide +kernel
theorem d_L_fits_5 : decode method_22_code 5 = .ok (.invokevirtual 81, 3) := by decide +kernel
theorem d_L_fits_8 : decode method_22_code 8 = .ok (.ifCond .eq 7, 3) := by decide +kernel
theorem d_L_fits_11 : decode method_22_code 11 = .ok (.lconst 1, 1) := by decide +kernel
theorem d_L_fits_12 : decode method_22_code 12 = .ok (.goto 4, 3) := by decide +kernel
theorem d_L_fits_15 : decode method_22_code 15 = .ok (.lconst 0, 1) := by decide +kernel
theorem d_L_fits_16 : decode method_22_code 16 = .ok (.lastore, 1) := by decide +kernel
theorem d_L_fits_17 : decode method_22_code 17 = .ok (.goto 7, 3) := by decide +kernel
theorem d_L_fits_20 : decode method_22_code 20 = .ok (.astore 4, 2) := by decide +kernel
theorem d_L_fits_22 : decode method_22_code 22 = .ok (.iconst 1, 1) := by decide +kernel
theorem d_L_fits_23 : decode method_22_code 23 = .ok (.ireturn, 1) := by decide +kernel
theorem d_L_fits_24 : decode method_22_code 24 = .ok (.iconst 0, 1) := by decide +kernel
theorem d_L_fits_25 : decode method_22_code 25 = .ok (.ireturn, 1) := by decide +kernel
abbrev y_L_fits : MethodName := ⟨"PrivateViewsLaw", "fits", "(LPrivateViews;II[J)I"⟩
abbrev hh_fits : List (Nat × Nat × Nat × Nat) := [(0, 17, 20, 21)]
def q_L_fits : Room := { frames := 8, cells := 2, slots := 12, locals := 139 }
theorem d_L_why_0 : decode method_23_code 0 = .ok (.aload_n 3, 1) := by decide +kernel
theorem d_L_why_1 : decode method_23_code 1 = .ok (.iconst 0, 1) := by decide +kernel
theorem d_L_why_2 : decode method_23_code 2 = .ok (.aload_n 0, 1) := by decide +kernel
theorem d_L_why_3 : decode method_23_code 3 = .ok (.iload_n 1, 1) := by decide +kernel
theorem d_L_why_4 : decode method_23_code 4 = .ok (.iload_n 2, 1) := by decide +kernel
theorem d_L_why_5 : decode method_23_code 5 = .ok (.invokevirtual 85, 3) := by decide +kernel
theorem d_L_why_8 : decode method_23_code 8 = .ok (.i2l, 1) := by decide +kernel
theorem d_L_why_9 : decode method_23_code 9 = .ok (.lastore, 1) := by decide +kernel
theorem d_L_why_10 : decode method_23_code 10 = .ok (.goto 7, 3) := by decide +kernel
theorem d_L_why_13 : decode method_23_code 13 = .ok (.astore 4, 2) := by decide +kernel
theorem d_L_why_15 : decode method_23_code 15 = .ok (.iconst 1, 1) := by decide +kernel
theorem d_L_why_16 : decode method_23_code 16 = .ok (.ireturn, 1) := by decide +kernel
theorem d_L_why_17 : decode method_23_code 17 = .ok (.iconst 0, 1) := by decide +kernel
theorem d_L_why_18 : decode method_23_code 18 = .ok (.ireturn, 1) := by decide +kernel
abbrev y_L_why : MethodName := ⟨"PrivateViewsLaw", "why", "(LPrivateViews;II[J)I"⟩
abbrev hh_why : List (Nat × Nat × Nat × Nat) := [(0, 10, 13, 21)]
def q_L_why : Room := { frames := 8, cells := 2, slots := 12, locals := 134 }
theorem d_L_stale_0 : decode method_24_code 0 = .ok (.aload_n 2, 1) := by decide +kernel
theorem d_L_stale_1 : decode method_24_code 1 = .ok (.iconst 0, 1) := by decide +kernel
theorem d_L_stale_2 : decode method_24_code 2 = .ok (.aload_n 0, 1) := by decide +kernel
theorem d_L_stale_3 : decode method_24_code 3 = .ok (.iload_n 1, 1) := by decide +kernel
theorem d_L_stale_4 : decode method_24_code 4 = .ok (.invokevirtual 88, 3) := by decide +kernel
theorem d_L_stale_7 : decode method_24_code 7 = .ok (.i2l, 1) := by decide +kernel
theorem d_L_stale_8 : decode method_24_code 8 = .ok (.lastore, 1) := by decide +kernel
theorem d_L_stale_9 : decode method_24_code 9 = .ok (.goto 6, 3) := by decide +kernel
theorem d_L_stale_12 : decode method_24_code 12 = .ok (.astore_n 3, 1) := by decide +kernel
theorem d_L_stale_13 : decode method_24_code 13 = .ok (.iconst 1, 1) := by decide +kernel
theorem d_L_stale_14 : decode method_24_code 14 = .ok (.ireturn, 1) := by decide +kernel
theorem d_L_stale_15 : decode method_24_code 15 = .ok (.iconst 0, 1) := by decide +kernel
theorem d_L_stale_16 : decode method_24_code 16 = .ok (.ireturn, 1) := by decide +kernel
abbrev y_L_stale : MethodName := ⟨"PrivateViewsLaw", "stale", "(LPrivateViews;I[J)I"⟩
abbrev hh_stale : List (Nat × Nat × Nat × Nat) := [(0, 9, 12, 21)]
def q_L_stale : Room := { frames := 8, cells := 1, slots := 6, locals := 161 }
theorem d_L_pending_0 : decode method_25_code 0 = .ok (.aload_n 2, 1) := by decide +kernel
theorem d_L_pending_1 : decode method_25_code 1 = .ok (.iconst 0, 1) := by decide +kernel
theorem d_L_pending_2 : decode method_25_code 2 = .ok (.aload_n 0, 1) := by decide +kernel
theorem d_L_pending_3 : decode method_25_code 3 = .ok (.iload_n 1, 1) := by decide +kernel
theorem d_L_pending_4 : decode method_25_code 4 = .ok (.invokevirtual 91, 3) := by decide +kernel
theorem d_L_pending_7 : decode method_25_code 7 = .ok (.i2l, 1) := by decide +kernel
theorem d_L_pending_8 : decode method_25_code 8 = .ok (.lastore, 1) := by decide +kernel
theorem d_L_pending_9 : decode method_25_code 9 = .ok (.goto 6, 3) := by decide +kernel
theorem d_L_pending_12 : decode method_25_code 12 = .ok (.astore_n 3, 1) := by decide +kernel
theorem d_L_pending_13 : decode method_25_code 13 = .ok (.iconst 1, 1) := by decide +kernel
theorem d_L_pending_14 : decode method_25_code 14 = .ok (.ireturn, 1) := by decide +kernel
theorem d_L_pending_15 : decode method_25_code 15 = .ok (.iconst 0, 1) := by decide +kernel
theorem d_L_pending_16 : decode method_25_code 16 = .ok (.ireturn, 1) := by decide +kernel
abbrev y_L_pending : MethodName := ⟨"PrivateViewsLaw", "pending", "(LPrivateViews;I[J)I"⟩
abbrev hh_pending : List (Nat × Nat × Nat × Nat) := [(0, 9, 12, 21)]
def q_L_pending : Room := { frames := 8, cells := 1, slots := 6, locals := 163 }
theorem d_L_rank_0 : decode method_26_code 0 = .ok (.aload_n 3, 1) := by decide +kernel
theorem d_L_rank_1 : decode method_26_code 1 = .ok (.iconst 0, 1) := by decide +kernel
theorem d_L_rank_2 : decode method_26_code 2 = .ok (.aload_n 0, 1) := by decide +kernel
theorem d_L_rank_3 : decode method_26_code 3 = .ok (.iload_n 1, 1) := by decide +kernel
theorem d_L_rank_4 : decode method_26_code 4 = .ok (.iload_n 2, 1) := by decide +kernel
theorem d_L_rank_5 : decode method_26_code 5 = .ok (.invokevirtual 94, 3) := by decide +kernel
theorem d_L_rank_8 : decode method_26_code 8 = .ok (.i2l, 1) := by decide +kernel
theorem d_L_rank_9 : decode method_26_code 9 = .ok (.lastore, 1) := by decide +kernel
theorem d_L_rank_10 : decode method_26_code 10 = .ok (.goto 7, 3) := by decide +kernel
theorem d_L_rank_13 : decode method_26_code 13 = .ok (.astore 4, 2) := by decide +kernel
theorem d_L_rank_15 : decode method_26_code 15 = .ok (.iconst 1, 1) := by decide +kernel
theorem d_L_rank_16 : decode method_26_code 16 = .ok (.ireturn, 1) := by decide +kernel
theorem d_L_rank_17 : decode method_26_code 17 = .ok (.iconst 0, 1) := by decide +kernel
theorem d_L_rank_18 : decode method_26_code 18 = .ok (.ireturn, 1) := by decide +kernel
abbrev y_L_rank : MethodName := ⟨"PrivateViewsLaw", "rank", "(LPrivateViews;II[J)I"⟩
abbrev hh_rank : List (Nat × Nat × Nat × Nat) := [(0, 10, 13, 21)]
def q_L_rank : Room := { frames := 8, cells := 2, slots := 12, locals := 165 }
theorem d_L_moves_0 : decode method_27_code 0 = .ok (.aload_n 2, 1) := by decide +kernel
theorem d_L_moves_1 : decode method_27_code 1 = .ok (.iconst 0, 1) := by decide +kernel
theorem d_L_moves_2 : decode method_27_code 2 = .ok (.aload_n 0, 1) := by decide +kernel
theorem d_L_moves_3 : decode method_27_code 3 = .ok (.iload_n 1, 1) := by decide +kernel
theorem d_L_moves_4 : decode method_27_code 4 = .ok (.invokevirtual 97, 3) := by decide +kernel
theorem d_L_moves_7 : decode method_27_code 7 = .ok (.i2l, 1) := by decide +kernel
theorem d_L_moves_8 : decode method_27_code 8 = .ok (.lastore, 1) := by decide +kernel
theorem d_L_moves_9 : decode method_27_code 9 = .ok (.goto 6, 3) := by decide +kernel
theorem d_L_moves_12 : decode method_27_code 12 = .ok (.astore_n 3, 1) := by decide +kernel
theorem d_L_moves_13 : decode method_27_code 13 = .ok (.iconst 1, 1) := by decide +kernel
theorem d_L_moves_14 : decode method_27_code 14 = .ok (.ireturn, 1) := by decide +kernel
theorem d_L_moves_15 : decode method_27_code 15 = .ok (.iconst 0, 1) := by decide +kernel
theorem d_L_moves_16 : decode method_27_code 16 = .ok (.ireturn, 1) := by decide +kernel
abbrev y_L_moves : MethodName := ⟨"PrivateViewsLaw", "moves", "(LPrivateViews;I[J)I"⟩
abbrev hh_moves : List (Nat × Nat × Nat × Nat) := [(0, 9, 12, 21)]
def q_L_moves : Room := { frames := 8, cells := 1, slots := 6, locals := 166 }
theorem d_L_unlike_0 : decode method_28_code 0 = .ok (.aload_n 3, 1) := by decide +kernel
theorem d_L_unlike_1 : decode method_28_code 1 = .ok (.iconst 0, 1) := by decide +kernel
theorem d_L_unlike_2 : decode method_28_code 2 = .ok (.aload_n 0, 1) := by decide +kernel
theorem d_L_unlike_3 : decode method_28_code 3 = .ok (.iload_n 1, 1) := by decide +kernel
theorem d_L_unlike_4 : decode method_28_code 4 = .ok (.iload_n 2, 1) := by decide +kernel
theorem d_L_unlike_5 : decode method_28_code 5 = .ok (.invokevirtual 100, 3) := by decide +kernel
theorem d_L_unlike_8 : decode method_28_code 8 = .ok (.i2l, 1) := by decide +kernel
theorem d_L_unlike_9 : decode method_28_code 9 = .ok (.lastore, 1) := by decide +kernel
theorem d_L_unlike_10 : decode method_28_code 10 = .ok (.goto 11, 3) := by decide +kernel
theorem d_L_unlike_13 : decode method_28_code 13 = .ok (.astore 4, 2) := by decide +kernel
theorem d_L_unlike_15 : decode method_28_code 15 = .ok (.iconst 1, 1) := by decide +kernel
theorem d_L_unlike_16 : decode method_28_code 16 = .ok (.ireturn, 1) := by decide +kernel
theorem d_L_unlike_17 : decode method_28_code 17 = .ok (.astore 4, 2) := by decide +kernel
theorem d_L_unlike_19 : decode method_28_code 19 = .ok (.iconst 2, 1) := by decide +kernel
theorem d_L_unlike_20 : decode method_28_code 20 = .ok (.ireturn, 1) := by decide +kernel
theorem d_L_unlike_21 : decode method_28_code 21 = .ok (.iconst 0, 1) := by decide +kernel
theorem d_L_unlike_22 : decode method_28_code 22 = .ok (.ireturn, 1) := by decide +kernel
abbrev y_L_unlike : MethodName := ⟨"PrivateViewsLaw", "unlike", "(LPrivateViews;II[J)I"⟩
abbrev hh_unlike : List (Nat × Nat × Nat × Nat) := [(0, 10, 13, 21), (0, 10, 17, 13)]
def q_L_unlike : Room := { frames := 8, cells := 3, slots := 18, locals := 134 }
theorem d_L_told_0 : decode method_29_code 0 = .ok (.aload_n 3, 1) := by decide +kernel
theorem d_L_told_1 : decode method_29_code 1 = .ok (.iconst 0, 1) := by decide +kernel
theorem d_L_told_2 : decode method_29_code 2 = .ok (.aload_n 0, 1) := by decide +kernel
theorem d_L_told_3 : decode method_29_code 3 = .ok (.iload_n 1, 1) := by decide +kernel
theorem d_L_told_4 : decode method_29_code 4 = .ok (.iload_n 2, 1) := by decide +kernel
theorem d_L_told_5 : decode method_29_code 5 = .ok (.invokevirtual 103, 3) := by decide +kernel
theorem d_L_told_8 : decode method_29_code 8 = .ok (.i2l, 1) := by decide +kernel
theorem d_L_told_9 : decode method_29_code 9 = .ok (.lastore, 1) := by decide +kernel
theorem d_L_told_10 : decode method_29_code 10 = .ok (.goto 7, 3) := by decide +kernel
theorem d_L_told_13 : decode method_29_code 13 = .ok (.astore 4, 2) := by decide +kernel
theorem d_L_told_15 : decode method_29_code 15 = .ok (.iconst 1, 1) := by decide +kernel
theorem d_L_told_16 : decode method_29_code 16 = .ok (.ireturn, 1) := by decide +kernel
theorem d_L_told_17 : decode method_29_code 17 = .ok (.iconst 0, 1) := by decide +kernel
theorem d_L_told_18 : decode method_29_code 18 = .ok (.ireturn, 1) := by decide +kernel
abbrev y_L_told : MethodName := ⟨"PrivateViewsLaw", "told", "(LPrivateViews;II[J)I"⟩
abbrev hh_told : List (Nat × Nat × Nat × Nat) := [(0, 10, 13, 21)]
def q_L_told : Room := { frames := 8, cells := 1, slots := 6, locals := 166 }
theorem d_L_between_0 : decode method_30_code 0 = .ok (.aload 4, 2) := by decide +kernel
theorem d_L_between_2 : decode method_30_code 2 = .ok (.iconst 0, 1) := by decide +kernel
theorem d_L_between_3 : decode method_30_code 3 = .ok (.aload_n 0, 1) := by decide +kernel
theorem d_L_between_4 : decode method_30_code 4 = .ok (.iload_n 1, 1) := by decide +kernel
theorem d_L_between_5 : decode method_30_code 5 = .ok (.iload_n 2, 1) := by decide +kernel
theorem d_L_between_6 : decode method_30_code 6 = .ok (.iload_n 3, 1) := by decide +kernel
theorem d_L_between_7 : decode method_30_code 7 = .ok (.invokevirtual 106, 3) := by decide +kernel
theorem d_L_between_10 : decode method_30_code 10 = .ok (.i2l, 1) := by decide +kernel
theorem d_L_between_11 : decode method_30_code 11 = .ok (.lastore, 1) := by decide +kernel
theorem d_L_between_12 : decode method_30_code 12 = .ok (.goto 11, 3) := by decide +kernel
theorem d_L_between_15 : decode method_30_code 15 = .ok (.astore 5, 2) := by decide +kernel
theorem d_L_between_17 : decode method_30_code 17 = .ok (.iconst 1, 1) := by decide +kernel
theorem d_L_between_18 : decode method_30_code 18 = .ok (.ireturn, 1) := by decide +kernel
theorem d_L_between_19 : decode method_30_code 19 = .ok (.astore 5, 2) := by decide +kernel
theorem d_L_between_21 : decode method_30_code 21 = .ok (.iconst 2, 1) := by decide +kernel
theorem d_L_between_22 : decode method_30_code 22 = .ok (.ireturn, 1) := by decide +kernel
theorem d_L_between_23 : decode method_30_code 23 = .ok (.iconst 0, 1) := by decide +kernel
theorem d_L_between_24 : decode method_30_code 24 = .ok (.ireturn, 1) := by decide +kernel
abbrev y_L_between : MethodName := ⟨"PrivateViewsLaw", "between", "(LPrivateViews;III[J)I"⟩
abbrev hh_between : List (Nat × Nat × Nat × Nat) := [(0, 12, 15, 21), (0, 12, 19, 13)]
def q_L_between : Room := { frames := 8, cells := 4, slots := 24, locals := 138 }
theorem d_L_sum_0 : decode method_31_code 0 = .ok (.aload_n 3, 1) := by decide +kernel
theorem d_L_sum_1 : decode method_31_code 1 = .ok (.iconst 0, 1) := by decide +kernel
theorem d_L_sum_2 : decode method_31_code 2 = .ok (.aload_n 0, 1) := by decide +kernel
theorem d_L_sum_3 : decode method_31_code 3 = .ok (.iload_n 1, 1) := by decide +kernel
theorem d_L_sum_4 : decode method_31_code 4 = .ok (.iload_n 2, 1) := by decide +kernel
theorem d_L_sum_5 : decode method_31_code 5 = .ok (.invokevirtual 109, 3) := by decide +kernel
theorem d_L_sum_8 : decode method_31_code 8 = .ok (.i2l, 1) := by decide +kernel
theorem d_L_sum_9 : decode method_31_code 9 = .ok (.lastore, 1) := by decide +kernel
theorem d_L_sum_10 : decode method_31_code 10 = .ok (.goto 11, 3) := by decide +kernel
theorem d_L_sum_13 : decode method_31_code 13 = .ok (.astore 4, 2) := by decide +kernel
theorem d_L_sum_15 : decode method_31_code 15 = .ok (.iconst 1, 1) := by decide +kernel
theorem d_L_sum_16 : decode method_31_code 16 = .ok (.ireturn, 1) := by decide +kernel
theorem d_L_sum_17 : decode method_31_code 17 = .ok (.astore 4, 2) := by decide +kernel
theorem d_L_sum_19 : decode method_31_code 19 = .ok (.iconst 2, 1) := by decide +kernel
theorem d_L_sum_20 : decode method_31_code 20 = .ok (.ireturn, 1) := by decide +kernel
theorem d_L_sum_21 : decode method_31_code 21 = .ok (.iconst 0, 1) := by decide +kernel
theorem d_L_sum_22 : decode method_31_code 22 = .ok (.ireturn, 1) := by decide +kernel
abbrev y_L_sum : MethodName := ⟨"PrivateViewsLaw", "sum", "(LPrivateViews;II[J)I"⟩
abbrev hh_sum : List (Nat × Nat × Nat × Nat) := [(0, 10, 13, 21), (0, 10, 17, 48)]
def q_L_sum : Room := { frames := 8, cells := 3, slots := 18, locals := 133 }
theorem d_L_kinds_0 : decode method_32_code 0 = .ok (.aload_n 3, 1) := by decide +kernel
theorem d_L_kinds_1 : decode method_32_code 1 = .ok (.iconst 0, 1) := by decide +kernel
theorem d_L_kinds_2 : decode method_32_code 2 = .ok (.aload_n 0, 1) := by decide +kernel
theorem d_L_kinds_3 : decode method_32_code 3 = .ok (.iload_n 1, 1) := by decide +kernel
theorem d_L_kinds_4 : decode method_32_code 4 = .ok (.iload_n 2, 1) := by decide +kernel
theorem d_L_kinds_5 : decode method_32_code 5 = .ok (.invokevirtual 112, 3) := by decide +kernel
theorem d_L_kinds_8 : decode method_32_code 8 = .ok (.i2l, 1) := by decide +kernel
theorem d_L_kinds_9 : decode method_32_code 9 = .ok (.lastore, 1) := by decide +kernel
theorem d_L_kinds_10 : decode method_32_code 10 = .ok (.goto 7, 3) := by decide +kernel
theorem d_L_kinds_13 : decode method_32_code 13 = .ok (.astore 4, 2) := by decide +kernel
theorem d_L_kinds_15 : decode method_32_code 15 = .ok (.iconst 1, 1) := by decide +kernel
theorem d_L_kinds_16 : decode method_32_code 16 = .ok (.ireturn, 1) := by decide +kernel
theorem d_L_kinds_17 : decode method_32_code 17 = .ok (.iconst 0, 1) := by decide +kernel
theorem d_L_kinds_18 : decode method_32_code 18 = .ok (.ireturn, 1) := by decide +kernel
abbrev y_L_kinds : MethodName := ⟨"PrivateViewsLaw", "kinds", "(LPrivateViews;II[J)I"⟩
abbrev hh_kinds : List (Nat × Nat × Nat × Nat) := [(0, 10, 13, 21)]
def q_L_kinds : Room := { frames := 8, cells := 2, slots := 12, locals := 141 }
theorem d_L_by_0 : decode method_33_code 0 = .ok (.aload_n 3, 1) := by decide +kernel
theorem d_L_by_1 : decode method_33_code 1 = .ok (.iconst 0, 1) := by decide +kernel
theorem d_L_by_2 : decode method_33_code 2 = .ok (.aload_n 0, 1) := by decide +kernel
theorem d_L_by_3 : decode method_33_code 3 = .ok (.iload_n 1, 1) := by decide +kernel
theorem d_L_by_4 : decode method_33_code 4 = .ok (.iload_n 2, 1) := by decide +kernel
theorem d_L_by_5 : decode method_33_code 5 = .ok (.invokevirtual 115, 3) := by decide +kernel
theorem d_L_by_8 : decode method_33_code 8 = .ok (.i2l, 1) := by decide +kernel
theorem d_L_by_9 : decode method_33_code 9 = .ok (.lastore, 1) := by decide +kernel
theorem d_L_by_10 : decode method_33_code 10 = .ok (.goto 7, 3) := by decide +kernel
theorem d_L_by_13 : decode method_33_code 13 = .ok (.astore 4, 2) := by decide +kernel
theorem d_L_by_15 : decode method_33_code 15 = .ok (.iconst 1, 1) := by decide +kernel
theorem d_L_by_16 : decode method_33_code 16 = .ok (.ireturn, 1) := by decide +kernel
theorem d_L_by_17 : decode method_33_code 17 = .ok (.iconst 0, 1) := by decide +kernel
theorem d_L_by_18 : decode method_33_code 18 = .ok (.ireturn, 1) := by decide +kernel
abbrev y_L_by : MethodName := ⟨"PrivateViewsLaw", "by", "(LPrivateViews;II[J)I"⟩
abbrev hh_by : List (Nat × Nat × Nat × Nat) := [(0, 10, 13, 21)]
def q_L_by : Room := { frames := 8, cells := 2, slots := 12, locals := 134 }
theorem d_L_group_0 : decode method_34_code 0 = .ok (.aload 5, 2) := by decide +kernel
theorem d_L_group_2 : decode method_34_code 2 = .ok (.iconst 0, 1) := by decide +kernel
theorem d_L_group_3 : decode method_34_code 3 = .ok (.aload_n 0, 1) := by decide +kernel
theorem d_L_group_4 : decode method_34_code 4 = .ok (.iload_n 1, 1) := by decide +kernel
theorem d_L_group_5 : decode method_34_code 5 = .ok (.iload_n 2, 1) := by decide +kernel
theorem d_L_group_6 : decode method_34_code 6 = .ok (.iload_n 3, 1) := by decide +kernel
theorem d_L_group_7 : decode method_34_code 7 = .ok (.iload 4, 2) := by decide +kernel
theorem d_L_group_9 : decode method_34_code 9 = .ok (.invokevirtual 118, 3) := by decide +kernel
theorem d_L_group_12 : decode method_34_code 12 = .ok (.i2l, 1) := by decide +kernel
theorem d_L_group_13 : decode method_34_code 13 = .ok (.lastore, 1) := by decide +kernel
theorem d_L_group_14 : decode method_34_code 14 = .ok (.goto 15, 3) := by decide +kernel
theorem d_L_group_17 : decode method_34_code 17 = .ok (.astore 6, 2) := by decide +kernel
theorem d_L_group_19 : decode method_34_code 19 = .ok (.iconst 1, 1) := by decide +kernel
theorem d_L_group_20 : decode method_34_code 20 = .ok (.ireturn, 1) := by decide +kernel
theorem d_L_group_21 : decode method_34_code 21 = .ok (.astore 6, 2) := by decide +kernel
theorem d_L_group_23 : decode method_34_code 23 = .ok (.iconst 2, 1) := by decide +kernel
theorem d_L_group_24 : decode method_34_code 24 = .ok (.ireturn, 1) := by decide +kernel
theorem d_L_group_25 : decode method_34_code 25 = .ok (.astore 6, 2) := by decide +kernel
theorem d_L_group_27 : decode method_34_code 27 = .ok (.iconst 3, 1) := by decide +kernel
theorem d_L_group_28 : decode method_34_code 28 = .ok (.ireturn, 1) := by decide +kernel
theorem d_L_group_29 : decode method_34_code 29 = .ok (.iconst 0, 1) := by decide +kernel
theorem d_L_group_30 : decode method_34_code 30 = .ok (.ireturn, 1) := by decide +kernel
abbrev y_L_group : MethodName := ⟨"PrivateViewsLaw", "group", "(LPrivateViews;IIII[J)I"⟩
abbrev hh_group : List (Nat × Nat × Nat × Nat) := [(0, 14, 17, 21), (0, 14, 21, 39), (0, 14, 25, 13)]
def q_L_group : Room := { frames := 8, cells := 3, slots := 18, locals := 169 }
theorem d_L_total_0 : decode method_35_code 0 = .ok (.aload 5, 2) := by decide +kernel
theorem d_L_total_2 : decode method_35_code 2 = .ok (.iconst 0, 1) := by decide +kernel
theorem d_L_total_3 : decode method_35_code 3 = .ok (.aload_n 0, 1) := by decide +kernel
theorem d_L_total_4 : decode method_35_code 4 = .ok (.iload_n 1, 1) := by decide +kernel
theorem d_L_total_5 : decode method_35_code 5 = .ok (.iload_n 2, 1) := by decide +kernel
theorem d_L_total_6 : decode method_35_code 6 = .ok (.iload_n 3, 1) := by decide +kernel
theorem d_L_total_7 : decode method_35_code 7 = .ok (.iload 4, 2) := by decide +kernel
theorem d_L_total_9 : decode method_35_code 9 = .ok (.invokevirtual 121, 3) := by decide +kernel
theorem d_L_total_12 : decode method_35_code 12 = .ok (.i2l, 1) := by decide +kernel
theorem d_L_total_13 : decode method_35_code 13 = .ok (.lastore, 1) := by decide +kernel
theorem d_L_total_14 : decode method_35_code 14 = .ok (.goto 15, 3) := by decide +kernel
theorem d_L_total_17 : decode method_35_code 17 = .ok (.astore 6, 2) := by decide +kernel
theorem d_L_total_19 : decode method_35_code 19 = .ok (.iconst 1, 1) := by decide +kernel
theorem d_L_total_20 : decode method_35_code 20 = .ok (.ireturn, 1) := by decide +kernel
theorem d_L_total_21 : decode method_35_code 21 = .ok (.astore 6, 2) := by decide +kernel
theorem d_L_total_23 : decode method_35_code 23 = .ok (.iconst 2, 1) := by decide +kernel
theorem d_L_total_24 : decode method_35_code 24 = .ok (.ireturn, 1) := by decide +kernel
theorem d_L_total_25 : decode method_35_code 25 = .ok (.astore 6, 2) := by decide +kernel
theorem d_L_total_27 : decode method_35_code 27 = .ok (.iconst 3, 1) := by decide +kernel
theorem d_L_total_28 : decode method_35_code 28 = .ok (.ireturn, 1) := by decide +kernel
theorem d_L_total_29 : decode method_35_code 29 = .ok (.iconst 0, 1) := by decide +kernel
theorem d_L_total_30 : decode method_35_code 30 = .ok (.ireturn, 1) := by decide +kernel
abbrev y_L_total : MethodName := ⟨"PrivateViewsLaw", "total", "(LPrivateViews;IIII[J)I"⟩
abbrev hh_total : List (Nat × Nat × Nat × Nat) := [(0, 14, 17, 21), (0, 14, 21, 48), (0, 14, 25, 13)]
def q_L_total : Room := { frames := 8, cells := 5, slots := 30, locals := 169 }
theorem d_L_middle_0 : decode method_36_code 0 = .ok (.aload_n 3, 1) := by decide +kernel
theorem d_L_middle_1 : decode method_36_code 1 = .ok (.iconst 0, 1) := by decide +kernel
theorem d_L_middle_2 : decode method_36_code 2 = .ok (.aload_n 0, 1) := by decide +kernel
theorem d_L_middle_3 : decode method_36_code 3 = .ok (.iload_n 1, 1) := by decide +kernel
theorem d_L_middle_4 : decode method_36_code 4 = .ok (.iload_n 2, 1) := by decide +kernel
theorem d_L_middle_5 : decode method_36_code 5 = .ok (.invokevirtual 124, 3) := by decide +kernel
theorem d_L_middle_8 : decode method_36_code 8 = .ok (.i2l, 1) := by decide +kernel
theorem d_L_middle_9 : decode method_36_code 9 = .ok (.lastore, 1) := by decide +kernel
theorem d_L_middle_10 : decode method_36_code 10 = .ok (.goto 7, 3) := by decide +kernel
theorem d_L_middle_13 : decode method_36_code 13 = .ok (.astore 4, 2) := by decide +kernel
theorem d_L_middle_15 : decode method_36_code 15 = .ok (.iconst 1, 1) := by decide +kernel
theorem d_L_middle_16 : decode method_36_code 16 = .ok (.ireturn, 1) := by decide +kernel
theorem d_L_middle_17 : decode method_36_code 17 = .ok (.iconst 0, 1) := by decide +kernel
theorem d_L_middle_18 : decode method_36_code 18 = .ok (.ireturn, 1) := by decide +kernel
abbrev y_L_middle : MethodName := ⟨"PrivateViewsLaw", "middle", "(LPrivateViews;II[J)I"⟩
abbrev hh_middle : List (Nat × Nat × Nat × Nat) := [(0, 10, 13, 21)]
def q_L_middle : Room := { frames := 8, cells := 2, slots := 12, locals := 133 }
theorem d_L_twice_0 : decode method_37_code 0 = .ok (.aload_n 2, 1) := by decide +kernel
theorem d_L_twice_1 : decode method_37_code 1 = .ok (.iconst 0, 1) := by decide +kernel
theorem d_L_twice_2 : decode method_37_code 2 = .ok (.aload_n 0, 1) := by decide +kernel
theorem d_L_twice_3 : decode method_37_code 3 = .ok (.iload_n 1, 1) := by decide +kernel
theorem d_L_twice_4 : decode method_37_code 4 = .ok (.invokevirtual 127, 3) := by decide +kernel
theorem d_L_twice_7 : decode method_37_code 7 = .ok (.i2l, 1) := by decide +kernel
theorem d_L_twice_8 : decode method_37_code 8 = .ok (.lastore, 1) := by decide +kernel
theorem d_L_twice_9 : decode method_37_code 9 = .ok (.goto 6, 3) := by decide +kernel
theorem d_L_twice_12 : decode method_37_code 12 = .ok (.astore_n 3, 1) := by decide +kernel
theorem d_L_twice_13 : decode method_37_code 13 = .ok (.iconst 1, 1) := by decide +kernel
theorem d_L_twice_14 : decode method_37_code 14 = .ok (.ireturn, 1) := by decide +kernel
theorem d_L_twice_15 : decode method_37_code 15 = .ok (.iconst 0, 1) := by decide +kernel
theorem d_L_twice_16 : decode method_37_code 16 = .ok (.ireturn, 1) := by decide +kernel
abbrev y_L_twice : MethodName := ⟨"PrivateViewsLaw", "twice", "(LPrivateViews;I[J)I"⟩
abbrev hh_twice : List (Nat × Nat × Nat × Nat) := [(0, 9, 12, 21)]
def q_L_twice : Room := { frames := 8, cells := 1, slots := 6, locals := 139 }
theorem d_L_barred_0 : decode method_38_code 0 = .ok (.aload_n 2, 1) := by decide +kernel
theorem d_L_barred_1 : decode method_38_code 1 = .ok (.iconst 0, 1) := by decide +kernel
theorem d_L_barred_2 : decode method_38_code 2 = .ok (.aload_n 0, 1) := by decide +kernel
theorem d_L_barred_3 : decode method_38_code 3 = .ok (.iload_n 1, 1) := by decide +kernel
theorem d_L_barred_4 : decode method_38_code 4 = .ok (.invokevirtual 130, 3) := by decide +kernel
theorem d_L_barred_7 : decode method_38_code 7 = .ok (.i2l, 1) := by decide +kernel
theorem d_L_barred_8 : decode method_38_code 8 = .ok (.lastore, 1) := by decide +kernel
theorem d_L_barred_9 : decode method_38_code 9 = .ok (.goto 6, 3) := by decide +kernel
theorem d_L_barred_12 : decode method_38_code 12 = .ok (.astore_n 3, 1) := by decide +kernel
theorem d_L_barred_13 : decode method_38_code 13 = .ok (.iconst 1, 1) := by decide +kernel
theorem d_L_barred_14 : decode method_38_code 14 = .ok (.ireturn, 1) := by decide +kernel
theorem d_L_barred_15 : decode method_38_code 15 = .ok (.iconst 0, 1) := by decide +kernel
theorem d_L_barred_16 : decode method_38_code 16 = .ok (.ireturn, 1) := by decide +kernel
abbrev y_L_barred : MethodName := ⟨"PrivateViewsLaw", "barred", "(LPrivateViews;I[J)I"⟩
abbrev hh_barred : List (Nat × Nat × Nat × Nat) := [(0, 9, 12, 21)]
def q_L_barred : Room := { frames := 8, cells := 1, slots := 6, locals := 132 }
theorem d_L_find_0 : decode method_39_code 0 = .ok (.aload 5, 2) := by decide +kernel
theorem d_L_find_2 : decode method_39_code 2 = .ok (.iconst 0, 1) := by decide +kernel
theorem d_L_find_3 : decode method_39_code 3 = .ok (.aload_n 0, 1) := by decide +kernel
theorem d_L_find_4 : decode method_39_code 4 = .ok (.iload_n 1, 1) := by decide +kernel
theorem d_L_find_5 : decode method_39_code 5 = .ok (.iload_n 2, 1) := by decide +kernel
theorem d_L_find_6 : decode method_39_code 6 = .ok (.iload_n 3, 1) := by decide +kernel
theorem d_L_find_7 : decode method_39_code 7 = .ok (.iload 4, 2) := by decide +kernel
theorem d_L_find_9 : decode method_39_code 9 = .ok (.invokevirtual 133, 3) := by decide +kernel
theorem d_L_find_12 : decode method_39_code 12 = .ok (.i2l, 1) := by decide +kernel
theorem d_L_find_13 : decode method_39_code 13 = .ok (.lastore, 1) := by decide +kernel
theorem d_L_find_14 : decode method_39_code 14 = .ok (.goto 11, 3) := by decide +kernel
theorem d_L_find_17 : decode method_39_code 17 = .ok (.astore 6, 2) := by decide +kernel
theorem d_L_find_19 : decode method_39_code 19 = .ok (.iconst 1, 1) := by decide +kernel
theorem d_L_find_20 : decode method_39_code 20 = .ok (.ireturn, 1) := by decide +kernel
theorem d_L_find_21 : decode method_39_code 21 = .ok (.astore 6, 2) := by decide +kernel
theorem d_L_find_23 : decode method_39_code 23 = .ok (.iconst 2, 1) := by decide +kernel
theorem d_L_find_24 : decode method_39_code 24 = .ok (.ireturn, 1) := by decide +kernel
theorem d_L_find_25 : decode method_39_code 25 = .ok (.iconst 0, 1) := by decide +kernel
theorem d_L_find_26 : decode method_39_code 26 = .ok (.ireturn, 1) := by decide +kernel
abbrev y_L_find : MethodName := ⟨"PrivateViewsLaw", "find", "(LPrivateViews;IIII[J)I"⟩
abbrev hh_find : List (Nat × Nat × Nat × Nat) := [(0, 14, 17, 21), (0, 14, 21, 13)]
def q_L_find : Room := { frames := 8, cells := 3, slots := 18, locals := 136 }
theorem d_L_log_0 : decode method_40_code 0 = .ok (.aload_n 3, 1) := by decide +kernel
theorem d_L_log_1 : decode method_40_code 1 = .ok (.iconst 0, 1) := by decide +kernel
theorem d_L_log_2 : decode method_40_code 2 = .ok (.aload_n 0, 1) := by decide +kernel
theorem d_L_log_3 : decode method_40_code 3 = .ok (.iload_n 1, 1) := by decide +kernel
theorem d_L_log_4 : decode method_40_code 4 = .ok (.iload_n 2, 1) := by decide +kernel
theorem d_L_log_5 : decode method_40_code 5 = .ok (.invokevirtual 136, 3) := by decide +kernel
theorem d_L_log_8 : decode method_40_code 8 = .ok (.i2l, 1) := by decide +kernel
theorem d_L_log_9 : decode method_40_code 9 = .ok (.lastore, 1) := by decide +kernel
theorem d_L_log_10 : decode method_40_code 10 = .ok (.goto 7, 3) := by decide +kernel
theorem d_L_log_13 : decode method_40_code 13 = .ok (.astore 4, 2) := by decide +kernel
theorem d_L_log_15 : decode method_40_code 15 = .ok (.iconst 1, 1) := by decide +kernel
theorem d_L_log_16 : decode method_40_code 16 = .ok (.ireturn, 1) := by decide +kernel
theorem d_L_log_17 : decode method_40_code 17 = .ok (.iconst 0, 1) := by decide +kernel
theorem d_L_log_18 : decode method_40_code 18 = .ok (.ireturn, 1) := by decide +kernel
abbrev y_L_log : MethodName := ⟨"PrivateViewsLaw", "log", "(LPrivateViews;II[J)I"⟩
abbrev hh_log : List (Nat × Nat × Nat × Nat) := [(0, 10, 13, 39)]
def q_L_log : Room := { frames := 7, cells := 1, slots := 6, locals := 111 }
theorem ky_453 : Cond.methodLink "PrivateViewsLaw" 7 ⟨"PrivateViews", "sheet", "()I"⟩ ∈ jTB := jtb (List.mem_of_getElem? (i := 453) (by decide +kernel)) (by decide +kernel)
theorem ky_451 : Cond.classLink "PrivateViewsLaw" 13 "java/lang/IllegalArgumentException" ∈ jTB := jtb (List.mem_of_getElem? (i := 451) (by decide +kernel)) (by decide +kernel)
theorem ky_452 : Cond.classLink "PrivateViewsLaw" 15 "java/lang/UnsupportedOperationException" ∈ jTB := jtb (List.mem_of_getElem? (i := 452) (by decide +kernel)) (by decide +kernel)
theorem ky_767 : Cond.methodLink "PrivateViewsLaw" 17 ⟨"PrivateViews", "view", "(I)I"⟩ ∈ jTB := jtb (List.mem_of_getElem? (i := 767) (by decide +kernel)) (by decide +kernel)
theorem ky_766 : Cond.classLink "PrivateViewsLaw" 21 "java/lang/IndexOutOfBoundsException" ∈ jTB := jtb (List.mem_of_getElem? (i := 766) (by decide +kernel)) (by decide +kernel)
theorem ky_900 : Cond.methodLink "PrivateViewsLaw" 23 ⟨"PrivateViews", "kind", "(I)I"⟩ ∈ jTB := jtb (List.mem_of_getElem? (i := 900) (by decide +kernel)) (by decide +kernel)
theorem ky_916 : Cond.methodLink "PrivateViewsLaw" 26 ⟨"PrivateViews", "cell", "(II)I"⟩ ∈ jTB := jtb (List.mem_of_getElem? (i := 916) (by decide +kernel)) (by decide +kernel)
theorem ky_934 : Cond.methodLink "PrivateViewsLaw" 30 ⟨"PrivateViews", "row", "(II)I"⟩ ∈ jTB := jtb (List.mem_of_getElem? (i := 934) (by decide +kernel)) (by decide +kernel)
theorem ky_941 : Cond.methodLink "PrivateViewsLaw" 33 ⟨"PrivateViews", "place", "(II)I"⟩ ∈ jTB := jtb (List.mem_of_getElem? (i := 941) (by decide +kernel)) (by decide +kernel)
theorem ky_950 : Cond.methodLink "PrivateViewsLaw" 36 ⟨"PrivateViews", "about", "(II)I"⟩ ∈ jTB := jtb (List.mem_of_getElem? (i := 950) (by decide +kernel)) (by decide +kernel)
theorem ky_949 : Cond.classLink "PrivateViewsLaw" 39 "java/util/NoSuchElementException" ∈ jTB := jtb (List.mem_of_getElem? (i := 949) (by decide +kernel)) (by decide +kernel)
theorem ky_976 : Cond.methodLink "PrivateViewsLaw" 41 ⟨"PrivateViews", "sorts", "(II)I"⟩ ∈ jTB := jtb (List.mem_of_getElem? (i := 976) (by decide +kernel)) (by decide +kernel)
theorem ky_985 : Cond.methodLink "PrivateViewsLaw" 44 ⟨"PrivateViews", "set", "(IIII)I"⟩ ∈ jTB := jtb (List.mem_of_getElem? (i := 985) (by decide +kernel)) (by decide +kernel)
theorem ky_984 : Cond.classLink "PrivateViewsLaw" 48 "java/lang/IllegalStateException" ∈ jTB := jtb (List.mem_of_getElem? (i := 984) (by decide +kernel)) (by decide +kernel)
theorem ky_1060 : Cond.methodLink "PrivateViewsLaw" 50 ⟨"PrivateViews", "clear", "(III)I"⟩ ∈ jTB := jtb (List.mem_of_getElem? (i := 1060) (by decide +kernel)) (by decide +kernel)
theorem ky_1068 : Cond.methodLink "PrivateViewsLaw" 54 ⟨"PrivateViews", "fill", "(IIII)I"⟩ ∈ jTB := jtb (List.mem_of_getElem? (i := 1068) (by decide +kernel)) (by decide +kernel)
theorem ky_1075 : Cond.methodLink "PrivateViewsLaw" 57 ⟨"PrivateViews", "replace", "(IIII)I"⟩ ∈ jTB := jtb (List.mem_of_getElem? (i := 1075) (by decide +kernel)) (by decide +kernel)
theorem ky_1087 : Cond.methodLink "PrivateViewsLaw" 60 ⟨"PrivateViews", "swap", "(IIII)I"⟩ ∈ jTB := jtb (List.mem_of_getElem? (i := 1087) (by decide +kernel)) (by decide +kernel)
theorem ky_1094 : Cond.methodLink "PrivateViewsLaw" 63 ⟨"PrivateViews", "paste", "(III)I"⟩ ∈ jTB := jtb (List.mem_of_getElem? (i := 1094) (by decide +kernel)) (by decide +kernel)
theorem ky_1124 : Cond.methodLink "PrivateViewsLaw" 66 ⟨"PrivateViews", "add", "(II)I"⟩ ∈ jTB := jtb (List.mem_of_getElem? (i := 1124) (by decide +kernel)) (by decide +kernel)
theorem ky_1134 : Cond.methodLink "PrivateViewsLaw" 69 ⟨"PrivateViews", "drop", "(II)I"⟩ ∈ jTB := jtb (List.mem_of_getElem? (i := 1134) (by decide +kernel)) (by decide +kernel)
theorem ky_1149 : Cond.methodLink "PrivateViewsLaw" 72 ⟨"PrivateViews", "drag", "(III)I"⟩ ∈ jTB := jtb (List.mem_of_getElem? (i := 1149) (by decide +kernel)) (by decide +kernel)
theorem ky_1165 : Cond.methodLink "PrivateViewsLaw" 75 ⟨"PrivateViews", "refresh", "(I)I"⟩ ∈ jTB := jtb (List.mem_of_getElem? (i := 1165) (by decide +kernel)) (by decide +kernel)
theorem ky_1181 : Cond.methodLink "PrivateViewsLaw" 78 ⟨"PrivateViews", "undo", "(I)I"⟩ ∈ jTB := jtb (List.mem_of_getElem? (i := 1181) (by decide +kernel)) (by decide +kernel)
theorem ky_1208 : Cond.methodLink "PrivateViewsLaw" 81 ⟨"PrivateViews", "fits", "(II)Z"⟩ ∈ jTB := jtb (List.mem_of_getElem? (i := 1208) (by decide +kernel)) (by decide +kernel)
theorem ky_1220 : Cond.methodLink "PrivateViewsLaw" 85 ⟨"PrivateViews", "why", "(II)I"⟩ ∈ jTB := jtb (List.mem_of_getElem? (i := 1220) (by decide +kernel)) (by decide +kernel)
theorem ky_1228 : Cond.methodLink "PrivateViewsLaw" 88 ⟨"PrivateViews", "stale", "(I)I"⟩ ∈ jTB := jtb (List.mem_of_getElem? (i := 1228) (by decide +kernel)) (by decide +kernel)
theorem ky_1240 : Cond.methodLink "PrivateViewsLaw" 91 ⟨"PrivateViews", "pending", "(I)I"⟩ ∈ jTB := jtb (List.mem_of_getElem? (i := 1240) (by decide +kernel)) (by decide +kernel)
theorem ky_1251 : Cond.methodLink "PrivateViewsLaw" 94 ⟨"PrivateViews", "rank", "(II)I"⟩ ∈ jTB := jtb (List.mem_of_getElem? (i := 1251) (by decide +kernel)) (by decide +kernel)
theorem ky_1263 : Cond.methodLink "PrivateViewsLaw" 97 ⟨"PrivateViews", "moves", "(I)I"⟩ ∈ jTB := jtb (List.mem_of_getElem? (i := 1263) (by decide +kernel)) (by decide +kernel)
theorem ky_1279 : Cond.methodLink "PrivateViewsLaw" 100 ⟨"PrivateViews", "unlike", "(II)I"⟩ ∈ jTB := jtb (List.mem_of_getElem? (i := 1279) (by decide +kernel)) (by decide +kernel)
theorem ky_1290 : Cond.methodLink "PrivateViewsLaw" 103 ⟨"PrivateViews", "told", "(II)I"⟩ ∈ jTB := jtb (List.mem_of_getElem? (i := 1290) (by decide +kernel)) (by decide +kernel)
theorem ky_1318 : Cond.methodLink "PrivateViewsLaw" 106 ⟨"PrivateViews", "between", "(III)I"⟩ ∈ jTB := jtb (List.mem_of_getElem? (i := 1318) (by decide +kernel)) (by decide +kernel)
theorem ky_1330 : Cond.methodLink "PrivateViewsLaw" 109 ⟨"PrivateViews", "sum", "(II)I"⟩ ∈ jTB := jtb (List.mem_of_getElem? (i := 1330) (by decide +kernel)) (by decide +kernel)
theorem ky_1347 : Cond.methodLink "PrivateViewsLaw" 112 ⟨"PrivateViews", "kinds", "(II)I"⟩ ∈ jTB := jtb (List.mem_of_getElem? (i := 1347) (by decide +kernel)) (by decide +kernel)
theorem ky_1366 : Cond.methodLink "PrivateViewsLaw" 115 ⟨"PrivateViews", "by", "(II)I"⟩ ∈ jTB := jtb (List.mem_of_getElem? (i := 1366) (by decide +kernel)) (by decide +kernel)
theorem ky_1377 : Cond.methodLink "PrivateViewsLaw" 118 ⟨"PrivateViews", "group", "(IIII)I"⟩ ∈ jTB := jtb (List.mem_of_getElem? (i := 1377) (by decide +kernel)) (by decide +kernel)
theorem ky_1400 : Cond.methodLink "PrivateViewsLaw" 121 ⟨"PrivateViews", "total", "(IIII)I"⟩ ∈ jTB := jtb (List.mem_of_getElem? (i := 1400) (by decide +kernel)) (by decide +kernel)
theorem ky_1411 : Cond.methodLink "PrivateViewsLaw" 124 ⟨"PrivateViews", "middle", "(II)I"⟩ ∈ jTB := jtb (List.mem_of_getElem? (i := 1411) (by decide +kernel)) (by decide +kernel)
theorem ky_1422 : Cond.methodLink "PrivateViewsLaw" 127 ⟨"PrivateViews", "twice", "(I)I"⟩ ∈ jTB := jtb (List.mem_of_getElem? (i := 1422) (by decide +kernel)) (by decide +kernel)
theorem ky_1438 : Cond.methodLink "PrivateViewsLaw" 130 ⟨"PrivateViews", "barred", "(I)I"⟩ ∈ jTB := jtb (List.mem_of_getElem? (i := 1438) (by decide +kernel)) (by decide +kernel)
theorem ky_1445 : Cond.methodLink "PrivateViewsLaw" 133 ⟨"PrivateViews", "find", "(IIII)I"⟩ ∈ jTB := jtb (List.mem_of_getElem? (i := 1445) (by decide +kernel)) (by decide +kernel)
theorem ky_1452 : Cond.methodLink "PrivateViewsLaw" 136 ⟨"PrivateViews", "log", "(II)I"⟩ ∈ jTB := jtb (List.mem_of_getElem? (i := 1452) (by decide +kernel)) (by decide +kernel)
theorem kn_614 : Cond.castable "java/lang/IllegalArgumentException" "java/lang/IllegalArgumentException" ∈ jNest := jnest (List.mem_of_getElem? (i := 614) (by decide +kernel)) (by decide +kernel)
theorem kn_680 : Cond.castable "java/lang/UnsupportedOperationException" "java/lang/UnsupportedOperationException" ∈ jNest := jnest (List.mem_of_getElem? (i := 680) (by decide +kernel)) (by decide +kernel)
theorem kn_778 : Cond.castable "java/lang/IndexOutOfBoundsException" "java/lang/IndexOutOfBoundsException" ∈ jNest := jnest (List.mem_of_getElem? (i := 778) (by decide +kernel)) (by decide +kernel)
theorem kn_960 : Cond.castable "java/util/NoSuchElementException" "java/util/NoSuchElementException" ∈ jNest := jnest (List.mem_of_getElem? (i := 960) (by decide +kernel)) (by decide +kernel)
theorem kn_1000 : Cond.castable "java/lang/IllegalStateException" "java/lang/IllegalStateException" ∈ jNest := jnest (List.mem_of_getElem? (i := 1000) (by decide +kernel)) (by decide +kernel)

-- the classes: their names, fields in the order of the slots, types
def jN0 : String := "PrivateViews$Edit"
def jF0 : u_T := fun k => match k with
  | 0 => ("PrivateViews$Edit", "changes", "I", false)
  | 1 => ("PrivateViews$Edit", "keys", "[I", true)
  | 2 => ("PrivateViews$Edit", "columns", "[I", true)
  | 3 => ("PrivateViews$Edit", "were", "[I", true)
  | _ => ("PrivateViews$Edit", "became", "[I", true)
def jt0 : Nat → FieldType := fun k => match k with
  | 0 => .int
  | 1 => .array .int
  | 2 => .array .int
  | 3 => .array .int
  | _ => .array .int
theorem jnm0 : ∀ a, a < 5 → ∀ b, b < 5 → a ≠ b → (jF0 a).2.1 ≠ (jF0 b).2.1 := by decide +kernel
theorem jty0 : ∀ k, k < 5 → parseFieldDescriptor (jF0 k).2.2.1 = some (jt0 k) := by decide +kernel
def jN1 : String := "PrivateViews$Filter"
def jF1 : u_T := fun k => match k with
  | 0 => ("PrivateViews$Filter", "tests", "I", false)
  | 1 => ("PrivateViews$Filter", "forms", "[I", true)
  | 2 => ("PrivateViews$Filter", "lows", "[I", true)
  | 3 => ("PrivateViews$Filter", "highs", "[I", true)
  | _ => ("PrivateViews$Filter", "turns", "[I", true)
def jt1 : Nat → FieldType := fun k => match k with
  | 0 => .int
  | 1 => .array .int
  | 2 => .array .int
  | 3 => .array .int
  | _ => .array .int
theorem jnm1 : ∀ a, a < 5 → ∀ b, b < 5 → a ≠ b → (jF1 a).2.1 ≠ (jF1 b).2.1 := by decide +kernel
theorem jty1 : ∀ k, k < 5 → parseFieldDescriptor (jF1 k).2.2.1 = some (jt1 k) := by decide +kernel
def jN2 : String := "PrivateViews$Lens"
def jF2 : u_T := fun k => match k with
  | 0 => ("PrivateViews$Lens", "filters", "[LPrivateViews$Filter;", true)
  | 1 => ("PrivateViews$Lens", "sortCodes", "[I", true)
  | 2 => ("PrivateViews$Lens", "sortsTold", "I", false)
  | _ => ("PrivateViews$Lens", "hidden", "I", false)
def jt2 : Nat → FieldType := fun k => match k with
  | 0 => .array (.object "PrivateViews$Filter")
  | 1 => .array .int
  | 2 => .int
  | _ => .int
theorem jnm2 : ∀ a, a < 4 → ∀ b, b < 4 → a ≠ b → (jF2 a).2.1 ≠ (jF2 b).2.1 := by decide +kernel
theorem jty2 : ∀ k, k < 4 → parseFieldDescriptor (jF2 k).2.2.1 = some (jt2 k) := by decide +kernel
def jN3 : String := "PrivateViews$Log"
def jF3 : u_T := fun k => match k with
  | 0 => ("PrivateViews$Log", "parts", "[I", true)
  | 1 => ("PrivateViews$Log", "next", "I", false)
  | _ => ("PrivateViews$Log", "size", "I", false)
def jt3 : Nat → FieldType := fun k => match k with
  | 0 => .array .int
  | 1 => .int
  | _ => .int
theorem jnm3 : ∀ a, a < 3 → ∀ b, b < 3 → a ≠ b → (jF3 a).2.1 ≠ (jF3 b).2.1 := by decide +kernel
theorem jty3 : ∀ k, k < 3 → parseFieldDescriptor (jF3 k).2.2.1 = some (jt3 k) := by decide +kernel
def jN4 : String := "PrivateViews$Questions"
def jF4 : u_T := fun k => match k with
  | 0 => ("PrivateViews$Questions", "fresh", "LPrivateViews$RowList;", true)
  | 1 => ("PrivateViews$Questions", "ranks", "[I", true)
  | 2 => ("PrivateViews$Questions", "longest", "[I", true)
  | 3 => ("PrivateViews$Questions", "sorted", "[I", true)
  | 4 => ("PrivateViews$Questions", "sortsNeeded", "I", false)
  | 5 => ("PrivateViews$Questions", "firstSort", "I", false)
  | _ => ("PrivateViews$Questions", "secondSort", "I", false)
def jt4 : Nat → FieldType := fun k => match k with
  | 0 => .object "PrivateViews$RowList"
  | 1 => .array .int
  | 2 => .array .int
  | 3 => .array .int
  | 4 => .int
  | 5 => .int
  | _ => .int
theorem jnm4 : ∀ a, a < 7 → ∀ b, b < 7 → a ≠ b → (jF4 a).2.1 ≠ (jF4 b).2.1 := by decide +kernel
theorem jty4 : ∀ k, k < 7 → parseFieldDescriptor (jF4 k).2.2.1 = some (jt4 k) := by decide +kernel
def jN5 : String := "PrivateViews$Reader"
def jF5 : u_T := fun k => match k with
  | 0 => ("PrivateViews$Reader", "tape", "[I", true)
  | 1 => ("PrivateViews$Reader", "fed", "I", false)
  | 2 => ("PrivateViews$Reader", "length", "I", false)
  | 3 => ("PrivateViews$Reader", "at", "I", false)
  | 4 => ("PrivateViews$Reader", "wrong", "I", false)
  | 5 => ("PrivateViews$Reader", "value", "I", false)
  | _ => ("PrivateViews$Reader", "began", "I", false)
def jt5 : Nat → FieldType := fun k => match k with
  | 0 => .array .int
  | 1 => .int
  | 2 => .int
  | 3 => .int
  | 4 => .int
  | 5 => .int
  | _ => .int
theorem jnm5 : ∀ a, a < 7 → ∀ b, b < 7 → a ≠ b → (jF5 a).2.1 ≠ (jF5 b).2.1 := by decide +kernel
theorem jty5 : ∀ k, k < 7 → parseFieldDescriptor (jF5 k).2.2.1 = some (jt5 k) := by decide +kernel
def jN6 : String := "PrivateViews$RowList"
def jF6 : u_T := fun k => match k with
  | 0 => ("PrivateViews$RowList", "seats", "[I", true)
  | _ => ("PrivateViews$RowList", "size", "I", false)
def jt6 : Nat → FieldType := fun k => match k with
  | 0 => .array .int
  | _ => .int
theorem jnm6 : ∀ a, a < 2 → ∀ b, b < 2 → a ≠ b → (jF6 a).2.1 ≠ (jF6 b).2.1 := by decide +kernel
theorem jty6 : ∀ k, k < 2 → parseFieldDescriptor (jF6 k).2.2.1 = some (jt6 k) := by decide +kernel
def jN7 : String := "PrivateViews$Sheet"
def jF7 : u_T := fun k => match k with
  | 0 => ("PrivateViews$Sheet", "columns", "I", false)
  | 1 => ("PrivateViews$Sheet", "kindsTold", "[I", true)
  | 2 => ("PrivateViews$Sheet", "keys", "[I", true)
  | 3 => ("PrivateViews$Sheet", "values", "[I", true)
  | 4 => ("PrivateViews$Sheet", "writers", "[I", true)
  | 5 => ("PrivateViews$Sheet", "ordered", "LPrivateViews$RowList;", true)
  | 6 => ("PrivateViews$Sheet", "texts", "I", false)
  | _ => ("PrivateViews$Sheet", "keysSoFar", "I", false)
def jt7 : Nat → FieldType := fun k => match k with
  | 0 => .int
  | 1 => .array .int
  | 2 => .array .int
  | 3 => .array .int
  | 4 => .array .int
  | 5 => .object "PrivateViews$RowList"
  | 6 => .int
  | _ => .int
theorem jnm7 : ∀ a, a < 8 → ∀ b, b < 8 → a ≠ b → (jF7 a).2.1 ≠ (jF7 b).2.1 := by decide +kernel
theorem jty7 : ∀ k, k < 8 → parseFieldDescriptor (jF7 k).2.2.1 = some (jt7 k) := by decide +kernel
def jN8 : String := "PrivateViews$State"
def jF8 : u_T := fun k => match k with
  | 0 => ("PrivateViews$State", "sheet", "LPrivateViews$Sheet;", true)
  | 1 => ("PrivateViews$State", "views", "[LPrivateViews$View;", true)
  | 2 => ("PrivateViews$State", "log", "LPrivateViews$Log;", true)
  | _ => ("PrivateViews$State", "draft", "LPrivateViews$Edit;", true)
def jt8 : Nat → FieldType := fun k => match k with
  | 0 => .object "PrivateViews$Sheet"
  | 1 => .array (.object "PrivateViews$View")
  | 2 => .object "PrivateViews$Log"
  | _ => .object "PrivateViews$Edit"
theorem jnm8 : ∀ a, a < 4 → ∀ b, b < 4 → a ≠ b → (jF8 a).2.1 ≠ (jF8 b).2.1 := by decide +kernel
theorem jty8 : ∀ k, k < 4 → parseFieldDescriptor (jF8 k).2.2.1 = some (jt8 k) := by decide +kernel
def jN9 : String := "PrivateViews$Texts"
def jF9 : u_T := fun k => match k with
  | 0 => ("PrivateViews$Texts", "columns", "I", false)
  | 1 => ("PrivateViews$Texts", "kindsTold", "[I", true)
  | 2 => ("PrivateViews$Texts", "rowsTold", "I", false)
  | 3 => ("PrivateViews$Texts", "widths", "[I", true)
  | 4 => ("PrivateViews$Texts", "values", "[I", true)
  | _ => ("PrivateViews$Texts", "lens", "LPrivateViews$Lens;", true)
def jt9 : Nat → FieldType := fun k => match k with
  | 0 => .int
  | 1 => .array .int
  | 2 => .int
  | 3 => .array .int
  | 4 => .array .int
  | _ => .object "PrivateViews$Lens"
theorem jnm9 : ∀ a, a < 6 → ∀ b, b < 6 → a ≠ b → (jF9 a).2.1 ≠ (jF9 b).2.1 := by decide +kernel
theorem jty9 : ∀ k, k < 6 → parseFieldDescriptor (jF9 k).2.2.1 = some (jt9 k) := by decide +kernel
def jN10 : String := "PrivateViews$View"
def jF10 : u_T := fun k => match k with
  | 0 => ("PrivateViews$View", "lens", "LPrivateViews$Lens;", true)
  | 1 => ("PrivateViews$View", "list", "LPrivateViews$RowList;", true)
  | 2 => ("PrivateViews$View", "edits", "[LPrivateViews$Edit;", true)
  | _ => ("PrivateViews$View", "remembered", "I", false)
def jt10 : Nat → FieldType := fun k => match k with
  | 0 => .object "PrivateViews$Lens"
  | 1 => .object "PrivateViews$RowList"
  | 2 => .array (.object "PrivateViews$Edit")
  | _ => .int
theorem jnm10 : ∀ a, a < 4 → ∀ b, b < 4 → a ≠ b → (jF10 a).2.1 ≠ (jF10 b).2.1 := by decide +kernel
theorem jty10 : ∀ k, k < 4 → parseFieldDescriptor (jF10 k).2.2.1 = some (jt10 k) := by decide +kernel
def jN11 : String := "PrivateViews"
def jF11 : u_T := fun k => match k with
  | 0 => ("PrivateViews", "reader", "LPrivateViews$Reader;", true)
  | 1 => ("PrivateViews", "texts", "LPrivateViews$Texts;", true)
  | 2 => ("PrivateViews", "now", "LPrivateViews$State;", true)
  | 3 => ("PrivateViews", "questions", "LPrivateViews$Questions;", true)
  | _ => ("PrivateViews", "kept", "LPrivateViews$State;", false)
def jt11 : Nat → FieldType := fun k => match k with
  | 0 => .object "PrivateViews$Reader"
  | 1 => .object "PrivateViews$Texts"
  | 2 => .object "PrivateViews$State"
  | 3 => .object "PrivateViews$Questions"
  | _ => .object "PrivateViews$State"
theorem jnm11 : ∀ a, a < 5 → ∀ b, b < 5 → a ≠ b → (jF11 a).2.1 ≠ (jF11 b).2.1 := by decide +kernel
theorem jty11 : ∀ k, k < 5 → parseFieldDescriptor (jF11 k).2.2.1 = some (jt11 k) := by decide +kernel
def jN12 : String := "PrivateViewsModel"
def jF12 : u_T := fun k => match k with
  | 0 => ("PrivateViewsModel", "thrown", "I", false)
  | 1 => ("PrivateViewsModel", "world", "[I", true)
  | 2 => ("PrivateViewsModel", "image", "[I", true)
  | 3 => ("PrivateViewsModel", "earlier", "[I", true)
  | 4 => ("PrivateViewsModel", "hasImage", "Z", false)
  | 5 => ("PrivateViewsModel", "tape", "[B", true)
  | 6 => ("PrivateViewsModel", "taped", "I", false)
  | 7 => ("PrivateViewsModel", "point", "I", false)
  | 8 => ("PrivateViewsModel", "end", "I", false)
  | 9 => ("PrivateViewsModel", "begin", "I", false)
  | 10 => ("PrivateViewsModel", "read", "I", false)
  | 11 => ("PrivateViewsModel", "faultAt", "I", false)
  | 12 => ("PrivateViewsModel", "five", "[I", true)
  | 13 => ("PrivateViewsModel", "fresh", "[I", true)
  | 14 => ("PrivateViewsModel", "draft", "[I", true)
  | 15 => ("PrivateViewsModel", "grid", "[I", true)
  | 16 => ("PrivateViewsModel", "grids", "I", false)
  | 17 => ("PrivateViewsModel", "rising", "[I", true)
  | _ => ("PrivateViewsModel", "tried", "[I", true)
def jt12 : Nat → FieldType := fun k => match k with
  | 0 => .int
  | 1 => .array .int
  | 2 => .array .int
  | 3 => .array .int
  | 4 => .boolean
  | 5 => .array .byte
  | 6 => .int
  | 7 => .int
  | 8 => .int
  | 9 => .int
  | 10 => .int
  | 11 => .int
  | 12 => .array .int
  | 13 => .array .int
  | 14 => .array .int
  | 15 => .array .int
  | 16 => .int
  | 17 => .array .int
  | _ => .array .int
theorem jnm12 : ∀ a, a < 19 → ∀ b, b < 19 → a ≠ b → (jF12 a).2.1 ≠ (jF12 b).2.1 := by decide +kernel
theorem jty12 : ∀ k, k < 19 → parseFieldDescriptor (jF12 k).2.2.1 = some (jt12 k) := by decide +kernel
abbrev jcl : List vw_C := [(jN0, jF0, 5), (jN1, jF1, 5), (jN2, jF2, 4), (jN3, jF3, 3), (jN4, jF4, 7), (jN5, jF5, 7), (jN6, jF6, 2), (jN7, jF7, 8), (jN8, jF8, 4), (jN9, jF9, 6), (jN10, jF10, 4), (jN11, jF11, 5), (jN12, jF12, 19)]
def jTB : List Cond := lw_tbl.filter goodWord
theorem jtb {w : Cond} (h : w ∈ tables_1) (g : goodWord w = true) : w ∈ jTB := List.mem_filter.mpr ⟨List.mem_append_right _ h, g⟩
theorem jtbs {w : Cond} (h : w ∈ k2_sels lw_privs) (g : goodWord w = true) : w ∈ jTB := List.mem_filter.mpr ⟨List.mem_append_left _ h, g⟩
theorem jin0 : ∀ w ∈ u_ws jN0 jF0 5, w ∈ jTB := by decide +kernel
theorem jin1 : ∀ w ∈ u_ws jN1 jF1 5, w ∈ jTB := by decide +kernel
theorem jin2 : ∀ w ∈ u_ws jN2 jF2 4, w ∈ jTB := by decide +kernel
theorem jin3 : ∀ w ∈ u_ws jN3 jF3 3, w ∈ jTB := by decide +kernel
theorem jin4 : ∀ w ∈ u_ws jN4 jF4 7, w ∈ jTB := by decide +kernel
theorem jin5 : ∀ w ∈ u_ws jN5 jF5 7, w ∈ jTB := by decide +kernel
theorem jin6 : ∀ w ∈ u_ws jN6 jF6 2, w ∈ jTB := by decide +kernel
theorem jin7 : ∀ w ∈ u_ws jN7 jF7 8, w ∈ jTB := by decide +kernel
theorem jin8 : ∀ w ∈ u_ws jN8 jF8 4, w ∈ jTB := by decide +kernel
theorem jin9 : ∀ w ∈ u_ws jN9 jF9 6, w ∈ jTB := by decide +kernel
theorem jin10 : ∀ w ∈ u_ws jN10 jF10 4, w ∈ jTB := by decide +kernel
theorem jin11 : ∀ w ∈ u_ws jN11 jF11 5, w ∈ jTB := by decide +kernel
theorem jin12 : ∀ w ∈ u_ws jN12 jF12 19, w ∈ jTB := by decide +kernel

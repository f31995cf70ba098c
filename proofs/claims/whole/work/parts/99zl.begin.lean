def jTm : Nat → Term := fun i => match i with
  | 0 => .string "PrivateViews$Texts" 81
  | 1 => .string "PrivateViews$Texts" 94
  | 2 => .string "PrivateViews$Texts" 99
  | 3 => .string "PrivateViews$Texts" 101
  | 4 => .string "PrivateViews$Texts" 195
  | 5 => .string "PrivateViews$Texts" 199
  | 6 => .string "PrivateViews$Texts" 197
  | 7 => .string "PrivateViews$Texts" 182
  | 8 => .string "PrivateViews$Texts" 131
  | 9 => .string "PrivateViews$Texts" 137
  | _ => .string "PrivateViews$Texts" 139
theorem st_ex {args : Array Value} {s : State} (hg : ∀ c ∈ flatC (Jvm.Cond.and given_1 narrow_1), c.before args s = true) : ∀ i : Nat, i < 11 → (Cond.exactly (jTm i) "java/lang/String").before args s = true := by
  intro i hi
  match i, hi with
  | 0, _ => exact hg _ (List.mem_of_getElem? (i := 153) (by decide +kernel))
  | 1, _ => exact hg _ (List.mem_of_getElem? (i := 185) (by decide +kernel))
  | 2, _ => exact hg _ (List.mem_of_getElem? (i := 164) (by decide +kernel))
  | 3, _ => exact hg _ (List.mem_of_getElem? (i := 175) (by decide +kernel))
  | 4, _ => exact hg _ (List.mem_of_getElem? (i := 232) (by decide +kernel))
  | 5, _ => exact hg _ (List.mem_of_getElem? (i := 220) (by decide +kernel))
  | 6, _ => exact hg _ (List.mem_of_getElem? (i := 195) (by decide +kernel))
  | 7, _ => exact hg _ (List.mem_of_getElem? (i := 206) (by decide +kernel))
  | 8, _ => exact hg _ (List.mem_of_getElem? (i := 245) (by decide +kernel))
  | 9, _ => exact hg _ (List.mem_of_getElem? (i := 259) (by decide +kernel))
  | 10, _ => exact hg _ (List.mem_of_getElem? (i := 276) (by decide +kernel))
  | i + 11, h => exact absurd h (by omega)
theorem st_co {args : Array Value} {s : State} (hg : ∀ c ∈ flatC (Jvm.Cond.and given_1 narrow_1), c.before args s = true) : ∀ i : Nat, i < 11 → (Cond.eq (.field (jTm i) "java/lang/String" "coder" "B") (.int 0)).before args s = true := by
  intro i hi
  match i, hi with
  | 0, _ => exact hg _ (List.mem_of_getElem? (i := 154) (by decide +kernel))
  | 1, _ => exact hg _ (List.mem_of_getElem? (i := 186) (by decide +kernel))
  | 2, _ => exact hg _ (List.mem_of_getElem? (i := 165) (by decide +kernel))
  | 3, _ => exact hg _ (List.mem_of_getElem? (i := 176) (by decide +kernel))
  | 4, _ => exact hg _ (List.mem_of_getElem? (i := 233) (by decide +kernel))
  | 5, _ => exact hg _ (List.mem_of_getElem? (i := 221) (by decide +kernel))
  | 6, _ => exact hg _ (List.mem_of_getElem? (i := 196) (by decide +kernel))
  | 7, _ => exact hg _ (List.mem_of_getElem? (i := 207) (by decide +kernel))
  | 8, _ => exact hg _ (List.mem_of_getElem? (i := 246) (by decide +kernel))
  | 9, _ => exact hg _ (List.mem_of_getElem? (i := 260) (by decide +kernel))
  | 10, _ => exact hg _ (List.mem_of_getElem? (i := 277) (by decide +kernel))
  | i + 11, h => exact absurd h (by omega)
theorem st_ar {args : Array Value} {s : State} (hg : ∀ c ∈ flatC (Jvm.Cond.and given_1 narrow_1), c.before args s = true) : ∀ i : Nat, i < 11 → (Cond.arrayOf (.field (jTm i) "java/lang/String" "value" "[B") .byte).before args s = true := by
  intro i hi
  match i, hi with
  | 0, _ => exact hg _ (List.mem_of_getElem? (i := 155) (by decide +kernel))
  | 1, _ => exact hg _ (List.mem_of_getElem? (i := 187) (by decide +kernel))
  | 2, _ => exact hg _ (List.mem_of_getElem? (i := 166) (by decide +kernel))
  | 3, _ => exact hg _ (List.mem_of_getElem? (i := 177) (by decide +kernel))
  | 4, _ => exact hg _ (List.mem_of_getElem? (i := 234) (by decide +kernel))
  | 5, _ => exact hg _ (List.mem_of_getElem? (i := 222) (by decide +kernel))
  | 6, _ => exact hg _ (List.mem_of_getElem? (i := 197) (by decide +kernel))
  | 7, _ => exact hg _ (List.mem_of_getElem? (i := 208) (by decide +kernel))
  | 8, _ => exact hg _ (List.mem_of_getElem? (i := 247) (by decide +kernel))
  | 9, _ => exact hg _ (List.mem_of_getElem? (i := 261) (by decide +kernel))
  | 10, _ => exact hg _ (List.mem_of_getElem? (i := 278) (by decide +kernel))
  | i + 11, h => exact absurd h (by omega)
theorem st_le {args : Array Value} {s : State} (hg : ∀ c ∈ flatC (Jvm.Cond.and given_1 narrow_1), c.before args s = true) : ∀ i : Nat, i < 11 → (Cond.eq (.length (.field (jTm i) "java/lang/String" "value" "[B")) (.int (Int32.ofNat (jSl.getD i 0)))).before args s = true := by
  intro i hi
  match i, hi with
  | 0, _ => exact hg _ (List.mem_of_getElem? (i := 156) (by decide +kernel))
  | 1, _ => exact hg _ (List.mem_of_getElem? (i := 188) (by decide +kernel))
  | 2, _ => exact hg _ (List.mem_of_getElem? (i := 167) (by decide +kernel))
  | 3, _ => exact hg _ (List.mem_of_getElem? (i := 178) (by decide +kernel))
  | 4, _ => exact hg _ (List.mem_of_getElem? (i := 235) (by decide +kernel))
  | 5, _ => exact hg _ (List.mem_of_getElem? (i := 223) (by decide +kernel))
  | 6, _ => exact hg _ (List.mem_of_getElem? (i := 198) (by decide +kernel))
  | 7, _ => exact hg _ (List.mem_of_getElem? (i := 209) (by decide +kernel))
  | 8, _ => exact hg _ (List.mem_of_getElem? (i := 248) (by decide +kernel))
  | 9, _ => exact hg _ (List.mem_of_getElem? (i := 262) (by decide +kernel))
  | 10, _ => exact hg _ (List.mem_of_getElem? (i := 279) (by decide +kernel))
  | i + 11, h => exact absurd h (by omega)
theorem st_el_0 {args : Array Value} {s : State} (hg : ∀ c ∈ flatC (Jvm.Cond.and given_1 narrow_1), c.before args s = true) : ∀ j : Nat, j < 7 → (Cond.eq (.elem (.field (jTm 0) "java/lang/String" "value" "[B") (.int (Int32.ofNat j))) (.int ((jSb.getD 0 []).getD j 0))).before args s = true := by
  intro j hj
  match j, hj with
  | 0, _ => exact hg _ (List.mem_of_getElem? (i := 157) (by decide +kernel))
  | 1, _ => exact hg _ (List.mem_of_getElem? (i := 158) (by decide +kernel))
  | 2, _ => exact hg _ (List.mem_of_getElem? (i := 159) (by decide +kernel))
  | 3, _ => exact hg _ (List.mem_of_getElem? (i := 160) (by decide +kernel))
  | 4, _ => exact hg _ (List.mem_of_getElem? (i := 161) (by decide +kernel))
  | 5, _ => exact hg _ (List.mem_of_getElem? (i := 162) (by decide +kernel))
  | 6, _ => exact hg _ (List.mem_of_getElem? (i := 163) (by decide +kernel))
  | j + 7, h => exact absurd h (by omega)
theorem st_el_1 {args : Array Value} {s : State} (hg : ∀ c ∈ flatC (Jvm.Cond.and given_1 narrow_1), c.before args s = true) : ∀ j : Nat, j < 3 → (Cond.eq (.elem (.field (jTm 1) "java/lang/String" "value" "[B") (.int (Int32.ofNat j))) (.int ((jSb.getD 1 []).getD j 0))).before args s = true := by
  intro j hj
  match j, hj with
  | 0, _ => exact hg _ (List.mem_of_getElem? (i := 189) (by decide +kernel))
  | 1, _ => exact hg _ (List.mem_of_getElem? (i := 190) (by decide +kernel))
  | 2, _ => exact hg _ (List.mem_of_getElem? (i := 191) (by decide +kernel))
  | j + 3, h => exact absurd h (by omega)
theorem st_el_2 {args : Array Value} {s : State} (hg : ∀ c ∈ flatC (Jvm.Cond.and given_1 narrow_1), c.before args s = true) : ∀ j : Nat, j < 6 → (Cond.eq (.elem (.field (jTm 2) "java/lang/String" "value" "[B") (.int (Int32.ofNat j))) (.int ((jSb.getD 2 []).getD j 0))).before args s = true := by
  intro j hj
  match j, hj with
  | 0, _ => exact hg _ (List.mem_of_getElem? (i := 168) (by decide +kernel))
  | 1, _ => exact hg _ (List.mem_of_getElem? (i := 169) (by decide +kernel))
  | 2, _ => exact hg _ (List.mem_of_getElem? (i := 170) (by decide +kernel))
  | 3, _ => exact hg _ (List.mem_of_getElem? (i := 171) (by decide +kernel))
  | 4, _ => exact hg _ (List.mem_of_getElem? (i := 172) (by decide +kernel))
  | 5, _ => exact hg _ (List.mem_of_getElem? (i := 173) (by decide +kernel))
  | j + 6, h => exact absurd h (by omega)
theorem st_el_3 {args : Array Value} {s : State} (hg : ∀ c ∈ flatC (Jvm.Cond.and given_1 narrow_1), c.before args s = true) : ∀ j : Nat, j < 4 → (Cond.eq (.elem (.field (jTm 3) "java/lang/String" "value" "[B") (.int (Int32.ofNat j))) (.int ((jSb.getD 3 []).getD j 0))).before args s = true := by
  intro j hj
  match j, hj with
  | 0, _ => exact hg _ (List.mem_of_getElem? (i := 179) (by decide +kernel))
  | 1, _ => exact hg _ (List.mem_of_getElem? (i := 180) (by decide +kernel))
  | 2, _ => exact hg _ (List.mem_of_getElem? (i := 181) (by decide +kernel))
  | 3, _ => exact hg _ (List.mem_of_getElem? (i := 182) (by decide +kernel))
  | j + 4, h => exact absurd h (by omega)
theorem st_el_4 {args : Array Value} {s : State} (hg : ∀ c ∈ flatC (Jvm.Cond.and given_1 narrow_1), c.before args s = true) : ∀ j : Nat, j < 2 → (Cond.eq (.elem (.field (jTm 4) "java/lang/String" "value" "[B") (.int (Int32.ofNat j))) (.int ((jSb.getD 4 []).getD j 0))).before args s = true := by
  intro j hj
  match j, hj with
  | 0, _ => exact hg _ (List.mem_of_getElem? (i := 236) (by decide +kernel))
  | 1, _ => exact hg _ (List.mem_of_getElem? (i := 237) (by decide +kernel))
  | j + 2, h => exact absurd h (by omega)
theorem st_el_5 {args : Array Value} {s : State} (hg : ∀ c ∈ flatC (Jvm.Cond.and given_1 narrow_1), c.before args s = true) : ∀ j : Nat, j < 2 → (Cond.eq (.elem (.field (jTm 5) "java/lang/String" "value" "[B") (.int (Int32.ofNat j))) (.int ((jSb.getD 5 []).getD j 0))).before args s = true := by
  intro j hj
  match j, hj with
  | 0, _ => exact hg _ (List.mem_of_getElem? (i := 224) (by decide +kernel))
  | 1, _ => exact hg _ (List.mem_of_getElem? (i := 225) (by decide +kernel))
  | j + 2, h => exact absurd h (by omega)
theorem st_el_6 {args : Array Value} {s : State} (hg : ∀ c ∈ flatC (Jvm.Cond.and given_1 narrow_1), c.before args s = true) : ∀ j : Nat, j < 3 → (Cond.eq (.elem (.field (jTm 6) "java/lang/String" "value" "[B") (.int (Int32.ofNat j))) (.int ((jSb.getD 6 []).getD j 0))).before args s = true := by
  intro j hj
  match j, hj with
  | 0, _ => exact hg _ (List.mem_of_getElem? (i := 199) (by decide +kernel))
  | 1, _ => exact hg _ (List.mem_of_getElem? (i := 200) (by decide +kernel))
  | 2, _ => exact hg _ (List.mem_of_getElem? (i := 201) (by decide +kernel))
  | j + 3, h => exact absurd h (by omega)
theorem st_el_7 {args : Array Value} {s : State} (hg : ∀ c ∈ flatC (Jvm.Cond.and given_1 narrow_1), c.before args s = true) : ∀ j : Nat, j < 5 → (Cond.eq (.elem (.field (jTm 7) "java/lang/String" "value" "[B") (.int (Int32.ofNat j))) (.int ((jSb.getD 7 []).getD j 0))).before args s = true := by
  intro j hj
  match j, hj with
  | 0, _ => exact hg _ (List.mem_of_getElem? (i := 210) (by decide +kernel))
  | 1, _ => exact hg _ (List.mem_of_getElem? (i := 211) (by decide +kernel))
  | 2, _ => exact hg _ (List.mem_of_getElem? (i := 212) (by decide +kernel))
  | 3, _ => exact hg _ (List.mem_of_getElem? (i := 213) (by decide +kernel))
  | 4, _ => exact hg _ (List.mem_of_getElem? (i := 214) (by decide +kernel))
  | j + 5, h => exact absurd h (by omega)
theorem st_el_8 {args : Array Value} {s : State} (hg : ∀ c ∈ flatC (Jvm.Cond.and given_1 narrow_1), c.before args s = true) : ∀ j : Nat, j < 2 → (Cond.eq (.elem (.field (jTm 8) "java/lang/String" "value" "[B") (.int (Int32.ofNat j))) (.int ((jSb.getD 8 []).getD j 0))).before args s = true := by
  intro j hj
  match j, hj with
  | 0, _ => exact hg _ (List.mem_of_getElem? (i := 249) (by decide +kernel))
  | 1, _ => exact hg _ (List.mem_of_getElem? (i := 250) (by decide +kernel))
  | j + 2, h => exact absurd h (by omega)
theorem st_el_9 {args : Array Value} {s : State} (hg : ∀ c ∈ flatC (Jvm.Cond.and given_1 narrow_1), c.before args s = true) : ∀ j : Nat, j < 4 → (Cond.eq (.elem (.field (jTm 9) "java/lang/String" "value" "[B") (.int (Int32.ofNat j))) (.int ((jSb.getD 9 []).getD j 0))).before args s = true := by
  intro j hj
  match j, hj with
  | 0, _ => exact hg _ (List.mem_of_getElem? (i := 263) (by decide +kernel))
  | 1, _ => exact hg _ (List.mem_of_getElem? (i := 264) (by decide +kernel))
  | 2, _ => exact hg _ (List.mem_of_getElem? (i := 265) (by decide +kernel))
  | 3, _ => exact hg _ (List.mem_of_getElem? (i := 266) (by decide +kernel))
  | j + 4, h => exact absurd h (by omega)
theorem st_el_10 {args : Array Value} {s : State} (hg : ∀ c ∈ flatC (Jvm.Cond.and given_1 narrow_1), c.before args s = true) : ∀ j : Nat, j < 4 → (Cond.eq (.elem (.field (jTm 10) "java/lang/String" "value" "[B") (.int (Int32.ofNat j))) (.int ((jSb.getD 10 []).getD j 0))).before args s = true := by
  intro j hj
  match j, hj with
  | 0, _ => exact hg _ (List.mem_of_getElem? (i := 280) (by decide +kernel))
  | 1, _ => exact hg _ (List.mem_of_getElem? (i := 281) (by decide +kernel))
  | 2, _ => exact hg _ (List.mem_of_getElem? (i := 282) (by decide +kernel))
  | 3, _ => exact hg _ (List.mem_of_getElem? (i := 283) (by decide +kernel))
  | j + 4, h => exact absurd h (by omega)
theorem st_el {args : Array Value} {s : State} (hg : ∀ c ∈ flatC (Jvm.Cond.and given_1 narrow_1), c.before args s = true) : ∀ i : Nat, i < 11 → ∀ j : Nat, j < jSl.getD i 0 → (Cond.eq (.elem (.field (jTm i) "java/lang/String" "value" "[B") (.int (Int32.ofNat j))) (.int ((jSb.getD i []).getD j 0))).before args s = true := by
  intro i hi
  match i, hi with
  | 0, _ => exact st_el_0 hg
  | 1, _ => exact st_el_1 hg
  | 2, _ => exact st_el_2 hg
  | 3, _ => exact st_el_3 hg
  | 4, _ => exact st_el_4 hg
  | 5, _ => exact st_el_5 hg
  | 6, _ => exact st_el_6 hg
  | 7, _ => exact st_el_7 hg
  | 8, _ => exact st_el_8 hg
  | 9, _ => exact st_el_9 hg
  | 10, _ => exact st_el_10 hg
  | i + 11, h => exact absurd h (by omega)
theorem st_ne_0 {args : Array Value} {s : State} (hg : ∀ c ∈ flatC (Jvm.Cond.and given_1 narrow_1), c.before args s = true) : ∀ j : Nat, j < 11 → 0 ≠ j → (Cond.not (Cond.eq (jTm 0) (jTm j))).before args s = true ∨ (Cond.not (Cond.eq (jTm j) (jTm 0))).before args s = true := by
  intro j hj hne
  match j, hj, hne with
  | 0, _, h => exact absurd rfl h
  | 1, _, _ => exact Or.inl (hg _ (List.mem_of_getElem? (i := 192) (by decide +kernel)))
  | 2, _, _ => exact Or.inl (hg _ (List.mem_of_getElem? (i := 174) (by decide +kernel)))
  | 3, _, _ => exact Or.inl (hg _ (List.mem_of_getElem? (i := 183) (by decide +kernel)))
  | 4, _, _ => exact Or.inl (hg _ (List.mem_of_getElem? (i := 238) (by decide +kernel)))
  | 5, _, _ => exact Or.inl (hg _ (List.mem_of_getElem? (i := 226) (by decide +kernel)))
  | 6, _, _ => exact Or.inl (hg _ (List.mem_of_getElem? (i := 202) (by decide +kernel)))
  | 7, _, _ => exact Or.inl (hg _ (List.mem_of_getElem? (i := 215) (by decide +kernel)))
  | 8, _, _ => exact Or.inl (hg _ (List.mem_of_getElem? (i := 251) (by decide +kernel)))
  | 9, _, _ => exact Or.inl (hg _ (List.mem_of_getElem? (i := 267) (by decide +kernel)))
  | 10, _, _ => exact Or.inl (hg _ (List.mem_of_getElem? (i := 284) (by decide +kernel)))
  | j + 11, h, _ => exact absurd h (by omega)
theorem st_ne_1 {args : Array Value} {s : State} (hg : ∀ c ∈ flatC (Jvm.Cond.and given_1 narrow_1), c.before args s = true) : ∀ j : Nat, j < 11 → 1 ≠ j → (Cond.not (Cond.eq (jTm 1) (jTm j))).before args s = true ∨ (Cond.not (Cond.eq (jTm j) (jTm 1))).before args s = true := by
  intro j hj hne
  match j, hj, hne with
  | 0, _, _ => exact Or.inr (hg _ (List.mem_of_getElem? (i := 192) (by decide +kernel)))
  | 1, _, h => exact absurd rfl h
  | 2, _, _ => exact Or.inr (hg _ (List.mem_of_getElem? (i := 193) (by decide +kernel)))
  | 3, _, _ => exact Or.inr (hg _ (List.mem_of_getElem? (i := 194) (by decide +kernel)))
  | 4, _, _ => exact Or.inl (hg _ (List.mem_of_getElem? (i := 241) (by decide +kernel)))
  | 5, _, _ => exact Or.inl (hg _ (List.mem_of_getElem? (i := 229) (by decide +kernel)))
  | 6, _, _ => exact Or.inl (hg _ (List.mem_of_getElem? (i := 205) (by decide +kernel)))
  | 7, _, _ => exact Or.inl (hg _ (List.mem_of_getElem? (i := 218) (by decide +kernel)))
  | 8, _, _ => exact Or.inl (hg _ (List.mem_of_getElem? (i := 254) (by decide +kernel)))
  | 9, _, _ => exact Or.inl (hg _ (List.mem_of_getElem? (i := 270) (by decide +kernel)))
  | 10, _, _ => exact Or.inl (hg _ (List.mem_of_getElem? (i := 287) (by decide +kernel)))
  | j + 11, h, _ => exact absurd h (by omega)
theorem st_ne_2 {args : Array Value} {s : State} (hg : ∀ c ∈ flatC (Jvm.Cond.and given_1 narrow_1), c.before args s = true) : ∀ j : Nat, j < 11 → 2 ≠ j → (Cond.not (Cond.eq (jTm 2) (jTm j))).before args s = true ∨ (Cond.not (Cond.eq (jTm j) (jTm 2))).before args s = true := by
  intro j hj hne
  match j, hj, hne with
  | 0, _, _ => exact Or.inr (hg _ (List.mem_of_getElem? (i := 174) (by decide +kernel)))
  | 1, _, _ => exact Or.inl (hg _ (List.mem_of_getElem? (i := 193) (by decide +kernel)))
  | 2, _, h => exact absurd rfl h
  | 3, _, _ => exact Or.inl (hg _ (List.mem_of_getElem? (i := 184) (by decide +kernel)))
  | 4, _, _ => exact Or.inl (hg _ (List.mem_of_getElem? (i := 239) (by decide +kernel)))
  | 5, _, _ => exact Or.inl (hg _ (List.mem_of_getElem? (i := 227) (by decide +kernel)))
  | 6, _, _ => exact Or.inl (hg _ (List.mem_of_getElem? (i := 203) (by decide +kernel)))
  | 7, _, _ => exact Or.inl (hg _ (List.mem_of_getElem? (i := 216) (by decide +kernel)))
  | 8, _, _ => exact Or.inl (hg _ (List.mem_of_getElem? (i := 252) (by decide +kernel)))
  | 9, _, _ => exact Or.inl (hg _ (List.mem_of_getElem? (i := 268) (by decide +kernel)))
  | 10, _, _ => exact Or.inl (hg _ (List.mem_of_getElem? (i := 285) (by decide +kernel)))
  | j + 11, h, _ => exact absurd h (by omega)
theorem st_ne_3 {args : Array Value} {s : State} (hg : ∀ c ∈ flatC (Jvm.Cond.and given_1 narrow_1), c.before args s = true) : ∀ j : Nat, j < 11 → 3 ≠ j → (Cond.not (Cond.eq (jTm 3) (jTm j))).before args s = true ∨ (Cond.not (Cond.eq (jTm j) (jTm 3))).before args s = true := by
  intro j hj hne
  match j, hj, hne with
  | 0, _, _ => exact Or.inr (hg _ (List.mem_of_getElem? (i := 183) (by decide +kernel)))
  | 1, _, _ => exact Or.inl (hg _ (List.mem_of_getElem? (i := 194) (by decide +kernel)))
  | 2, _, _ => exact Or.inr (hg _ (List.mem_of_getElem? (i := 184) (by decide +kernel)))
  | 3, _, h => exact absurd rfl h
  | 4, _, _ => exact Or.inl (hg _ (List.mem_of_getElem? (i := 240) (by decide +kernel)))
  | 5, _, _ => exact Or.inl (hg _ (List.mem_of_getElem? (i := 228) (by decide +kernel)))
  | 6, _, _ => exact Or.inl (hg _ (List.mem_of_getElem? (i := 204) (by decide +kernel)))
  | 7, _, _ => exact Or.inl (hg _ (List.mem_of_getElem? (i := 217) (by decide +kernel)))
  | 8, _, _ => exact Or.inl (hg _ (List.mem_of_getElem? (i := 253) (by decide +kernel)))
  | 9, _, _ => exact Or.inl (hg _ (List.mem_of_getElem? (i := 269) (by decide +kernel)))
  | 10, _, _ => exact Or.inl (hg _ (List.mem_of_getElem? (i := 286) (by decide +kernel)))
  | j + 11, h, _ => exact absurd h (by omega)
theorem st_ne_4 {args : Array Value} {s : State} (hg : ∀ c ∈ flatC (Jvm.Cond.and given_1 narrow_1), c.before args s = true) : ∀ j : Nat, j < 11 → 4 ≠ j → (Cond.not (Cond.eq (jTm 4) (jTm j))).before args s = true ∨ (Cond.not (Cond.eq (jTm j) (jTm 4))).before args s = true := by
  intro j hj hne
  match j, hj, hne with
  | 0, _, _ => exact Or.inr (hg _ (List.mem_of_getElem? (i := 238) (by decide +kernel)))
  | 1, _, _ => exact Or.inr (hg _ (List.mem_of_getElem? (i := 241) (by decide +kernel)))
  | 2, _, _ => exact Or.inr (hg _ (List.mem_of_getElem? (i := 239) (by decide +kernel)))
  | 3, _, _ => exact Or.inr (hg _ (List.mem_of_getElem? (i := 240) (by decide +kernel)))
  | 4, _, h => exact absurd rfl h
  | 5, _, _ => exact Or.inr (hg _ (List.mem_of_getElem? (i := 244) (by decide +kernel)))
  | 6, _, _ => exact Or.inr (hg _ (List.mem_of_getElem? (i := 242) (by decide +kernel)))
  | 7, _, _ => exact Or.inr (hg _ (List.mem_of_getElem? (i := 243) (by decide +kernel)))
  | 8, _, _ => exact Or.inl (hg _ (List.mem_of_getElem? (i := 258) (by decide +kernel)))
  | 9, _, _ => exact Or.inl (hg _ (List.mem_of_getElem? (i := 274) (by decide +kernel)))
  | 10, _, _ => exact Or.inl (hg _ (List.mem_of_getElem? (i := 291) (by decide +kernel)))
  | j + 11, h, _ => exact absurd h (by omega)
theorem st_ne_5 {args : Array Value} {s : State} (hg : ∀ c ∈ flatC (Jvm.Cond.and given_1 narrow_1), c.before args s = true) : ∀ j : Nat, j < 11 → 5 ≠ j → (Cond.not (Cond.eq (jTm 5) (jTm j))).before args s = true ∨ (Cond.not (Cond.eq (jTm j) (jTm 5))).before args s = true := by
  intro j hj hne
  match j, hj, hne with
  | 0, _, _ => exact Or.inr (hg _ (List.mem_of_getElem? (i := 226) (by decide +kernel)))
  | 1, _, _ => exact Or.inr (hg _ (List.mem_of_getElem? (i := 229) (by decide +kernel)))
  | 2, _, _ => exact Or.inr (hg _ (List.mem_of_getElem? (i := 227) (by decide +kernel)))
  | 3, _, _ => exact Or.inr (hg _ (List.mem_of_getElem? (i := 228) (by decide +kernel)))
  | 4, _, _ => exact Or.inl (hg _ (List.mem_of_getElem? (i := 244) (by decide +kernel)))
  | 5, _, h => exact absurd rfl h
  | 6, _, _ => exact Or.inr (hg _ (List.mem_of_getElem? (i := 230) (by decide +kernel)))
  | 7, _, _ => exact Or.inr (hg _ (List.mem_of_getElem? (i := 231) (by decide +kernel)))
  | 8, _, _ => exact Or.inl (hg _ (List.mem_of_getElem? (i := 257) (by decide +kernel)))
  | 9, _, _ => exact Or.inl (hg _ (List.mem_of_getElem? (i := 273) (by decide +kernel)))
  | 10, _, _ => exact Or.inl (hg _ (List.mem_of_getElem? (i := 290) (by decide +kernel)))
  | j + 11, h, _ => exact absurd h (by omega)
theorem st_ne_6 {args : Array Value} {s : State} (hg : ∀ c ∈ flatC (Jvm.Cond.and given_1 narrow_1), c.before args s = true) : ∀ j : Nat, j < 11 → 6 ≠ j → (Cond.not (Cond.eq (jTm 6) (jTm j))).before args s = true ∨ (Cond.not (Cond.eq (jTm j) (jTm 6))).before args s = true := by
  intro j hj hne
  match j, hj, hne with
  | 0, _, _ => exact Or.inr (hg _ (List.mem_of_getElem? (i := 202) (by decide +kernel)))
  | 1, _, _ => exact Or.inr (hg _ (List.mem_of_getElem? (i := 205) (by decide +kernel)))
  | 2, _, _ => exact Or.inr (hg _ (List.mem_of_getElem? (i := 203) (by decide +kernel)))
  | 3, _, _ => exact Or.inr (hg _ (List.mem_of_getElem? (i := 204) (by decide +kernel)))
  | 4, _, _ => exact Or.inl (hg _ (List.mem_of_getElem? (i := 242) (by decide +kernel)))
  | 5, _, _ => exact Or.inl (hg _ (List.mem_of_getElem? (i := 230) (by decide +kernel)))
  | 6, _, h => exact absurd rfl h
  | 7, _, _ => exact Or.inl (hg _ (List.mem_of_getElem? (i := 219) (by decide +kernel)))
  | 8, _, _ => exact Or.inl (hg _ (List.mem_of_getElem? (i := 255) (by decide +kernel)))
  | 9, _, _ => exact Or.inl (hg _ (List.mem_of_getElem? (i := 271) (by decide +kernel)))
  | 10, _, _ => exact Or.inl (hg _ (List.mem_of_getElem? (i := 288) (by decide +kernel)))
  | j + 11, h, _ => exact absurd h (by omega)
theorem st_ne_7 {args : Array Value} {s : State} (hg : ∀ c ∈ flatC (Jvm.Cond.and given_1 narrow_1), c.before args s = true) : ∀ j : Nat, j < 11 → 7 ≠ j → (Cond.not (Cond.eq (jTm 7) (jTm j))).before args s = true ∨ (Cond.not (Cond.eq (jTm j) (jTm 7))).before args s = true := by
  intro j hj hne
  match j, hj, hne with
  | 0, _, _ => exact Or.inr (hg _ (List.mem_of_getElem? (i := 215) (by decide +kernel)))
  | 1, _, _ => exact Or.inr (hg _ (List.mem_of_getElem? (i := 218) (by decide +kernel)))
  | 2, _, _ => exact Or.inr (hg _ (List.mem_of_getElem? (i := 216) (by decide +kernel)))
  | 3, _, _ => exact Or.inr (hg _ (List.mem_of_getElem? (i := 217) (by decide +kernel)))
  | 4, _, _ => exact Or.inl (hg _ (List.mem_of_getElem? (i := 243) (by decide +kernel)))
  | 5, _, _ => exact Or.inl (hg _ (List.mem_of_getElem? (i := 231) (by decide +kernel)))
  | 6, _, _ => exact Or.inr (hg _ (List.mem_of_getElem? (i := 219) (by decide +kernel)))
  | 7, _, h => exact absurd rfl h
  | 8, _, _ => exact Or.inl (hg _ (List.mem_of_getElem? (i := 256) (by decide +kernel)))
  | 9, _, _ => exact Or.inl (hg _ (List.mem_of_getElem? (i := 272) (by decide +kernel)))
  | 10, _, _ => exact Or.inl (hg _ (List.mem_of_getElem? (i := 289) (by decide +kernel)))
  | j + 11, h, _ => exact absurd h (by omega)
theorem st_ne_8 {args : Array Value} {s : State} (hg : ∀ c ∈ flatC (Jvm.Cond.and given_1 narrow_1), c.before args s = true) : ∀ j : Nat, j < 11 → 8 ≠ j → (Cond.not (Cond.eq (jTm 8) (jTm j))).before args s = true ∨ (Cond.not (Cond.eq (jTm j) (jTm 8))).before args s = true := by
  intro j hj hne
  match j, hj, hne with
  | 0, _, _ => exact Or.inr (hg _ (List.mem_of_getElem? (i := 251) (by decide +kernel)))
  | 1, _, _ => exact Or.inr (hg _ (List.mem_of_getElem? (i := 254) (by decide +kernel)))
  | 2, _, _ => exact Or.inr (hg _ (List.mem_of_getElem? (i := 252) (by decide +kernel)))
  | 3, _, _ => exact Or.inr (hg _ (List.mem_of_getElem? (i := 253) (by decide +kernel)))
  | 4, _, _ => exact Or.inr (hg _ (List.mem_of_getElem? (i := 258) (by decide +kernel)))
  | 5, _, _ => exact Or.inr (hg _ (List.mem_of_getElem? (i := 257) (by decide +kernel)))
  | 6, _, _ => exact Or.inr (hg _ (List.mem_of_getElem? (i := 255) (by decide +kernel)))
  | 7, _, _ => exact Or.inr (hg _ (List.mem_of_getElem? (i := 256) (by decide +kernel)))
  | 8, _, h => exact absurd rfl h
  | 9, _, _ => exact Or.inl (hg _ (List.mem_of_getElem? (i := 275) (by decide +kernel)))
  | 10, _, _ => exact Or.inl (hg _ (List.mem_of_getElem? (i := 292) (by decide +kernel)))
  | j + 11, h, _ => exact absurd h (by omega)
theorem st_ne_9 {args : Array Value} {s : State} (hg : ∀ c ∈ flatC (Jvm.Cond.and given_1 narrow_1), c.before args s = true) : ∀ j : Nat, j < 11 → 9 ≠ j → (Cond.not (Cond.eq (jTm 9) (jTm j))).before args s = true ∨ (Cond.not (Cond.eq (jTm j) (jTm 9))).before args s = true := by
  intro j hj hne
  match j, hj, hne with
  | 0, _, _ => exact Or.inr (hg _ (List.mem_of_getElem? (i := 267) (by decide +kernel)))
  | 1, _, _ => exact Or.inr (hg _ (List.mem_of_getElem? (i := 270) (by decide +kernel)))
  | 2, _, _ => exact Or.inr (hg _ (List.mem_of_getElem? (i := 268) (by decide +kernel)))
  | 3, _, _ => exact Or.inr (hg _ (List.mem_of_getElem? (i := 269) (by decide +kernel)))
  | 4, _, _ => exact Or.inr (hg _ (List.mem_of_getElem? (i := 274) (by decide +kernel)))
  | 5, _, _ => exact Or.inr (hg _ (List.mem_of_getElem? (i := 273) (by decide +kernel)))
  | 6, _, _ => exact Or.inr (hg _ (List.mem_of_getElem? (i := 271) (by decide +kernel)))
  | 7, _, _ => exact Or.inr (hg _ (List.mem_of_getElem? (i := 272) (by decide +kernel)))
  | 8, _, _ => exact Or.inr (hg _ (List.mem_of_getElem? (i := 275) (by decide +kernel)))
  | 9, _, h => exact absurd rfl h
  | 10, _, _ => exact Or.inl (hg _ (List.mem_of_getElem? (i := 293) (by decide +kernel)))
  | j + 11, h, _ => exact absurd h (by omega)
theorem st_ne_10 {args : Array Value} {s : State} (hg : ∀ c ∈ flatC (Jvm.Cond.and given_1 narrow_1), c.before args s = true) : ∀ j : Nat, j < 11 → 10 ≠ j → (Cond.not (Cond.eq (jTm 10) (jTm j))).before args s = true ∨ (Cond.not (Cond.eq (jTm j) (jTm 10))).before args s = true := by
  intro j hj hne
  match j, hj, hne with
  | 0, _, _ => exact Or.inr (hg _ (List.mem_of_getElem? (i := 284) (by decide +kernel)))
  | 1, _, _ => exact Or.inr (hg _ (List.mem_of_getElem? (i := 287) (by decide +kernel)))
  | 2, _, _ => exact Or.inr (hg _ (List.mem_of_getElem? (i := 285) (by decide +kernel)))
  | 3, _, _ => exact Or.inr (hg _ (List.mem_of_getElem? (i := 286) (by decide +kernel)))
  | 4, _, _ => exact Or.inr (hg _ (List.mem_of_getElem? (i := 291) (by decide +kernel)))
  | 5, _, _ => exact Or.inr (hg _ (List.mem_of_getElem? (i := 290) (by decide +kernel)))
  | 6, _, _ => exact Or.inr (hg _ (List.mem_of_getElem? (i := 288) (by decide +kernel)))
  | 7, _, _ => exact Or.inr (hg _ (List.mem_of_getElem? (i := 289) (by decide +kernel)))
  | 8, _, _ => exact Or.inr (hg _ (List.mem_of_getElem? (i := 292) (by decide +kernel)))
  | 9, _, _ => exact Or.inr (hg _ (List.mem_of_getElem? (i := 293) (by decide +kernel)))
  | 10, _, h => exact absurd rfl h
  | j + 11, h, _ => exact absurd h (by omega)
theorem st_ne {args : Array Value} {s : State} (hg : ∀ c ∈ flatC (Jvm.Cond.and given_1 narrow_1), c.before args s = true) : ∀ i j : Nat, i < 11 → j < 11 → i ≠ j → (Cond.not (Cond.eq (jTm i) (jTm j))).before args s = true ∨ (Cond.not (Cond.eq (jTm j) (jTm i))).before args s = true := by
  intro i j hi
  match i, hi with
  | 0, _ => exact st_ne_0 hg j
  | 1, _ => exact st_ne_1 hg j
  | 2, _ => exact st_ne_2 hg j
  | 3, _ => exact st_ne_3 hg j
  | 4, _ => exact st_ne_4 hg j
  | 5, _ => exact st_ne_5 hg j
  | 6, _ => exact st_ne_6 hg j
  | 7, _ => exact st_ne_7 hg j
  | 8, _ => exact st_ne_8 hg j
  | 9, _ => exact st_ne_9 hg j
  | 10, _ => exact st_ne_10 hg j
  | i + 11, h => exact absurd h (by omega)
theorem st_nc {args : Array Value} {s : State} (hg : ∀ c ∈ flatC (Jvm.Cond.and given_1 narrow_1), c.before args s = true) : jNcs s := by
  intro a ha b hb hab
  simp only [jEx, List.mem_cons, List.not_mem_nil, or_false] at ha hb
  rcases ha with rfl | rfl | rfl | rfl | rfl
  · rcases hb with rfl | rfl | rfl | rfl | rfl
    · exact absurd rfl hab
    · exact va_Nc.of (hg _ (List.mem_of_getElem? (i := 94) (by decide +kernel)))
    · exact va_Nc.of (hg _ (List.mem_of_getElem? (i := 25) (by decide +kernel)))
    · exact va_Nc.of (hg _ (List.mem_of_getElem? (i := 77) (by decide +kernel)))
    · exact va_Nc.of (hg _ (List.mem_of_getElem? (i := 42) (by decide +kernel)))
  · rcases hb with rfl | rfl | rfl | rfl | rfl
    · exact va_Nc.of (hg _ (List.mem_of_getElem? (i := 61) (by decide +kernel)))
    · exact absurd rfl hab
    · exact va_Nc.of (hg _ (List.mem_of_getElem? (i := 27) (by decide +kernel)))
    · exact va_Nc.of (hg _ (List.mem_of_getElem? (i := 78) (by decide +kernel)))
    · exact va_Nc.of (hg _ (List.mem_of_getElem? (i := 44) (by decide +kernel)))
  · rcases hb with rfl | rfl | rfl | rfl | rfl
    · exact va_Nc.of (hg _ (List.mem_of_getElem? (i := 58) (by decide +kernel)))
    · exact va_Nc.of (hg _ (List.mem_of_getElem? (i := 92) (by decide +kernel)))
    · exact absurd rfl hab
    · exact va_Nc.of (hg _ (List.mem_of_getElem? (i := 75) (by decide +kernel)))
    · exact va_Nc.of (hg _ (List.mem_of_getElem? (i := 41) (by decide +kernel)))
  · rcases hb with rfl | rfl | rfl | rfl | rfl
    · exact va_Nc.of (hg _ (List.mem_of_getElem? (i := 60) (by decide +kernel)))
    · exact va_Nc.of (hg _ (List.mem_of_getElem? (i := 95) (by decide +kernel)))
    · exact va_Nc.of (hg _ (List.mem_of_getElem? (i := 26) (by decide +kernel)))
    · exact absurd rfl hab
    · exact va_Nc.of (hg _ (List.mem_of_getElem? (i := 43) (by decide +kernel)))
  · rcases hb with rfl | rfl | rfl | rfl | rfl
    · exact va_Nc.of (hg _ (List.mem_of_getElem? (i := 59) (by decide +kernel)))
    · exact va_Nc.of (hg _ (List.mem_of_getElem? (i := 93) (by decide +kernel)))
    · exact va_Nc.of (hg _ (List.mem_of_getElem? (i := 24) (by decide +kernel)))
    · exact va_Nc.of (hg _ (List.mem_of_getElem? (i := 76) (by decide +kernel)))
    · exact absurd rfl hab
theorem st_eq {args : Array Value} {s : State} {t u : Term} {a : Nat} (h : (Cond.eq t u).before args s = true) (ht : t.eval args s none [] s = some (.ref a)) : u.eval args s none [] s = some (.ref a) := by
  cases hu : u.eval args s none [] s with
  | none => simp [Cond.before, Cond.holds, Cond.value, ht, hu] at h
  | some w =>
    simp only [Cond.before, Cond.holds, Cond.value, ht, hu] at h
    cases w <;> simp_all
theorem st_int {args : Array Value} {s : State} (h : (Cond.arrayClass .int).before args s = true) : ∃ cA, ArrOfT s cA .int ∧ va_RA s cA .int := by
  obtain ⟨c, k, comp, h1, h2, h3⟩ := Cond.arrayClass_spec h
  exact ⟨c, fun n z => ⟨fun k h => (by cases h), k, h2, comp, h3⟩, h1⟩
theorem st_byte {args : Array Value} {s : State} (h : (Cond.arrayClass .byte).before args s = true) : ∃ cA, ArrOfT s cA .byte ∧ va_RA s cA .byte := by
  obtain ⟨c, k, comp, h1, h2, h3⟩ := Cond.arrayClass_spec h
  exact ⟨c, fun n z => ⟨fun k h => (by cases h), k, h2, comp, h3⟩, h1⟩
theorem st_long {args : Array Value} {s : State} (h : (Cond.arrayClass .long).before args s = true) : ∃ cA, ArrOfT s cA .long ∧ va_RA s cA .long := by
  obtain ⟨c, k, comp, h1, h2, h3⟩ := Cond.arrayClass_spec h
  exact ⟨c, fun n z => ⟨fun k h => (by cases h), k, h2, comp, h3⟩, h1⟩
theorem st_obj {args : Array Value} {s : State} {o : String} (h : (Cond.arrayOver (.object o)).before args s = true) : ∃ cA, ArrOfT s cA (.object o) ∧ va_RA s cA (.object o) := by
  obtain ⟨comp, c, k, h1, h2, h3, h4, h5⟩ := Cond.arrayOver_spec h
  exact ⟨c, fun N z => ⟨(fun k h => by cases h), k, h3, comp, h4⟩, k, comp, h3, h4, h1, h5⟩
theorem jStr_eq : jStr = [("PrivateViews$Texts", 81, "columns", 0), ("PrivateViews$Texts", 99, "number", 2), ("PrivateViews$Texts", 101, "word", 3), ("PrivateViews$Texts", 94, "row", 1), ("PrivateViews$Texts", 197, "not", 6), ("PrivateViews$Texts", 182, "blank", 7), ("PrivateViews$Texts", 199, "to", 5), ("PrivateViews$Texts", 195, "or", 4), ("PrivateViews$Texts", 131, "up", 8), ("PrivateViews$Texts", 137, "down", 9), ("PrivateViews$Texts", 139, "hide", 10), ("PrivateViewsModel", 160, "columns", 0), ("PrivateViewsModel", 136, "word", 3), ("PrivateViewsModel", 138, "number", 2), ("PrivateViewsModel", 164, "row", 1), ("PrivateViewsModel", 200, "up", 8), ("PrivateViewsModel", 202, "down", 9), ("PrivateViewsModel", 204, "hide", 10), ("PrivateViewsModel", 196, "not", 6), ("PrivateViewsModel", 198, "blank", 7), ("PrivateViewsModel", 192, "or", 4), ("PrivateViewsModel", 194, "to", 5)] := by decide +kernel
theorem st_str {args : Array Value} {s : State} {adK : Nat → Nat} (hta : ∀ w ∈ tables_1, w.before args s = true) (hg : ∀ c ∈ flatC (Jvm.Cond.and given_1 narrow_1), c.before args s = true) (hev : ∀ i : Nat, i < 11 → (jTm i).eval args s none [] s = some (.ref (adK i))) : ∀ q ∈ jStr, vk_R q.1 q.2.1 q.2.2.1 (adK q.2.2.2) s := by
  intro q hq
  rw [jStr_eq] at hq
  simp only [List.mem_cons, List.not_mem_nil, or_false] at hq
  rcases hq with rfl | rfl | rfl | rfl | rfl | rfl | rfl | rfl | rfl | rfl | rfl | rfl | rfl | rfl | rfl | rfl | rfl | rfl | rfl | rfl | rfl | rfl
  · exact vk_R.of (A := args) (hta _ (List.mem_of_getElem? (i := 492) (by decide +kernel))) (hev 0 (by decide))
  · exact vk_R.of (A := args) (hta _ (List.mem_of_getElem? (i := 553) (by decide +kernel))) (hev 2 (by decide))
  · exact vk_R.of (A := args) (hta _ (List.mem_of_getElem? (i := 554) (by decide +kernel))) (hev 3 (by decide))
  · exact vk_R.of (A := args) (hta _ (List.mem_of_getElem? (i := 563) (by decide +kernel))) (hev 1 (by decide))
  · exact vk_R.of (A := args) (hta _ (List.mem_of_getElem? (i := 822) (by decide +kernel))) (hev 6 (by decide))
  · exact vk_R.of (A := args) (hta _ (List.mem_of_getElem? (i := 823) (by decide +kernel))) (hev 7 (by decide))
  · exact vk_R.of (A := args) (hta _ (List.mem_of_getElem? (i := 832) (by decide +kernel))) (hev 5 (by decide))
  · exact vk_R.of (A := args) (hta _ (List.mem_of_getElem? (i := 837) (by decide +kernel))) (hev 4 (by decide))
  · exact vk_R.of (A := args) (hta _ (List.mem_of_getElem? (i := 839) (by decide +kernel))) (hev 8 (by decide))
  · exact vk_R.of (A := args) (hta _ (List.mem_of_getElem? (i := 840) (by decide +kernel))) (hev 9 (by decide))
  · exact vk_R.of (A := args) (hta _ (List.mem_of_getElem? (i := 841) (by decide +kernel))) (hev 10 (by decide))
  · exact vk_R.of (A := args) (hta _ (List.mem_of_getElem? (i := 1579) (by decide +kernel))) (st_eq (hg _ (List.mem_of_getElem? (i := 305) (by decide +kernel))) (hev 0 (by decide)))
  · exact vk_R.of (A := args) (hta _ (List.mem_of_getElem? (i := 1594) (by decide +kernel))) (st_eq (hg _ (List.mem_of_getElem? (i := 326) (by decide +kernel))) (hev 3 (by decide)))
  · exact vk_R.of (A := args) (hta _ (List.mem_of_getElem? (i := 1595) (by decide +kernel))) (st_eq (hg _ (List.mem_of_getElem? (i := 347) (by decide +kernel))) (hev 2 (by decide)))
  · exact vk_R.of (A := args) (hta _ (List.mem_of_getElem? (i := 1600) (by decide +kernel))) (st_eq (hg _ (List.mem_of_getElem? (i := 369) (by decide +kernel))) (hev 1 (by decide)))
  · exact vk_R.of (A := args) (hta _ (List.mem_of_getElem? (i := 1716) (by decide +kernel))) (st_eq (hg _ (List.mem_of_getElem? (i := 394) (by decide +kernel))) (hev 8 (by decide)))
  · exact vk_R.of (A := args) (hta _ (List.mem_of_getElem? (i := 1729) (by decide +kernel))) (st_eq (hg _ (List.mem_of_getElem? (i := 418) (by decide +kernel))) (hev 9 (by decide)))
  · exact vk_R.of (A := args) (hta _ (List.mem_of_getElem? (i := 1730) (by decide +kernel))) (st_eq (hg _ (List.mem_of_getElem? (i := 443) (by decide +kernel))) (hev 10 (by decide)))
  · exact vk_R.of (A := args) (hta _ (List.mem_of_getElem? (i := 1746) (by decide +kernel))) (st_eq (hg _ (List.mem_of_getElem? (i := 461) (by decide +kernel))) (hev 6 (by decide)))
  · exact vk_R.of (A := args) (hta _ (List.mem_of_getElem? (i := 1747) (by decide +kernel))) (st_eq (hg _ (List.mem_of_getElem? (i := 489) (by decide +kernel))) (hev 7 (by decide)))
  · exact vk_R.of (A := args) (hta _ (List.mem_of_getElem? (i := 1756) (by decide +kernel))) (st_eq (hg _ (List.mem_of_getElem? (i := 516) (by decide +kernel))) (hev 4 (by decide)))
  · exact vk_R.of (A := args) (hta _ (List.mem_of_getElem? (i := 1757) (by decide +kernel))) (st_eq (hg _ (List.mem_of_getElem? (i := 541) (by decide +kernel))) (hev 5 (by decide)))

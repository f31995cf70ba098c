def wp_5_takeIn_3 (v1 : Int) (post : jC → Prop) (k3 : Int → jC → Prop) (v2 : Int) (C : jC) : Prop :=
 (if v2 < 0 then
 (post C)
 else
 ((if 400 ≤ (C 1 1) then
 (k3 (v2 + (-8)) C)
 else
 ((0 ≤ (C 1 1) ∧
 jRng (((jU C 2 (C 1 1) (jAnd (jShr v1 v2) 255)) 1 1) + 1) ∧
 k3 (v2 + (-8)) (jU (jU C 2 (C 1 1) (jAnd (jShr v1 v2) 255)) 1 1 (((jU C 2 (C 1 1) (jAnd (jShr v1 v2) 255)) 1 1) + 1)))))))
def wp_5_takeIn (v1 : Int) (C : jC) (post : jC → Prop) : Prop :=
 jL2 (wp_5_takeIn_3 v1 post) 24 C
def wp_11_feed (v1 : Int) (v2 : Int) (v3 : Int) (v4 : Int) (v5 : Int) (C : jC) (post : Int → jC → Prop) : Prop :=
 (jRng ((C 1 1) + 20) ∧
 (if ((C 1 1) + 20) ≤ 400 then
 (wp_5_takeIn v1 C (fun C4 =>
 wp_5_takeIn v2 C4 (fun C8 =>
 wp_5_takeIn v3 C8 (fun C12 =>
 wp_5_takeIn v4 C12 (fun C16 =>
 wp_5_takeIn v5 C16 (fun C20 =>
 post (C20 1 1) C20))))))
 else
 (post (-1) C)))
def wp_11_end (v1 : Int) (C : jC) (post : Int → jC → Prop) : Prop :=
 (if v1 < 0 then
 (post 0 C)
 else
 ((if v1 ≤ (C 1 1) then
 (post 1 (jU C 1 1 v1))
 else
 (post 0 C))))
def wp_11_fault  (C : jC) (post : Int → Prop) : Prop :=
 post (C 1 4)
def wp_6_at (v0 : Int) (v1 : Int) (C : jC) (post : Int → Prop) : Prop :=
 (if v1 < 0 then
 (post (-1))
 else
 ((if (C v0 1) ≤ v1 then
 (post (-1))
 else
 ((if 24 ≤ v1 then
 (post (-1))
 else
 (post (C (v0 + 1) v1)))))))
def wp_7_isSeat (v0 : Int) (v1 : Int) (C : jC) (post : Int → Prop) : Prop :=
 (if v1 < 0 then
 (post 0)
 else
 ((if 24 ≤ v1 then
 (post 0)
 else
 (post 1))))
def wp_7_keyAt (v0 : Int) (v1 : Int) (C : jC) (post : Int → Prop) : Prop :=
 wp_7_isSeat v0 v1 C (fun x1 =>
 (if x1 = 0 then
 (post (-1))
 else
 ((0 ≤ v1 ∧
 v1 < 24 ∧
 post (C (v0 + 2) v1)))))
def wp_11_order (v1 : Int) (C : jC) (post : Int → Prop) : Prop :=
 wp_6_at 41 v1 C (fun x1 =>
 wp_7_keyAt 36 x1 C (fun x5 =>
 post x5))
def wp_6_copyFrom (v0 : Int) (v1 : Int) (C : jC) (post : jC → Prop) : Prop :=
 post (jU (jCpy C (v1 + 1) 0 (v0 + 1) 0 24) v0 1 ((jCpy C (v1 + 1) 0 (v0 + 1) 0 24) v1 1))
def wp_7_copyFrom (v0 : Int) (v1 : Int) (C : jC) (post : jC → Prop) : Prop :=
 wp_6_copyFrom (v0 + 5) (v1 + 5) (jCpy (jCpy (jCpy (jCpy (jU C v0 0 (C v1 0)) (v1 + 1) 0 (v0 + 1) 0 5) (v1 + 2) 0 (v0 + 2) 0 24) (v1 + 3) 0 (v0 + 3) 0 120) (v1 + 4) 0 (v0 + 4) 0 120) (fun C7 =>
 post (jU (jU C7 v0 6 (C7 v1 6)) v0 7 ((jU C7 v0 6 (C7 v1 6)) v1 7)))
def wp_1_copyFrom (v0 : Int) (v1 : Int) (C : jC) (post : jC → Prop) : Prop :=
 post (jCpy (jCpy (jCpy (jCpy (jU C v0 0 (C v1 0)) (v1 + 1) 0 (v0 + 1) 0 6) (v1 + 2) 0 (v0 + 2) 0 6) (v1 + 3) 0 (v0 + 3) 0 6) (v1 + 4) 0 (v0 + 4) 0 6)
def wp_2_copyFrom_2 (v0 : Int) (v1 : Int) (post : jC → Prop) (k2 : Int → jC → Prop) (v2 : Int) (C : jC) : Prop :=
 (if 5 ≤ v2 then
 (post (jU (jU (jCpy C (v1 + 2) 0 (v0 + 2) 0 3) v0 2 ((jCpy C (v1 + 2) 0 (v0 + 2) 0 3) v1 2)) v0 3 ((jU (jCpy C (v1 + 2) 0 (v0 + 2) 0 3) v0 2 ((jCpy C (v1 + 2) 0 (v0 + 2) 0 3) v1 2)) v1 3)))
 else
 ((0 ≤ v2 ∧
 wp_1_copyFrom (((v0 + 1) + 2) + (5 * v2)) (((v1 + 1) + 2) + (5 * v2)) C (fun C10 =>
 k2 (v2 + 1) C10))))
def wp_2_copyFrom (v0 : Int) (v1 : Int) (C : jC) (post : jC → Prop) : Prop :=
 jL2 (wp_2_copyFrom_2 v0 v1 post) 0 C
def wp_0_copyFrom (v0 : Int) (v1 : Int) (C : jC) (post : jC → Prop) : Prop :=
 (0 ≤ ((jU C v0 0 (min (C v1 0) 60)) v0 0) ∧
 ((jU C v0 0 (min (C v1 0) 60)) v0 0) ≤ 60 ∧
 0 ≤ ((jCpy (jU C v0 0 (min (C v1 0) 60)) (v1 + 1) 0 (v0 + 1) 0 ((jU C v0 0 (min (C v1 0) 60)) v0 0)) v0 0) ∧
 ((jCpy (jU C v0 0 (min (C v1 0) 60)) (v1 + 1) 0 (v0 + 1) 0 ((jU C v0 0 (min (C v1 0) 60)) v0 0)) v0 0) ≤ 60 ∧
 0 ≤ ((jCpy (jCpy (jU C v0 0 (min (C v1 0) 60)) (v1 + 1) 0 (v0 + 1) 0 ((jU C v0 0 (min (C v1 0) 60)) v0 0)) (v1 + 2) 0 (v0 + 2) 0 ((jCpy (jU C v0 0 (min (C v1 0) 60)) (v1 + 1) 0 (v0 + 1) 0 ((jU C v0 0 (min (C v1 0) 60)) v0 0)) v0 0)) v0 0) ∧
 ((jCpy (jCpy (jU C v0 0 (min (C v1 0) 60)) (v1 + 1) 0 (v0 + 1) 0 ((jU C v0 0 (min (C v1 0) 60)) v0 0)) (v1 + 2) 0 (v0 + 2) 0 ((jCpy (jU C v0 0 (min (C v1 0) 60)) (v1 + 1) 0 (v0 + 1) 0 ((jU C v0 0 (min (C v1 0) 60)) v0 0)) v0 0)) v0 0) ≤ 60 ∧
 0 ≤ ((jCpy (jCpy (jCpy (jU C v0 0 (min (C v1 0) 60)) (v1 + 1) 0 (v0 + 1) 0 ((jU C v0 0 (min (C v1 0) 60)) v0 0)) (v1 + 2) 0 (v0 + 2) 0 ((jCpy (jU C v0 0 (min (C v1 0) 60)) (v1 + 1) 0 (v0 + 1) 0 ((jU C v0 0 (min (C v1 0) 60)) v0 0)) v0 0)) (v1 + 3) 0 (v0 + 3) 0 ((jCpy (jCpy (jU C v0 0 (min (C v1 0) 60)) (v1 + 1) 0 (v0 + 1) 0 ((jU C v0 0 (min (C v1 0) 60)) v0 0)) (v1 + 2) 0 (v0 + 2) 0 ((jCpy (jU C v0 0 (min (C v1 0) 60)) (v1 + 1) 0 (v0 + 1) 0 ((jU C v0 0 (min (C v1 0) 60)) v0 0)) v0 0)) v0 0)) v0 0) ∧
 ((jCpy (jCpy (jCpy (jU C v0 0 (min (C v1 0) 60)) (v1 + 1) 0 (v0 + 1) 0 ((jU C v0 0 (min (C v1 0) 60)) v0 0)) (v1 + 2) 0 (v0 + 2) 0 ((jCpy (jU C v0 0 (min (C v1 0) 60)) (v1 + 1) 0 (v0 + 1) 0 ((jU C v0 0 (min (C v1 0) 60)) v0 0)) v0 0)) (v1 + 3) 0 (v0 + 3) 0 ((jCpy (jCpy (jU C v0 0 (min (C v1 0) 60)) (v1 + 1) 0 (v0 + 1) 0 ((jU C v0 0 (min (C v1 0) 60)) v0 0)) (v1 + 2) 0 (v0 + 2) 0 ((jCpy (jU C v0 0 (min (C v1 0) 60)) (v1 + 1) 0 (v0 + 1) 0 ((jU C v0 0 (min (C v1 0) 60)) v0 0)) v0 0)) v0 0)) v0 0) ≤ 60 ∧
 post (jCpy (jCpy (jCpy (jCpy (jU C v0 0 (min (C v1 0) 60)) (v1 + 1) 0 (v0 + 1) 0 ((jU C v0 0 (min (C v1 0) 60)) v0 0)) (v1 + 2) 0 (v0 + 2) 0 ((jCpy (jU C v0 0 (min (C v1 0) 60)) (v1 + 1) 0 (v0 + 1) 0 ((jU C v0 0 (min (C v1 0) 60)) v0 0)) v0 0)) (v1 + 3) 0 (v0 + 3) 0 ((jCpy (jCpy (jU C v0 0 (min (C v1 0) 60)) (v1 + 1) 0 (v0 + 1) 0 ((jU C v0 0 (min (C v1 0) 60)) v0 0)) (v1 + 2) 0 (v0 + 2) 0 ((jCpy (jU C v0 0 (min (C v1 0) 60)) (v1 + 1) 0 (v0 + 1) 0 ((jU C v0 0 (min (C v1 0) 60)) v0 0)) v0 0)) v0 0)) (v1 + 4) 0 (v0 + 4) 0 ((jCpy (jCpy (jCpy (jU C v0 0 (min (C v1 0) 60)) (v1 + 1) 0 (v0 + 1) 0 ((jU C v0 0 (min (C v1 0) 60)) v0 0)) (v1 + 2) 0 (v0 + 2) 0 ((jCpy (jU C v0 0 (min (C v1 0) 60)) (v1 + 1) 0 (v0 + 1) 0 ((jU C v0 0 (min (C v1 0) 60)) v0 0)) v0 0)) (v1 + 3) 0 (v0 + 3) 0 ((jCpy (jCpy (jU C v0 0 (min (C v1 0) 60)) (v1 + 1) 0 (v0 + 1) 0 ((jU C v0 0 (min (C v1 0) 60)) v0 0)) (v1 + 2) 0 (v0 + 2) 0 ((jCpy (jU C v0 0 (min (C v1 0) 60)) (v1 + 1) 0 (v0 + 1) 0 ((jU C v0 0 (min (C v1 0) 60)) v0 0)) v0 0)) v0 0)) v0 0)))
def wp_10_copyFrom_32 (v0 : Int) (v1 : Int) (post : jC → Prop) (k32 : Int → jC → Prop) (v2 : Int) (C : jC) : Prop :=
 (if (C v0 3) ≤ v2 then
 (post C)
 else
 ((if 8 ≤ v2 then
 (post C)
 else
 ((0 ≤ v2 ∧
 wp_0_copyFrom (C (v0 + 31) v2) (C (v1 + 31) v2) C (fun C17 =>
 k32 (v2 + 1) C17))))))
def wp_10_copyFrom (v0 : Int) (v1 : Int) (C : jC) (post : jC → Prop) : Prop :=
 wp_2_copyFrom (v0 + 1) (v1 + 1) C (fun C2 =>
 wp_6_copyFrom (v0 + 29) (v1 + 29) C2 (fun C6 =>
 jL2 (wp_10_copyFrom_32 v0 v1 post) 0 (jU C6 v0 3 (C6 v1 3))))
def wp_3_copyFrom (v0 : Int) (v1 : Int) (C : jC) (post : jC → Prop) : Prop :=
 post (jU (jU (jCpy C (v1 + 1) 0 (v0 + 1) 0 200) v0 1 ((jCpy C (v1 + 1) 0 (v0 + 1) 0 200) v1 1)) v0 2 ((jU (jCpy C (v1 + 1) 0 (v0 + 1) 0 200) v0 1 ((jCpy C (v1 + 1) 0 (v0 + 1) 0 200) v1 1)) v1 2))
def wp_8_copyFrom_13 (v0 : Int) (v1 : Int) (post : jC → Prop) (k13 : Int → jC → Prop) (v2 : Int) (C : jC) : Prop :=
 (if 4 ≤ v2 then
 (wp_3_copyFrom (v0 + 9) (v1 + 9) C (fun C7 =>
 post C7))
 else
 ((0 ≤ v2 ∧
 wp_10_copyFrom (((v0 + 8) + 8) + (72 * v2)) (((v1 + 8) + 8) + (72 * v2)) C (fun C15 =>
 k13 (v2 + 1) C15))))
def wp_8_copyFrom (v0 : Int) (v1 : Int) (C : jC) (post : jC → Prop) : Prop :=
 wp_7_copyFrom (v0 + 1) (v1 + 1) C (fun C2 =>
 jL2 (wp_8_copyFrom_13 v0 v1 post) 0 C2)
def wp_11_back  (C : jC) (post : Int → jC → Prop) : Prop :=
 (if (C 0 4) < 0 then
 (post 0 C)
 else
 (wp_8_copyFrom 35 (C 0 4) C (fun C3 =>
 post 1 C3)))
def wp_6_length (v0 : Int) (C : jC) (post : Int → Prop) : Prop :=
 post (C v0 1)
def wp_7_rowsNow (v0 : Int) (C : jC) (post : Int → Prop) : Prop :=
 wp_6_length (v0 + 5) C (fun x1 =>
 post x1)
def wp_11_count (v1 : Int) (C : jC) (post : Int → Prop) : Prop :=
 (if v1 = 0 then
 (post (C 36 0))
 else
 (if v1 = 1 then
 (wp_7_rowsNow 36 C (fun x6 =>
 post x6))
 else
 (if v1 = 2 then
 (post (C 36 6))
 else
 (if v1 = 3 then
 (post (C 36 7))
 else
 (if v1 = 4 then
 (post (C 44 2))
 else
 (post (-1)))))))
def wp_5_useUp  (C : jC) (post : jC → Prop) : Prop :=
 post (jU (jU C 1 2 (C 1 1)) 1 1 0)
def wp_5_openUsedText  (C : jC) (post : jC → Prop) : Prop :=
 post (jU (jU C 1 3 0) 1 4 (-1))
def wp_5_openText  (C : jC) (post : jC → Prop) : Prop :=
 wp_5_useUp C (fun C2 =>
 wp_5_openUsedText C2 (fun C6 =>
 post C6))
def wp_9_knowColumns (v1 : Int) (C : jC) (post : jC → Prop) : Prop :=
 post (jU (jCpy (jU C 3 0 (C v1 0)) (v1 + 1) 0 4 0 5) 3 2 0)
def wp_5_skipBlanks_0  (post : jC → Prop) (k0 : jC → Prop) (C : jC) : Prop :=
 (if (C 1 2) ≤ (C 1 3) then
 (post C)
 else
 ((0 ≤ (C 1 3) ∧
 (C 1 3) < 400 ∧
 (if (C 2 (C 1 3)) = 32 then
 (k0 (jU C 1 3 ((C 1 3) + 1)))
 else
 (post C)))))
def wp_5_skipBlanks  (C : jC) (post : jC → Prop) : Prop :=
 jL1 (wp_5_skipBlanks_0  post) C
def wp_5_isOver  (C : jC) (post : Int → jC → Prop) : Prop :=
 wp_5_skipBlanks C (fun C2 =>
 (if (C2 1 3) < (C2 1 2) then
 (post 0 C2)
 else
 (post 1 C2)))
def wp_5_isWordHere_22 (v1 : Nat) (v2 : Int) (C : jC) (post : Int → Prop) (k22 : Int → Prop) (v3 : Int) : Prop :=
 (if (jSlen v1) ≤ v3 then
 ((if (C 1 2) ≤ v2 then
 (post 1)
 else
 ((0 ≤ v2 ∧
 v2 < 400 ∧
 (if (C 2 v2) < 97 then
 (post 1)
 else
 ((if (C 2 v2) ≤ 122 then
 (post 0)
 else
 (post 1))))))))
 else
 ((0 ≤ ((C 1 3) + v3) ∧
 ((C 1 3) + v3) < 400 ∧
 0 ≤ v3 ∧
 v3 < jSlen v1 ∧
 (if (C 2 ((C 1 3) + v3)) = (jSch v1 v3) then
 (k22 (v3 + 1))
 else
 (post 0)))))
def wp_5_isWordHere (v1 : Nat) (C : jC) (post : Int → Prop) : Prop :=
 (jRng ((C 1 3) + (jSlen v1)) ∧
 (if ((C 1 3) + (jSlen v1)) ≤ (C 1 2) then
 (jL1 (wp_5_isWordHere_22 v1 ((C 1 3) + (jSlen v1)) C post) 0)
 else
 (post 0)))
def wp_5_takeWord (v1 : Nat) (C : jC) (post : Int → jC → Prop) : Prop :=
 wp_5_skipBlanks C (fun C2 =>
 wp_5_isWordHere v1 C2 (fun x5 =>
 (if x5 = 0 then
 (post 0 C2)
 else
 ((jRng ((C2 1 3) + (jSlen v1)) ∧
 post 1 (jU C2 1 3 ((C2 1 3) + (jSlen v1))))))))
def wp_5_failHere  (C : jC) (post : Int → jC → Prop) : Prop :=
 post 0 (jU C 1 4 (C 1 3))
def wp_9_readKinds_2  (post : Int → jC → Prop) (k2 : Int → jC → Prop) (v2 : Int) (C : jC) : Prop :=
 (if 5 ≤ v2 then
 (post 1 C)
 else
 (wp_5_takeWord 2 C (fun x2 C3 =>
 (if x2 = 0 then
 (wp_5_takeWord 3 C3 (fun x7 C8 =>
 (if x7 = 0 then
 ((if 0 < v2 then
 (post 1 C8)
 else
 (wp_5_failHere C8 (fun x13 C14 =>
 (if x13 = 0 then
 (post 0 C14)
 else
 (post 1 C14))))))
 else
 ((0 ≤ v2 ∧
 k2 (v2 + 1) (jU (jU C8 4 v2 1) 3 0 (v2 + 1)))))))
 else
 ((0 ≤ v2 ∧
 k2 (v2 + 1) (jU (jU C3 4 v2 0) 3 0 (v2 + 1))))))))
def wp_9_readKinds  (C : jC) (post : Int → jC → Prop) : Prop :=
 jL2 (wp_9_readKinds_2  post) 0 C
def wp_5_failAt (v1 : Int) (C : jC) (post : Int → jC → Prop) : Prop :=
 post 0 (jU C 1 4 v1)
def wp_9_beginRow  (C : jC) (post : jC → Prop) : Prop :=
 (if 14 ≤ (C 3 2) then
 (post C)
 else
 ((0 ≤ (C 3 2) ∧
 post (jU C 5 (C 3 2) 0))))
def wp_9_kindAsked (v1 : Int) (C : jC) (post : Int → Prop) : Prop :=
 (if v1 < 0 then
 (post (-1))
 else
 ((if (C 3 0) ≤ v1 then
 (post (-1))
 else
 ((if 5 ≤ v1 then
 (post (-1))
 else
 (post (C 4 v1)))))))
def wp_5_byteAt (v1 : Int) (C : jC) (post : Int → Prop) : Prop :=
 (if v1 < 0 then
 (post (-1))
 else
 ((if (C 1 2) ≤ v1 then
 (post (-1))
 else
 ((v1 < 400 ∧
 post (C 2 v1))))))
def wp_5_takeSign (v1 : Int) (C : jC) (post : Int → jC → Prop) : Prop :=
 wp_5_skipBlanks C (fun C2 =>
 wp_5_byteAt (C2 1 3) C2 (fun x5 =>
 (if x5 = v1 then
 ((jRng ((C2 1 3) + 1) ∧
 post 1 (jU C2 1 3 ((C2 1 3) + 1))))
 else
 (post 0 C2))))
def wp_5_isDigitAt (v1 : Int) (C : jC) (post : Int → Prop) : Prop :=
 (if v1 < 0 then
 (post 0)
 else
 ((if (C 1 2) ≤ v1 then
 (post 0)
 else
 ((v1 < 400 ∧
 (if (C 2 v1) < 48 then
 (post 0)
 else
 ((if 57 < (C 2 v1) then
 (post 0)
 else
 (post 1)))))))))
def wp_5_takeNumber_101 (v2 : Int) (v3 : Int) (v4 : Int) (v5 : Int) (C : jC) (post : Int → jC → Prop) : Prop :=
 (if v4 = 0 then
 (wp_5_failAt v3 C (fun x2 C3 =>
 ((x2 = 0 ∨ x2 = 1) ∧
 post x2 C3)))
 else
 ((if v4 ≤ 3 then
 ((jRng (v3 + v4) ∧
 (if v2 = 0 then
 (post 1 (jU (jU C 1 3 (v3 + v4)) 1 5 v5))
 else
 ((jRng (-v5) ∧
 post 1 (jU (jU C 1 3 (v3 + v4)) 1 5 (-v5)))))))
 else
 (wp_5_failAt (C 1 6) C (fun x14 C15 =>
 ((x14 = 0 ∨ x14 = 1) ∧
 post x14 C15))))))
def wp_5_takeNumber_59 (v2 : Int) (v3 : Int) (C : jC) (post : Int → jC → Prop) (k59 : Int → Int → Prop) (v4 : Int) (v5 : Int) : Prop :=
 (if 3 < v4 then
 (wp_5_takeNumber_101 v2 v3 v4 v5 C post)
 else
 ((jRng (v3 + v4) ∧
 wp_5_isDigitAt (v3 + v4) C (fun x22 =>
 (if x22 = 0 then
 (wp_5_takeNumber_101 v2 v3 v4 v5 C post)
 else
 (wp_5_byteAt (v3 + v4) C (fun x27 =>
 (jRng (((v5 * 10) + x27) - 48) ∧
 k59 (v4 + 1) (((v5 * 10) + x27) - 48)))))))))
def wp_5_takeNumber_34 (s0 : Int) (C : jC) (post : Int → jC → Prop) : Prop :=
 (if s0 = 0 then
 (jL2 (wp_5_takeNumber_59 s0 (C 1 3) C post) 0 0)
 else
 ((jRng ((C 1 3) + 1) ∧
 jL2 (wp_5_takeNumber_59 s0 ((C 1 3) + 1) C post) 0 0)))
def wp_5_takeNumber (v1 : Int) (C : jC) (post : Int → jC → Prop) : Prop :=
 wp_5_skipBlanks C (fun C48 =>
 (if v1 = 0 then
 (wp_5_takeNumber_34 0 (jU C48 1 6 (C48 1 3)) post)
 else
 (wp_5_byteAt ((jU C48 1 6 (C48 1 3)) 1 3) (jU C48 1 6 (C48 1 3)) (fun x53 =>
 (if x53 = 45 then
 (wp_5_takeNumber_34 1 (jU C48 1 6 (C48 1 3)) post)
 else
 (wp_5_takeNumber_34 0 (jU C48 1 6 (C48 1 3)) post))))))
def wp_5_isLetterAt (v1 : Int) (C : jC) (post : Int → Prop) : Prop :=
 (if v1 < 0 then
 (post 0)
 else
 ((if (C 1 2) ≤ v1 then
 (post 0)
 else
 ((v1 < 400 ∧
 (if (C 2 v1) < 97 then
 (post 0)
 else
 ((if 122 < (C 2 v1) then
 (post 0)
 else
 (post 1)))))))))
def wp_5_takeLetters_57 (v1 : Int) (v2 : Int) (C : jC) (post : Int → jC → Prop) : Prop :=
 (if v1 = 0 then
 (wp_5_failHere C (fun x2 C3 =>
 ((x2 = 0 ∨ x2 = 1) ∧
 post x2 C3)))
 else
 ((if v1 ≤ 4 then
 ((jRng ((C 1 3) + v1) ∧
 post 1 (jU (jU C 1 3 ((C 1 3) + v1)) 1 5 v2)))
 else
 (wp_5_failHere C (fun x11 C12 =>
 ((x11 = 0 ∨ x11 = 1) ∧
 post x11 C12))))))
def wp_5_takeLetters_8  (C : jC) (post : Int → jC → Prop) (k8 : Int → Int → Int → Prop) (v1 : Int) (v2 : Int) (v3 : Int) : Prop :=
 (if 4 < v1 then
 (wp_5_takeLetters_57 v1 v2 C post)
 else
 ((jRng ((C 1 3) + v1) ∧
 wp_5_isLetterAt ((C 1 3) + v1) C (fun x18 =>
 (if x18 = 0 then
 (wp_5_takeLetters_57 v1 v2 C post)
 else
 (wp_5_byteAt ((C 1 3) + v1) C (fun x23 =>
 (jRng (v2 + (((x23 - 97) + 1) * v3)) ∧
 k8 (v1 + 1) (v2 + (((x23 - 97) + 1) * v3)) (v3.tdiv 27)))))))))
def wp_5_takeLetters  (C : jC) (post : Int → jC → Prop) : Prop :=
 jL3 (wp_5_takeLetters_8  C post) 0 0 19683
def wp_5_takeCell (v1 : Int) (C : jC) (post : Int → jC → Prop) : Prop :=
 wp_5_takeSign 46 C (fun x1 C2 =>
 (if x1 = 0 then
 ((if v1 = 0 then
 (wp_5_takeNumber 1 C2 (fun x7 C8 =>
 ((x7 = 0 ∨ x7 = 1) ∧
 post x7 C8)))
 else
 (wp_5_takeLetters C2 (fun x12 C13 =>
 ((x12 = 0 ∨ x12 = 1) ∧
 post x12 C13)))))
 else
 (post 1 (jU C2 1 5 (-1000000)))))
def wp_9_takeValue (v1 : Int) (C : jC) (post : jC → Prop) : Prop :=
 (if 14 ≤ (C 3 2) then
 (post C)
 else
 ((0 ≤ (C 3 2) ∧
 (if 5 ≤ (C 5 (C 3 2)) then
 (post C)
 else
 ((0 ≤ (((C 3 2) * 5) + (C 5 (C 3 2))) ∧
 0 ≤ ((jU C 6 (((C 3 2) * 5) + (C 5 (C 3 2))) v1) 3 2) ∧
 ((jU C 6 (((C 3 2) * 5) + (C 5 (C 3 2))) v1) 3 2) < 14 ∧
 jRng (((jU C 6 (((C 3 2) * 5) + (C 5 (C 3 2))) v1) 5 ((jU C 6 (((C 3 2) * 5) + (C 5 (C 3 2))) v1) 3 2)) + 1) ∧
 post (jU (jU C 6 (((C 3 2) * 5) + (C 5 (C 3 2))) v1) 5 ((jU C 6 (((C 3 2) * 5) + (C 5 (C 3 2))) v1) 3 2) (((jU C 6 (((C 3 2) * 5) + (C 5 (C 3 2))) v1) 5 ((jU C 6 (((C 3 2) * 5) + (C 5 (C 3 2))) v1) 3 2)) + 1))))))))
def wp_9_readCells_6  (post : Int → jC → Prop) (k6 : Int → jC → Prop) (v2 : Int) (C : jC) : Prop :=
 (if (C 3 0) ≤ v2 then
 ((jRng ((C 3 2) + 1) ∧
 post 1 (jU C 3 2 ((C 3 2) + 1))))
 else
 (wp_9_kindAsked v2 C (fun x8 =>
 wp_5_takeCell x8 C (fun x12 C13 =>
 (if x12 = 0 then
 (post 0 C13)
 else
 (wp_9_takeValue (C13 1 5) C13 (fun C18 =>
 k6 (v2 + 1) C18)))))))
def wp_9_readCells  (C : jC) (post : Int → jC → Prop) : Prop :=
 wp_9_beginRow C (fun C2 =>
 jL2 (wp_9_readCells_6  post) 0 C2)
def wp_9_readLine (v2 : Int) (C : jC) (post : Int → jC → Prop) : Prop :=
 wp_5_skipBlanks C (fun C2 =>
 wp_5_takeWord 0 C2 (fun x5 C6 =>
 (if x5 = 0 then
 (wp_5_takeWord 1 C6 (fun x10 C11 =>
 (if x10 = 0 then
 (wp_5_failHere C11 (fun x15 C16 =>
 ((x15 = 0 ∨ x15 = 1) ∧
 post x15 C16)))
 else
 ((if (C11 3 0) ≤ 0 then
 (wp_5_failAt (C2 1 3) C11 (fun x22 C23 =>
 ((x22 = 0 ∨ x22 = 1) ∧
 post x22 C23)))
 else
 ((jRng (v2 + (C11 3 2)) ∧
 (if 24 ≤ (v2 + (C11 3 2)) then
 (wp_5_failAt (C2 1 3) C11 (fun x30 C31 =>
 ((x30 = 0 ∨ x30 = 1) ∧
 post x30 C31)))
 else
 (wp_9_readCells C11 (fun x36 C37 =>
 ((x36 = 0 ∨ x36 = 1) ∧
 post x36 C37)))))))))))
 else
 ((if (C6 3 0) = 0 then
 (wp_9_readKinds C6 (fun x42 C43 =>
 ((x42 = 0 ∨ x42 = 1) ∧
 post x42 C43)))
 else
 (wp_5_failAt (C2 1 3) C6 (fun x47 C48 =>
 ((x47 = 0 ∨ x47 = 1) ∧
 post x47 C48))))))))
def wp_9_readSheet_16 (v2 : Int) (post : Int → jC → Prop) (k16 : Int → jC → Prop) (v3 : Int) (C : jC) : Prop :=
 (if 14 ≤ v3 then
 (wp_5_skipBlanks C (fun C12 =>
 wp_5_failHere C12 (fun x15 C16 =>
 ((x15 = 0 ∨ x15 = 1) ∧
 post x15 C16))))
 else
 (wp_7_rowsNow v2 C (fun x20 =>
 wp_9_readLine x20 C (fun x24 C25 =>
 (if x24 = 0 then
 (post 0 C25)
 else
 (wp_5_isOver C25 (fun x29 C30 =>
 (if x29 = 0 then
 (wp_5_takeSign 59 C30 (fun x34 C35 =>
 (if x34 = 0 then
 (wp_5_failHere C35 (fun x39 C40 =>
 ((x39 = 0 ∨ x39 = 1) ∧
 post x39 C40)))
 else
 (k16 (v3 + 1) C35))))
 else
 (post 1 C30)))))))))
def wp_9_readSheet (v2 : Int) (C : jC) (post : Int → jC → Prop) : Prop :=
 wp_9_knowColumns v2 C (fun C2 =>
 wp_5_isOver C2 (fun x5 C6 =>
 (if x5 = 0 then
 (jL2 (wp_9_readSheet_16 v2 post) 0 C6)
 else
 (post 1 C6))))
def wp_6_placeOf_2 (v0 : Int) (v1 : Int) (C : jC) (post : Int → Prop) (k2 : Int → Prop) (v2 : Int) : Prop :=
 (if (C v0 1) ≤ v2 then
 (post (-1))
 else
 (wp_6_at v0 v2 C (fun x2 =>
 (if x2 = v1 then
 (post v2)
 else
 (k2 (v2 + 1))))))
def wp_6_placeOf (v0 : Int) (v1 : Int) (C : jC) (post : Int → Prop) : Prop :=
 jL1 (wp_6_placeOf_2 v0 v1 C post) 0
def wp_6_holds (v0 : Int) (v1 : Int) (C : jC) (post : Int → Prop) : Prop :=
 wp_6_placeOf v0 v1 C (fun x1 =>
 (if x1 = (-1) then
 (post 0)
 else
 (post 1)))
def wp_7_isColumn (v0 : Int) (v1 : Int) (C : jC) (post : Int → Prop) : Prop :=
 (if v1 < 0 then
 (post 0)
 else
 ((if (C v0 0) ≤ v1 then
 (post 0)
 else
 ((if 5 ≤ v1 then
 (post 0)
 else
 (post 1))))))
def wp_7_write (v0 : Int) (v1 : Int) (v2 : Int) (v3 : Int) (v4 : Int) (C : jC) (post : jC → Prop) : Prop :=
 wp_7_isSeat v0 v1 C (fun x1 =>
 (if x1 = 0 then
 (post C)
 else
 (wp_7_isColumn v0 v2 C (fun x6 =>
 (if x6 = 0 then
 (post C)
 else
 ((0 ≤ ((v1 * 5) + v2) ∧
 ((v1 * 5) + v2) < 120 ∧
 post (jU (jU C (v0 + 3) ((v1 * 5) + v2) v3) (v0 + 4) ((v1 * 5) + v2) v4))))))))
def wp_7_seatNewRow_41 (v0 : Int) (v1 : Int) (post : Int → jC → Prop) (k41 : Int → jC → Prop) (v2 : Int) (C : jC) : Prop :=
 (if (C v0 0) ≤ v2 then
 (post v1 C)
 else
 (wp_7_write v0 v1 v2 (-1000000) (-1) C (fun C14 =>
 k41 (v2 + 1) C14)))
def wp_7_seatNewRow_2 (v0 : Int) (C : jC) (post : Int → jC → Prop) (k2 : Int → Prop) (v1 : Int) : Prop :=
 (if 24 ≤ v1 then
 (post (-1) C)
 else
 (wp_6_holds (v0 + 5) v1 C (fun x2 =>
 (if x2 = 0 then
 ((0 ≤ v1 ∧
 jRng (((jU C (v0 + 2) v1 (C v0 7)) v0 7) + 1) ∧
 jL2 (wp_7_seatNewRow_41 v0 v1 post) 0 (jU (jU C (v0 + 2) v1 (C v0 7)) v0 7 (((jU C (v0 + 2) v1 (C v0 7)) v0 7) + 1))))
 else
 (k2 (v1 + 1))))))
def wp_7_seatNewRow (v0 : Int) (C : jC) (post : Int → jC → Prop) : Prop :=
 jL1 (wp_7_seatNewRow_2 v0 C post) 0
def wp_9_widthOf (v1 : Int) (C : jC) (post : Int → Prop) : Prop :=
 (if v1 < 0 then
 (post 0)
 else
 ((if 14 ≤ v1 then
 (post 0)
 else
 (post (C 5 v1)))))
def wp_9_toldAt_36 (s0 : Int) (v1 : Int) (v2 : Int) (C : jC) (post : Int → Prop) : Prop :=
 (if s0 = 0 then
 (post (-1000000))
 else
 ((0 ≤ ((v1 * 5) + v2) ∧
 ((v1 * 5) + v2) < 70 ∧
 post (C 6 ((v1 * 5) + v2)))))
def wp_9_toldAt (v1 : Int) (v2 : Int) (C : jC) (post : Int → Prop) : Prop :=
 (if v1 < 0 then
 (wp_9_toldAt_36 0 v1 v2 C post)
 else
 ((if (C 3 2) ≤ v1 then
 (wp_9_toldAt_36 0 v1 v2 C post)
 else
 ((if 14 ≤ v1 then
 (wp_9_toldAt_36 0 v1 v2 C post)
 else
 ((if v2 < 0 then
 (wp_9_toldAt_36 0 v1 v2 C post)
 else
 (wp_9_widthOf v1 C (fun x8 =>
 (if x8 ≤ v2 then
 (wp_9_toldAt_36 0 v1 v2 C post)
 else
 (wp_9_toldAt_36 1 v1 v2 C post)))))))))))
def wp_6_putAt_27 (v0 : Int) (v1 : Int) (v2 : Int) (post : jC → Prop) (k27 : Int → jC → Prop) (v3 : Int) (C : jC) : Prop :=
 (if v3 ≤ v1 then
 ((0 ≤ v1 ∧
 v1 < 24 ∧
 jRng (((jU C (v0 + 1) v1 v2) v0 1) + 1) ∧
 post (jU (jU C (v0 + 1) v1 v2) v0 1 (((jU C (v0 + 1) v1 v2) v0 1) + 1))))
 else
 ((0 ≤ (v3 - 1) ∧
 (v3 - 1) < 24 ∧
 0 ≤ v3 ∧
 v3 < 24 ∧
 k27 (v3 + (-1)) (jU C (v0 + 1) v3 (C (v0 + 1) (v3 - 1))))))
def wp_6_putAt (v0 : Int) (v1 : Int) (v2 : Int) (C : jC) (post : jC → Prop) : Prop :=
 (if v1 < 0 then
 (post C)
 else
 ((if (C v0 1) < v1 then
 (post C)
 else
 ((if (C v0 1) < 24 then
 (jL2 (wp_6_putAt_27 v0 v1 v2 post) (C v0 1) C)
 else
 (post C))))))
def wp_6_putLast (v0 : Int) (v1 : Int) (C : jC) (post : jC → Prop) : Prop :=
 wp_6_putAt v0 (C v0 1) v1 C (fun C2 =>
 post C2)
def wp_7_valueAt (v0 : Int) (v1 : Int) (v2 : Int) (C : jC) (post : Int → Prop) : Prop :=
 wp_7_isSeat v0 v1 C (fun x1 =>
 (if x1 = 0 then
 (post (-1000000))
 else
 (wp_7_isColumn v0 v2 C (fun x6 =>
 (if x6 = 0 then
 (post (-1000000))
 else
 ((0 ≤ ((v1 * 5) + v2) ∧
 ((v1 * 5) + v2) < 120 ∧
 post (C (v0 + 3) ((v1 * 5) + v2)))))))))
def wp_1_matches_5 (v0 : Int) (v1 : Int) (C : jC) (post : Int → Prop) (k5 : Int → Int → Prop) (v3 : Int) (v4 : Int) : Prop :=
 (if 4 ≤ v4 then
 (post 1)
 else
 ((if (jAnd (jShr v0 (5 * v4)) 31) = 0 then
 ((if v1 = 0 then
 ((if (v3.tdiv 19683) = 0 then
 (post 1)
 else
 (post 0)))
 else
 (post 1)))
 else
 ((if (v3.tdiv 19683) = 0 then
 (post 0)
 else
 ((if (jAnd (jShr v0 (5 * v4)) 31) = 27 then
 ((jRng ((v3.tmod 19683) * 27) ∧
 k5 ((v3.tmod 19683) * 27) (v4 + 1)))
 else
 ((if (jAnd (jShr v0 (5 * v4)) 31) = (v3.tdiv 19683) then
 ((jRng ((v3.tmod 19683) * 27) ∧
 k5 ((v3.tmod 19683) * 27) (v4 + 1)))
 else
 (post 0))))))))))
def wp_1_matches (v0 : Int) (v1 : Int) (v2 : Int) (C : jC) (post : Int → Prop) : Prop :=
 jL2 (wp_1_matches_5 v0 v1 C post) v2 0
def wp_1_isAs_27 (v0 : Int) (v1 : Int) (v2 : Int) (C : jC) (post : Int → Prop) : Prop :=
 (0 ≤ v1 ∧
 v1 < 6 ∧
 (if (C (v0 + 1) v1) = 0 then
 ((if v2 = (-1000000) then
 (post 1)
 else
 (post 0)))
 else
 (post 0)))
def wp_1_isAs (v0 : Int) (v1 : Int) (v2 : Int) (C : jC) (post : Int → Prop) : Prop :=
 (if v1 < 0 then
 (post 0)
 else
 ((if v1 < 6 then
 ((if (C (v0 + 1) v1) = 0 then
 (wp_1_isAs_27 v0 v1 v2 C post)
 else
 ((if v2 = (-1000000) then
 (wp_1_isAs_27 v0 v1 v2 C post)
 else
 ((if (C (v0 + 1) v1) = 1 then
 ((if v2 < (C (v0 + 2) v1) then
 (post 0)
 else
 ((if (C (v0 + 3) v1) < v2 then
 (post 0)
 else
 (post 1)))))
 else
 ((if (C (v0 + 3) v1) = 1 then
 (wp_1_matches (C (v0 + 2) v1) 1 v2 C (fun x25 =>
 ((x25 = 0 ∨ x25 = 1) ∧
 post x25)))
 else
 (wp_1_matches (C (v0 + 2) v1) 0 v2 C (fun x30 =>
 ((x30 = 0 ∨ x30 = 1) ∧
 post x30)))))))))))
 else
 (post 0))))
def wp_1_accepts_2 (v0 : Int) (v1 : Int) (C : jC) (post : Int → Prop) (k2 : Int → Prop) (v2 : Int) : Prop :=
 (if (C v0 0) ≤ v2 then
 ((if (C v0 0) = 0 then
 (post 1)
 else
 (post 0)))
 else
 ((if 6 ≤ v2 then
 ((if (C v0 0) = 0 then
 (post 1)
 else
 (post 0)))
 else
 ((0 ≤ v2 ∧
 (if ((C (v0 + 4) v2).tmod 2) = 1 then
 (wp_1_isAs v0 v2 v1 C (fun x9 =>
 (if x9 = 1 then
 (k2 (v2 + 1))
 else
 (post 1))))
 else
 (wp_1_isAs v0 v2 v1 C (fun x15 =>
 (if x15 = 0 then
 (k2 (v2 + 1))
 else
 (post 1))))))))))
def wp_1_accepts (v0 : Int) (v1 : Int) (C : jC) (post : Int → Prop) : Prop :=
 jL1 (wp_1_accepts_2 v0 v1 C post) 0
def wp_2_firstUnlike_2 (v0 : Int) (v1 : Int) (v2 : Int) (C : jC) (post : Int → Prop) (k2 : Int → Prop) (v3 : Int) : Prop :=
 (if 5 ≤ v3 then
 (post (-1))
 else
 ((0 ≤ v3 ∧
 wp_7_valueAt v1 v2 v3 C (fun x4 =>
 wp_1_accepts (((v0 + 1) + 2) + (5 * v3)) x4 C (fun x8 =>
 (if x8 = 0 then
 (post v3)
 else
 (k2 (v3 + 1))))))))
def wp_2_firstUnlike (v0 : Int) (v1 : Int) (v2 : Int) (C : jC) (post : Int → Prop) : Prop :=
 jL1 (wp_2_firstUnlike_2 v0 v1 v2 C post) 0
def wp_8_joinOthers_2 (v0 : Int) (v1 : Int) (v2 : Int) (post : jC → Prop) (k2 : Int → jC → Prop) (v3 : Int) (C : jC) : Prop :=
 (if 4 ≤ v3 then
 (post C)
 else
 ((if v3 = v2 then
 (k2 (v3 + 1) C)
 else
 ((0 ≤ v3 ∧
 wp_2_firstUnlike ((((v0 + 8) + 8) + (72 * v3)) + 1) (v0 + 1) v1 C (fun x6 =>
 (if x6 = (-1) then
 (wp_6_putLast ((((v0 + 8) + 8) + (72 * v3)) + 29) v1 C (fun C14 =>
 k2 (v3 + 1) C14))
 else
 (k2 (v3 + 1) C))))))))
def wp_8_joinOthers (v0 : Int) (v1 : Int) (v2 : Int) (C : jC) (post : jC → Prop) : Prop :=
 jL2 (wp_8_joinOthers_2 v0 v1 v2 post) 0 C
def wp_8_takeSheetText_49 (v0 : Int) (v2 : Int) (v3 : Int) (post : jC → Prop) (k30 : Int → jC → Prop) (k49 : Int → jC → Prop) (v4 : Int) (C : jC) : Prop :=
 wp_9_widthOf v2 C (fun x10 =>
 (if x10 ≤ v4 then
 (wp_6_putLast ((v0 + 1) + 5) v3 C (fun C16 =>
 wp_8_joinOthers v0 v3 (-1) C16 (fun C20 =>
 (jRng (v2 + 1) ∧
 k30 (v2 + 1) C20))))
 else
 (wp_9_toldAt v2 v4 C (fun x24 =>
 wp_7_write (v0 + 1) v3 v4 x24 (-1) C (fun C29 =>
 k49 (v4 + 1) C29)))))
def wp_8_takeSheetText_30 (v0 : Int) (post : jC → Prop) (k30 : Int → jC → Prop) (v2 : Int) (C : jC) : Prop :=
 (if (C 3 2) ≤ v2 then
 ((jRng ((C (v0 + 1) 6) + 1) ∧
 post (jU C (v0 + 1) 6 ((C (v0 + 1) 6) + 1))))
 else
 (wp_7_seatNewRow (v0 + 1) C (fun x6 C7 =>
 jL2 (wp_8_takeSheetText_49 v0 v2 x6 post k30) 0 C7)))
def wp_8_takeSheetText (v0 : Int) (C : jC) (post : jC → Prop) : Prop :=
 jL2 (wp_8_takeSheetText_30 v0 post) 0 (jCpy (jU C (v0 + 1) 0 (C 3 0)) 4 0 ((v0 + 1) + 1) 0 5)
def wp_11_sheet  (C : jC) (ex : String → jC → Prop) (post : Int → jC → Prop) : Prop :=
 wp_5_openText C (fun C2 =>
 wp_9_readSheet 36 C2 (fun x5 C6 =>
 (if x5 = 0 then
 (ex "java/lang/IllegalArgumentException" C6)
 else
 ((if (C6 36 6) < 12 then
 (wp_8_takeSheetText 35 C6 (fun C12 =>
 post (C12 36 6) C12))
 else
 (ex "java/lang/UnsupportedOperationException" C6))))))
def wp_11_viewNumbered (v1 : Int) (C : jC) (ex : String → jC → Prop) (post : Int → Prop) : Prop :=
 (if v1 < 0 then
 (ex "java/lang/IndexOutOfBoundsException" C)
 else
 ((if v1 < 4 then
 (post ((43 + 8) + (72 * v1)))
 else
 (ex "java/lang/IndexOutOfBoundsException" C))))
def wp_2_forget_2 (v0 : Int) (post : jC → Prop) (k2 : Int → jC → Prop) (v1 : Int) (C : jC) : Prop :=
 (if 5 ≤ v1 then
 (post (jU (jU C v0 2 0) v0 3 0))
 else
 ((0 ≤ v1 ∧
 k2 (v1 + 1) (jU C (((v0 + 1) + 2) + (5 * v1)) 0 0))))
def wp_2_forget (v0 : Int) (C : jC) (post : jC → Prop) : Prop :=
 jL2 (wp_2_forget_2 v0 post) 0 C
def wp_9_readColumn  (C : jC) (post : Int → jC → Prop) : Prop :=
 wp_5_takeNumber 0 C (fun x1 C2 =>
 (if x1 = 0 then
 (post 0 C2)
 else
 ((if (C2 1 5) < (C2 3 0) then
 (post 1 C2)
 else
 (wp_5_failAt (C2 1 6) C2 (fun x7 C8 =>
 (if x7 = 0 then
 (post 0 C8)
 else
 (post 1 C8))))))))
def wp_2_filterOf (v0 : Int) (v1 : Int) (C : jC) (post : Int → Prop) : Prop :=
 (if v1 < 0 then
 (post (-1))
 else
 ((if 5 ≤ v1 then
 (post (-1))
 else
 (post (((v0 + 1) + 2) + (5 * v1))))))
def wp_9_takeNots_2  (post : Int → jC → Prop) (k2 : Int → jC → Prop) (v2 : Int) (C : jC) : Prop :=
 (if 4 ≤ v2 then
 (post v2 C)
 else
 (wp_5_takeWord 6 C (fun x2 C3 =>
 (if x2 = 0 then
 (post v2 C3)
 else
 (k2 (v2 + 1) C3)))))
def wp_9_takeNots  (C : jC) (post : Int → jC → Prop) : Prop :=
 jL2 (wp_9_takeNots_2  post) 0 C
def wp_1_takeTest (v0 : Int) (v1 : Int) (v2 : Int) (v3 : Int) (v4 : Int) (C : jC) (post : jC → Prop) : Prop :=
 (if 6 ≤ (C v0 0) then
 (post C)
 else
 ((0 ≤ (C v0 0) ∧
 0 ≤ ((jU C (v0 + 1) (C v0 0) v1) v0 0) ∧
 ((jU C (v0 + 1) (C v0 0) v1) v0 0) < 6 ∧
 0 ≤ ((jU (jU C (v0 + 1) (C v0 0) v1) (v0 + 2) ((jU C (v0 + 1) (C v0 0) v1) v0 0) v2) v0 0) ∧
 ((jU (jU C (v0 + 1) (C v0 0) v1) (v0 + 2) ((jU C (v0 + 1) (C v0 0) v1) v0 0) v2) v0 0) < 6 ∧
 0 ≤ ((jU (jU (jU C (v0 + 1) (C v0 0) v1) (v0 + 2) ((jU C (v0 + 1) (C v0 0) v1) v0 0) v2) (v0 + 3) ((jU (jU C (v0 + 1) (C v0 0) v1) (v0 + 2) ((jU C (v0 + 1) (C v0 0) v1) v0 0) v2) v0 0) v3) v0 0) ∧
 ((jU (jU (jU C (v0 + 1) (C v0 0) v1) (v0 + 2) ((jU C (v0 + 1) (C v0 0) v1) v0 0) v2) (v0 + 3) ((jU (jU C (v0 + 1) (C v0 0) v1) (v0 + 2) ((jU C (v0 + 1) (C v0 0) v1) v0 0) v2) v0 0) v3) v0 0) < 6 ∧
 jRng (((jU (jU (jU (jU C (v0 + 1) (C v0 0) v1) (v0 + 2) ((jU C (v0 + 1) (C v0 0) v1) v0 0) v2) (v0 + 3) ((jU (jU C (v0 + 1) (C v0 0) v1) (v0 + 2) ((jU C (v0 + 1) (C v0 0) v1) v0 0) v2) v0 0) v3) (v0 + 4) ((jU (jU (jU C (v0 + 1) (C v0 0) v1) (v0 + 2) ((jU C (v0 + 1) (C v0 0) v1) v0 0) v2) (v0 + 3) ((jU (jU C (v0 + 1) (C v0 0) v1) (v0 + 2) ((jU C (v0 + 1) (C v0 0) v1) v0 0) v2) v0 0) v3) v0 0) v4) v0 0) + 1) ∧
 post (jU (jU (jU (jU (jU C (v0 + 1) (C v0 0) v1) (v0 + 2) ((jU C (v0 + 1) (C v0 0) v1) v0 0) v2) (v0 + 3) ((jU (jU C (v0 + 1) (C v0 0) v1) (v0 + 2) ((jU C (v0 + 1) (C v0 0) v1) v0 0) v2) v0 0) v3) (v0 + 4) ((jU (jU (jU C (v0 + 1) (C v0 0) v1) (v0 + 2) ((jU C (v0 + 1) (C v0 0) v1) v0 0) v2) (v0 + 3) ((jU (jU C (v0 + 1) (C v0 0) v1) (v0 + 2) ((jU C (v0 + 1) (C v0 0) v1) v0 0) v2) v0 0) v3) v0 0) v4) v0 0 (((jU (jU (jU (jU C (v0 + 1) (C v0 0) v1) (v0 + 2) ((jU C (v0 + 1) (C v0 0) v1) v0 0) v2) (v0 + 3) ((jU (jU C (v0 + 1) (C v0 0) v1) (v0 + 2) ((jU C (v0 + 1) (C v0 0) v1) v0 0) v2) v0 0) v3) (v0 + 4) ((jU (jU (jU C (v0 + 1) (C v0 0) v1) (v0 + 2) ((jU C (v0 + 1) (C v0 0) v1) v0 0) v2) (v0 + 3) ((jU (jU C (v0 + 1) (C v0 0) v1) (v0 + 2) ((jU C (v0 + 1) (C v0 0) v1) v0 0) v2) v0 0) v3) v0 0) v4) v0 0) + 1)))))
def wp_9_readRange (v2 : Int) (v3 : Int) (C : jC) (post : Int → jC → Prop) : Prop :=
 wp_5_takeNumber 1 C (fun x1 C2 =>
 (if x1 = 0 then
 (post 0 C2)
 else
 (wp_5_takeWord 5 C2 (fun x6 C7 =>
 (if x6 = 0 then
 (wp_1_takeTest v2 1 (C2 1 5) (C7 1 5) v3 C7 (fun C12 =>
 post 1 C12))
 else
 (wp_5_takeNumber 1 C7 (fun x15 C16 =>
 (if x15 = 0 then
 (post 0 C16)
 else
 ((if (C2 1 5) ≤ (C16 1 5) then
 (wp_1_takeTest v2 1 (C2 1 5) (C16 1 5) v3 C16 (fun C22 =>
 post 1 C22))
 else
 (wp_5_failAt (C16 1 6) C16 (fun x25 C26 =>
 ((x25 = 0 ∨ x25 = 1) ∧
 post x25 C26)))))))))))))
def wp_9_isPatternSign (v2 : Int) (C : jC) (post : Int → Prop) : Prop :=
 wp_5_isLetterAt v2 C (fun x1 =>
 (if x1 = 0 then
 (wp_5_byteAt v2 C (fun x6 =>
 (if x6 = 63 then
 (post 1)
 else
 (post 0))))
 else
 (post 1)))
def wp_1_withSign (v0 : Int) (v1 : Int) (v2 : Int) (C : jC) (post : Int → Prop) : Prop :=
 (if v1 < 0 then
 (post v0)
 else
 ((if v1 < 4 then
 ((if v2 = 63 then
 (post (jOr v0 (jShl 27 (5 * v1))))
 else
 (post (jOr v0 (jShl ((v2 - 97) + 1) (5 * v1))))))
 else
 (post v0))))
def wp_9_readPattern_176 (s0 : Int) (s1 : Int) (v2 : Int) (v3 : Int) (v6 : Int) (v7 : Int) (C : jC) (post : Int → jC → Prop) : Prop :=
 (jRng (s1 + s0) ∧
 (if v7 = 0 then
 (wp_1_takeTest v2 2 v6 0 v3 (jU C 1 3 (s1 + s0)) (fun C5 =>
 post 1 C5))
 else
 (wp_1_takeTest v2 2 v6 1 v3 (jU C 1 3 (s1 + s0)) (fun C9 =>
 post 1 C9))))
def wp_9_readPattern_137 (s0 : Int) (v2 : Int) (v3 : Int) (v4 : Int) (v5 : Int) (v6 : Int) (C : jC) (post : Int → jC → Prop) : Prop :=
 (if 4 < v5 then
 (wp_5_failHere C (fun x13 C14 =>
 ((x13 = 0 ∨ x13 = 1) ∧
 post x13 C14)))
 else
 ((if v5 = 0 then
 ((if s0 = 0 then
 (wp_5_failHere C (fun x20 C21 =>
 ((x20 = 0 ∨ x20 = 1) ∧
 post x20 C21)))
 else
 ((if s0 = 0 then
 (wp_9_readPattern_176 0 (v4 + v5) v2 v3 v6 s0 C post)
 else
 (wp_9_readPattern_176 1 (v4 + v5) v2 v3 v6 s0 C post)))))
 else
 ((if s0 = 0 then
 ((jRng (v4 + v5) ∧
 wp_9_readPattern_176 0 (v4 + v5) v2 v3 v6 s0 C post))
 else
 ((jRng (v4 + v5) ∧
 wp_9_readPattern_176 1 (v4 + v5) v2 v3 v6 s0 C post)))))))
def wp_9_readPattern_58  (C : jC) (post : Int → jC → Prop) : Prop :=
 wp_5_failHere C (fun x31 C32 =>
 ((x31 = 0 ∨ x31 = 1) ∧
 post x31 C32))
def wp_9_readPattern_75 (v2 : Int) (v3 : Int) (v4 : Int) (C : jC) (post : Int → jC → Prop) (k75 : Int → Int → Prop) (v5 : Int) (v6 : Int) : Prop :=
 (if 4 < v5 then
 ((jRng (v4 + v5) ∧
 wp_5_byteAt (v4 + v5) C (fun x72 =>
 (if x72 = 42 then
 (wp_9_readPattern_137 1 v2 v3 v4 v5 v6 C post)
 else
 (wp_9_readPattern_137 0 v2 v3 v4 v5 v6 C post)))))
 else
 ((jRng (v4 + v5) ∧
 wp_9_isPatternSign (v4 + v5) C (fun x78 =>
 (if x78 = 0 then
 (wp_5_byteAt (v4 + v5) C (fun x83 =>
 (if x83 = 42 then
 (wp_9_readPattern_137 1 v2 v3 v4 v5 v6 C post)
 else
 (wp_9_readPattern_137 0 v2 v3 v4 v5 v6 C post))))
 else
 (wp_5_byteAt (v4 + v5) C (fun x88 =>
 wp_1_withSign v6 v5 x88 C (fun x92 =>
 k75 (v5 + 1) x92))))))))
def wp_9_readPattern (v2 : Int) (v3 : Int) (C : jC) (post : Int → jC → Prop) : Prop :=
 wp_5_skipBlanks C (fun C37 =>
 wp_5_isWordHere 4 C37 (fun x40 =>
 (if x40 = 0 then
 (wp_5_isWordHere 5 C37 (fun x45 =>
 (if x45 = 0 then
 (wp_5_isWordHere 6 C37 (fun x50 =>
 (if x50 = 0 then
 (wp_5_isWordHere 8 C37 (fun x55 =>
 (if x55 = 0 then
 (wp_5_isWordHere 9 C37 (fun x60 =>
 (if x60 = 0 then
 (wp_5_isWordHere 10 C37 (fun x65 =>
 (if x65 = 0 then
 (jL2 (wp_9_readPattern_75 v2 v3 (C37 1 3) C37 post) 0 0)
 else
 (wp_9_readPattern_58 C37 post))))
 else
 (wp_9_readPattern_58 C37 post))))
 else
 (wp_9_readPattern_58 C37 post))))
 else
 (wp_9_readPattern_58 C37 post))))
 else
 (wp_9_readPattern_58 C37 post))))
 else
 (wp_9_readPattern_58 C37 post))))
def wp_9_readFilter_143 (v3 : Int) (v4 : Int) (v5 : Int) (C : jC) (post : Int → jC → Prop) (k76 : Int → jC → Prop) : Prop :=
 wp_5_takeWord 4 C (fun x33 C34 =>
 (if x33 = 0 then
 (post 1 C34)
 else
 ((jRng (v5 + 1) ∧
 k76 (v5 + 1) C34))))
def wp_9_readFilter_76 (v3 : Int) (v4 : Int) (post : Int → jC → Prop) (k76 : Int → jC → Prop) (v5 : Int) (C : jC) : Prop :=
 (if 6 ≤ v5 then
 (wp_5_skipBlanks C (fun C41 =>
 wp_5_failHere C41 (fun x44 C45 =>
 ((x44 = 0 ∨ x44 = 1) ∧
 post x44 C45))))
 else
 (wp_9_takeNots C (fun x49 C50 =>
 wp_5_takeWord 7 C50 (fun x53 C54 =>
 (if x53 = 0 then
 ((if v4 = 0 then
 (wp_9_readPattern v3 x49 C54 (fun x59 C60 =>
 (if x59 = 0 then
 (post 0 C60)
 else
 (wp_9_readFilter_143 v3 v4 v5 C60 post k76))))
 else
 (wp_9_readRange v3 x49 C54 (fun x64 C65 =>
 (if x64 = 0 then
 (post 0 C65)
 else
 (wp_9_readFilter_143 v3 v4 v5 C65 post k76))))))
 else
 (wp_1_takeTest v3 0 0 0 x49 C54 (fun C70 =>
 wp_9_readFilter_143 v3 v4 v5 C70 post k76)))))))
def wp_9_readFilter  (C : jC) (post : Int → jC → Prop) : Prop :=
 wp_9_readColumn C (fun x1 C2 =>
 (if x1 = 0 then
 (post 0 C2)
 else
 (wp_2_filterOf 7 (C2 1 5) C2 (fun x6 =>
 (if x6 < 0 then
 (wp_5_failAt (C2 1 6) C2 (fun x12 C13 =>
 ((x12 = 0 ∨ x12 = 1) ∧
 post x12 C13)))
 else
 ((if (C2 x6 0) ≤ 0 then
 (wp_5_takeSign 58 C2 (fun x18 C19 =>
 (if x18 = 0 then
 (wp_5_failHere C19 (fun x23 C24 =>
 ((x23 = 0 ∨ x23 = 1) ∧
 post x23 C24)))
 else
 (wp_9_kindAsked (C2 1 5) C19 (fun x28 =>
 (if x28 = 0 then
 (jL2 (wp_9_readFilter_76 x6 1 post) 0 C19)
 else
 (jL2 (wp_9_readFilter_76 x6 0 post) 0 C19)))))))
 else
 (wp_5_failAt (C2 1 6) C2 (fun x113 C114 =>
 ((x113 = 0 ∨ x113 = 1) ∧
 post x113 C114))))))))))
def wp_2_sortAt (v0 : Int) (v1 : Int) (C : jC) (post : Int → Prop) : Prop :=
 (if v1 < 0 then
 (post (-1))
 else
 ((if (C v0 2) ≤ v1 then
 (post (-1))
 else
 ((if 3 ≤ v1 then
 (post (-1))
 else
 (post (C (v0 + 2) v1)))))))
def wp_2_sortsBy_2 (v0 : Int) (v1 : Int) (C : jC) (post : Int → Prop) (k2 : Int → Prop) (v2 : Int) : Prop :=
 (if (C v0 2) ≤ v2 then
 (post 0)
 else
 (wp_2_sortAt v0 v2 C (fun x2 =>
 (if (x2.tdiv 2) = v1 then
 (post 1)
 else
 (k2 (v2 + 1))))))
def wp_2_sortsBy (v0 : Int) (v1 : Int) (C : jC) (post : Int → Prop) : Prop :=
 jL1 (wp_2_sortsBy_2 v0 v1 C post) 0
def wp_2_takeSort (v0 : Int) (v1 : Int) (C : jC) (post : jC → Prop) : Prop :=
 (if 3 ≤ (C v0 2) then
 (post C)
 else
 ((0 ≤ (C v0 2) ∧
 jRng (((jU C (v0 + 2) (C v0 2) v1) v0 2) + 1) ∧
 post (jU (jU C (v0 + 2) (C v0 2) v1) v0 2 (((jU C (v0 + 2) (C v0 2) v1) v0 2) + 1)))))
def wp_9_readSort (v2 : Int) (v3 : Int) (C : jC) (post : Int → jC → Prop) : Prop :=
 (if (C 7 2) < 3 then
 (wp_9_readColumn C (fun x2 C3 =>
 (if x2 = 0 then
 (post 0 C3)
 else
 (wp_2_sortsBy 7 (C3 1 5) C3 (fun x7 =>
 (if x7 = 0 then
 ((jRng ((2 * (C3 1 5)) + v3) ∧
 wp_2_takeSort 7 ((2 * (C3 1 5)) + v3) C3 (fun C14 =>
 post 1 C14)))
 else
 (wp_5_failAt (C3 1 6) C3 (fun x17 C18 =>
 ((x17 = 0 ∨ x17 = 1) ∧
 post x17 C18)))))))))
 else
 (wp_5_failAt v2 C (fun x22 C23 =>
 ((x22 = 0 ∨ x22 = 1) ∧
 post x22 C23))))
def wp_2_hides (v0 : Int) (v1 : Int) (C : jC) (post : Int → Prop) : Prop :=
 (if v1 < 0 then
 (post 0)
 else
 ((if 5 ≤ v1 then
 (post 0)
 else
 ((if (jAnd (jShr (C v0 3) v1) 1) = 1 then
 (post 1)
 else
 (post 0))))))
def wp_9_readHide  (C : jC) (post : Int → jC → Prop) : Prop :=
 wp_9_readColumn C (fun x1 C2 =>
 (if x1 = 0 then
 (post 0 C2)
 else
 (wp_2_hides 7 (C2 1 5) C2 (fun x6 =>
 (if x6 = 0 then
 (post 1 (jU C2 7 3 (jOr (C2 7 3) (jShl 1 (C2 1 5)))))
 else
 (wp_5_failAt (C2 1 6) C2 (fun x12 C13 =>
 ((x12 = 0 ∨ x12 = 1) ∧
 post x12 C13))))))))
def wp_9_readPart  (C : jC) (post : Int → jC → Prop) : Prop :=
 wp_5_skipBlanks C (fun C2 =>
 wp_5_isDigitAt (C2 1 3) C2 (fun x5 =>
 (if x5 = 0 then
 (wp_5_takeWord 8 C2 (fun x10 C11 =>
 (if x10 = 0 then
 (wp_5_takeWord 9 C11 (fun x15 C16 =>
 (if x15 = 0 then
 (wp_5_takeWord 10 C16 (fun x20 C21 =>
 (if x20 = 0 then
 (wp_5_failHere C21 (fun x25 C26 =>
 ((x25 = 0 ∨ x25 = 1) ∧
 post x25 C26)))
 else
 (wp_9_readHide C21 (fun x30 C31 =>
 ((x30 = 0 ∨ x30 = 1) ∧
 post x30 C31))))))
 else
 (wp_9_readSort (C2 1 3) 1 C16 (fun x35 C36 =>
 ((x35 = 0 ∨ x35 = 1) ∧
 post x35 C36))))))
 else
 (wp_9_readSort (C2 1 3) 0 C11 (fun x40 C41 =>
 ((x40 = 0 ∨ x40 = 1) ∧
 post x40 C41))))))
 else
 (wp_9_readFilter C2 (fun x45 C46 =>
 ((x45 = 0 ∨ x45 = 1) ∧
 post x45 C46))))))
def wp_9_readView_23  (post : Int → jC → Prop) (k23 : Int → jC → Prop) (v3 : Int) (C : jC) : Prop :=
 (if 400 ≤ v3 then
 (wp_5_failHere C (fun x15 C16 =>
 ((x15 = 0 ∨ x15 = 1) ∧
 post x15 C16)))
 else
 (wp_9_readPart C (fun x20 C21 =>
 (if x20 = 0 then
 (post 0 C21)
 else
 (wp_5_isOver C21 (fun x25 C26 =>
 (if x25 = 0 then
 (wp_5_takeSign 59 C26 (fun x30 C31 =>
 (if x30 = 0 then
 (wp_5_failHere C31 (fun x35 C36 =>
 ((x35 = 0 ∨ x35 = 1) ∧
 post x35 C36)))
 else
 (k23 (v3 + 1) C31))))
 else
 (post 1 C26))))))))
def wp_9_readView (v2 : Int) (C : jC) (post : Int → jC → Prop) : Prop :=
 wp_9_knowColumns v2 C (fun C2 =>
 wp_2_forget 7 C2 (fun C6 =>
 wp_5_isOver C6 (fun x9 C10 =>
 (if x9 = 0 then
 (jL2 (wp_9_readView_23  post) 0 C10)
 else
 (post 1 C10)))))
def wp_6_takeAllOut (v0 : Int) (C : jC) (post : jC → Prop) : Prop :=
 post (jU C v0 1 0)
def wp_7_compareBy_68 (s0 : Int) (v4 : Int) (v5 : Int) (C : jC) (post : Int → Prop) : Prop :=
 (if v5 ≤ v4 then
 ((if 0 = s0 then
 (post 1)
 else
 (post (-1))))
 else
 ((if 1 = s0 then
 (post 1)
 else
 (post (-1)))))
def wp_7_compareBy (v0 : Int) (v1 : Int) (v2 : Int) (v3 : Int) (C : jC) (post : Int → Prop) : Prop :=
 wp_7_valueAt v0 v2 (v1.tdiv 2) C (fun x5 =>
 wp_7_valueAt v0 v3 (v1.tdiv 2) C (fun x10 =>
 (if x5 = x10 then
 (post 0)
 else
 ((if x5 = (-1000000) then
 ((if x5 = (-1000000) then
 (post 1)
 else
 (post (-1))))
 else
 ((if x10 = (-1000000) then
 ((if x5 = (-1000000) then
 (post 1)
 else
 (post (-1))))
 else
 ((if (v1.tmod 2) = 1 then
 (wp_7_compareBy_68 1 x5 x10 C post)
 else
 (wp_7_compareBy_68 0 x5 x10 C post))))))))))
def wp_2_isAhead_3 (v0 : Int) (v1 : Int) (v2 : Int) (v3 : Int) (C : jC) (post : Int → Prop) (k3 : Int → Prop) (v4 : Int) : Prop :=
 (if (C v0 2) ≤ v4 then
 (post 0)
 else
 (wp_2_sortAt v0 v4 C (fun x2 =>
 wp_7_compareBy v1 x2 v2 v3 C (fun x6 =>
 (if x6 = 0 then
 (k3 (v4 + 1))
 else
 ((if 0 ≤ x6 then
 (post 0)
 else
 (post 1))))))))
def wp_2_isAhead (v0 : Int) (v1 : Int) (v2 : Int) (v3 : Int) (C : jC) (post : Int → Prop) : Prop :=
 jL1 (wp_2_isAhead_3 v0 v1 v2 v3 C post) 0
def wp_8_freshInto_53 (v0 : Int) (v1 : Int) (v2 : Int) (v3 : Int) (v4 : Int) (C : jC) (post : jC → Prop) (k6 : Int → jC → Prop) (k53 : Int → Prop) (v5 : Int) : Prop :=
 (if v5 ≤ 0 then
 (wp_6_putAt v2 v5 v4 C (fun C25 =>
 (jRng (v3 + 1) ∧
 k6 (v3 + 1) C25)))
 else
 (wp_6_at v2 (v5 - 1) C (fun x30 =>
 wp_2_isAhead v1 (v0 + 1) v4 x30 C (fun x34 =>
 (if x34 = 0 then
 (wp_6_putAt v2 v5 v4 C (fun C40 =>
 (jRng (v3 + 1) ∧
 k6 (v3 + 1) C40)))
 else
 (k53 (v5 + (-1))))))))
def wp_8_freshInto_6 (v0 : Int) (v1 : Int) (v2 : Int) (post : jC → Prop) (k6 : Int → jC → Prop) (v3 : Int) (C : jC) : Prop :=
 wp_6_length ((v0 + 1) + 5) C (fun x5 =>
 (if x5 ≤ v3 then
 (post C)
 else
 (wp_6_at ((v0 + 1) + 5) v3 C (fun x10 =>
 wp_2_firstUnlike v1 (v0 + 1) x10 C (fun x14 =>
 (if x14 = (-1) then
 (wp_6_length v2 C (fun x19 =>
 jL1 (wp_8_freshInto_53 v0 v1 v2 v3 x10 C post k6) x19))
 else
 (k6 (v3 + 1) C)))))))
def wp_8_freshInto (v0 : Int) (v1 : Int) (v2 : Int) (C : jC) (post : jC → Prop) : Prop :=
 wp_6_takeAllOut v2 C (fun C2 =>
 jL2 (wp_8_freshInto_6 v0 v1 v2 post) 0 C2)
def wp_11_view (v1 : Int) (C : jC) (ex : String → jC → Prop) (post : Int → jC → Prop) : Prop :=
 wp_5_useUp C (fun C2 =>
 wp_11_viewNumbered v1 C2 ex (fun x5 =>
 wp_5_openUsedText C2 (fun C11 =>
 wp_9_readView 36 C11 (fun x14 C15 =>
 (if x14 = 0 then
 (ex "java/lang/IllegalArgumentException" C15)
 else
 (wp_2_copyFrom (x5 + 1) 7 C15 (fun C20 =>
 wp_8_freshInto 35 (x5 + 1) (x5 + 29) C20 (fun C24 =>
 wp_6_length (x5 + 29) C24 (fun x27 =>
 post x27 C24)))))))))
def wp_11_needColumn (v1 : Int) (C : jC) (ex : String → jC → Prop) (post : Prop) : Prop :=
 wp_7_isColumn 36 v1 C (fun x1 =>
 (if x1 = 0 then
 (ex "java/lang/IndexOutOfBoundsException" C)
 else
 (post)))
def wp_7_kindOf (v0 : Int) (v1 : Int) (C : jC) (post : Int → Prop) : Prop :=
 wp_7_isColumn v0 v1 C (fun x1 =>
 (if x1 = 0 then
 (post (-1))
 else
 ((0 ≤ v1 ∧
 v1 < 5 ∧
 post (C (v0 + 1) v1)))))
def wp_11_kind (v1 : Int) (C : jC) (ex : String → jC → Prop) (post : Int → Prop) : Prop :=
 wp_11_needColumn v1 C ex (wp_7_kindOf 36 v1 C (fun x5 =>
 post x5))
def wp_7_seatOf_2 (v0 : Int) (v1 : Int) (C : jC) (post : Int → Prop) (k2 : Int → Prop) (v2 : Int) : Prop :=
 wp_6_length (v0 + 5) C (fun x1 =>
 (if x1 ≤ v2 then
 (post (-1))
 else
 (wp_6_at (v0 + 5) v2 C (fun x6 =>
 wp_7_keyAt v0 x6 C (fun x10 =>
 (if x10 = v1 then
 (post x6)
 else
 (k2 (v2 + 1))))))))
def wp_7_seatOf (v0 : Int) (v1 : Int) (C : jC) (post : Int → Prop) : Prop :=
 jL1 (wp_7_seatOf_2 v0 v1 C post) 0
def wp_11_seatOfKey (v1 : Int) (C : jC) (ex : String → jC → Prop) (post : Int → Prop) : Prop :=
 wp_7_seatOf 36 v1 C (fun x1 =>
 (if x1 = (-1) then
 (ex "java/lang/IndexOutOfBoundsException" C)
 else
 (post x1)))
def wp_11_cell (v1 : Int) (v2 : Int) (C : jC) (ex : String → jC → Prop) (post : Int → Prop) : Prop :=
 wp_11_seatOfKey v1 C ex (fun x1 =>
 wp_11_needColumn v2 C ex (wp_7_valueAt 36 x1 v2 C (fun x9 =>
 post x9)))
def wp_11_row (v1 : Int) (v2 : Int) (C : jC) (ex : String → jC → Prop) (post : Int → Prop) : Prop :=
 wp_11_viewNumbered v1 C ex (fun x1 =>
 wp_6_at (x1 + 29) v2 C (fun x6 =>
 wp_7_keyAt 36 x6 C (fun x10 =>
 post x10)))
def wp_11_place (v1 : Int) (v2 : Int) (C : jC) (ex : String → jC → Prop) (post : Int → Prop) : Prop :=
 wp_11_viewNumbered v1 C ex (fun x1 =>
 wp_11_seatOfKey v2 C ex (fun x6 =>
 wp_6_placeOf (x1 + 29) x6 C (fun x10 =>
 post x10)))
def wp_2_filteredBits_4 (v0 : Int) (C : jC) (post : Int → Prop) (k4 : Int → Int → Prop) (v1 : Int) (v2 : Int) : Prop :=
 (if 5 ≤ v2 then
 (post v1)
 else
 ((0 ≤ v2 ∧
 (if (C (((v0 + 1) + 2) + (5 * v2)) 0) ≤ 0 then
 (k4 v1 (v2 + 1))
 else
 (k4 (jOr v1 (jShl 1 v2)) (v2 + 1))))))
def wp_2_filteredBits (v0 : Int) (C : jC) (post : Int → Prop) : Prop :=
 jL2 (wp_2_filteredBits_4 v0 C post) 0 0
def wp_11_about (v1 : Int) (v2 : Int) (C : jC) (ex : String → jC → Prop) (post : Int → Prop) : Prop :=
 wp_11_viewNumbered v1 C ex (fun x1 =>
 (if v2 = 0 then
 (wp_6_length (x1 + 29) C (fun x15 =>
 post x15))
 else
 (if v2 = 1 then
 (post (C (x1 + 1) 2))
 else
 (if v2 = 2 then
 (post (C (x1 + 1) 3))
 else
 (if v2 = 3 then
 (wp_2_filteredBits (x1 + 1) C (fun x11 =>
 post x11))
 else
 (if v2 = 4 then
 (post (C x1 3))
 else
 (ex "java/util/NoSuchElementException" C)))))))
def wp_11_sorts (v1 : Int) (v2 : Int) (C : jC) (ex : String → jC → Prop) (post : Int → Prop) : Prop :=
 wp_11_viewNumbered v1 C ex (fun x1 =>
 wp_2_sortAt (x1 + 1) v2 C (fun x6 =>
 post x6))
def wp_11_seatAtPlace (v1 : Int) (v2 : Int) (C : jC) (ex : String → jC → Prop) (post : Int → Prop) : Prop :=
 wp_6_at (v1 + 29) v2 C (fun x1 =>
 (if x1 = (-1) then
 (ex "java/lang/IndexOutOfBoundsException" C)
 else
 (post x1)))
def wp_11_needShown (v1 : Int) (v2 : Int) (C : jC) (ex : String → jC → Prop) (post : Prop) : Prop :=
 wp_2_hides (v1 + 1) v2 C (fun x1 =>
 (if x1 = 0 then
 (post)
 else
 (ex "java/lang/IllegalStateException" C)))
def wp_1_isWord_36 (s0 : Int) (v1 : Int) (v2 : Int) (C : jC) (post : Int → Prop) (k19 : Int → Int → Prop) : Prop :=
 (if s0 = 0 then
 ((jRng ((v1.tmod 19683) * 27) ∧
 jRng (v2 + 1) ∧
 k19 ((v1.tmod 19683) * 27) (v2 + 1)))
 else
 ((if v1 ≤ 0 then
 ((jRng ((v1.tmod 19683) * 27) ∧
 jRng (v2 + 1) ∧
 k19 ((v1.tmod 19683) * 27) (v2 + 1)))
 else
 (post 0))))
def wp_1_isWord_19  (C : jC) (post : Int → Prop) (k19 : Int → Int → Prop) (v1 : Int) (v2 : Int) : Prop :=
 (if 4 ≤ v2 then
 (post 1)
 else
 ((if 19683 ≤ v1 then
 (wp_1_isWord_36 0 v1 v2 C post k19)
 else
 (wp_1_isWord_36 1 v1 v2 C post k19))))
def wp_1_isWord (v0 : Int) (C : jC) (post : Int → Prop) : Prop :=
 (if v0 < 19683 then
 (post 0)
 else
 ((if v0 < 531441 then
 (jL2 (wp_1_isWord_19  C post) v0 0)
 else
 (post 0))))
def wp_7_mayHold (v0 : Int) (v1 : Int) (v2 : Int) (C : jC) (post : Int → Prop) : Prop :=
 wp_7_kindOf v0 v1 C (fun x1 =>
 (if x1 = 0 then
 ((if v2 < (-999) then
 (post 0)
 else
 ((if 999 < v2 then
 (post 0)
 else
 (post 1)))))
 else
 (wp_1_isWord v2 C (fun x8 =>
 ((x8 = 0 ∨ x8 = 1) ∧
 post x8)))))
def wp_8_beginEdit (v0 : Int) (C : jC) (post : jC → Prop) : Prop :=
 post (jU C (v0 + 11) 0 0)
def wp_0_takeChange (v0 : Int) (v1 : Int) (v2 : Int) (v3 : Int) (v4 : Int) (C : jC) (post : jC → Prop) : Prop :=
 (if 60 ≤ (C v0 0) then
 (post C)
 else
 ((0 ≤ (C v0 0) ∧
 0 ≤ ((jU C (v0 + 1) (C v0 0) v1) v0 0) ∧
 ((jU C (v0 + 1) (C v0 0) v1) v0 0) < 60 ∧
 0 ≤ ((jU (jU C (v0 + 1) (C v0 0) v1) (v0 + 2) ((jU C (v0 + 1) (C v0 0) v1) v0 0) v2) v0 0) ∧
 ((jU (jU C (v0 + 1) (C v0 0) v1) (v0 + 2) ((jU C (v0 + 1) (C v0 0) v1) v0 0) v2) v0 0) < 60 ∧
 0 ≤ ((jU (jU (jU C (v0 + 1) (C v0 0) v1) (v0 + 2) ((jU C (v0 + 1) (C v0 0) v1) v0 0) v2) (v0 + 3) ((jU (jU C (v0 + 1) (C v0 0) v1) (v0 + 2) ((jU C (v0 + 1) (C v0 0) v1) v0 0) v2) v0 0) v3) v0 0) ∧
 ((jU (jU (jU C (v0 + 1) (C v0 0) v1) (v0 + 2) ((jU C (v0 + 1) (C v0 0) v1) v0 0) v2) (v0 + 3) ((jU (jU C (v0 + 1) (C v0 0) v1) (v0 + 2) ((jU C (v0 + 1) (C v0 0) v1) v0 0) v2) v0 0) v3) v0 0) < 60 ∧
 jRng (((jU (jU (jU (jU C (v0 + 1) (C v0 0) v1) (v0 + 2) ((jU C (v0 + 1) (C v0 0) v1) v0 0) v2) (v0 + 3) ((jU (jU C (v0 + 1) (C v0 0) v1) (v0 + 2) ((jU C (v0 + 1) (C v0 0) v1) v0 0) v2) v0 0) v3) (v0 + 4) ((jU (jU (jU C (v0 + 1) (C v0 0) v1) (v0 + 2) ((jU C (v0 + 1) (C v0 0) v1) v0 0) v2) (v0 + 3) ((jU (jU C (v0 + 1) (C v0 0) v1) (v0 + 2) ((jU C (v0 + 1) (C v0 0) v1) v0 0) v2) v0 0) v3) v0 0) v4) v0 0) + 1) ∧
 post (jU (jU (jU (jU (jU C (v0 + 1) (C v0 0) v1) (v0 + 2) ((jU C (v0 + 1) (C v0 0) v1) v0 0) v2) (v0 + 3) ((jU (jU C (v0 + 1) (C v0 0) v1) (v0 + 2) ((jU C (v0 + 1) (C v0 0) v1) v0 0) v2) v0 0) v3) (v0 + 4) ((jU (jU (jU C (v0 + 1) (C v0 0) v1) (v0 + 2) ((jU C (v0 + 1) (C v0 0) v1) v0 0) v2) (v0 + 3) ((jU (jU C (v0 + 1) (C v0 0) v1) (v0 + 2) ((jU C (v0 + 1) (C v0 0) v1) v0 0) v2) v0 0) v3) v0 0) v4) v0 0 (((jU (jU (jU (jU C (v0 + 1) (C v0 0) v1) (v0 + 2) ((jU C (v0 + 1) (C v0 0) v1) v0 0) v2) (v0 + 3) ((jU (jU C (v0 + 1) (C v0 0) v1) (v0 + 2) ((jU C (v0 + 1) (C v0 0) v1) v0 0) v2) v0 0) v3) (v0 + 4) ((jU (jU (jU C (v0 + 1) (C v0 0) v1) (v0 + 2) ((jU C (v0 + 1) (C v0 0) v1) v0 0) v2) (v0 + 3) ((jU (jU C (v0 + 1) (C v0 0) v1) (v0 + 2) ((jU C (v0 + 1) (C v0 0) v1) v0 0) v2) v0 0) v3) v0 0) v4) v0 0) + 1)))))
def wp_3_takeChange (v0 : Int) (v1 : Int) (v2 : Int) (v3 : Int) (v4 : Int) (v5 : Int) (C : jC) (post : jC → Prop) : Prop :=
 (jRng ((C v0 1) * 5) ∧
 (if ((C v0 1) * 5) < 0 then
 (post C)
 else
 ((jRng (((C v0 1) * 5) + 5) ∧
 (if (((C v0 1) * 5) + 5) ≤ 200 then
 ((((C v0 1) * 5) < 200 ∧
 (((C v0 1) * 5) + 1) < 200 ∧
 (((C v0 1) * 5) + 2) < 200 ∧
 (((C v0 1) * 5) + 3) < 200 ∧
 (((C v0 1) * 5) + 4) < 200 ∧
 jRng (((jU (jU (jU (jU (jU C (v0 + 1) ((C v0 1) * 5) v1) (v0 + 1) (((C v0 1) * 5) + 1) v2) (v0 + 1) (((C v0 1) * 5) + 2) v3) (v0 + 1) (((C v0 1) * 5) + 3) v4) (v0 + 1) (((C v0 1) * 5) + 4) v5) v0 1) + 1) ∧
 jRng (((jU (jU (jU (jU (jU (jU C (v0 + 1) ((C v0 1) * 5) v1) (v0 + 1) (((C v0 1) * 5) + 1) v2) (v0 + 1) (((C v0 1) * 5) + 2) v3) (v0 + 1) (((C v0 1) * 5) + 3) v4) (v0 + 1) (((C v0 1) * 5) + 4) v5) v0 1 ((((jU (jU (jU (jU (jU C (v0 + 1) ((C v0 1) * 5) v1) (v0 + 1) (((C v0 1) * 5) + 1) v2) (v0 + 1) (((C v0 1) * 5) + 2) v3) (v0 + 1) (((C v0 1) * 5) + 3) v4) (v0 + 1) (((C v0 1) * 5) + 4) v5) v0 1) + 1).tmod 40)) v0 2) + 1) ∧
 post (jU (jU (jU (jU (jU (jU (jU C (v0 + 1) ((C v0 1) * 5) v1) (v0 + 1) (((C v0 1) * 5) + 1) v2) (v0 + 1) (((C v0 1) * 5) + 2) v3) (v0 + 1) (((C v0 1) * 5) + 3) v4) (v0 + 1) (((C v0 1) * 5) + 4) v5) v0 1 ((((jU (jU (jU (jU (jU C (v0 + 1) ((C v0 1) * 5) v1) (v0 + 1) (((C v0 1) * 5) + 1) v2) (v0 + 1) (((C v0 1) * 5) + 2) v3) (v0 + 1) (((C v0 1) * 5) + 3) v4) (v0 + 1) (((C v0 1) * 5) + 4) v5) v0 1) + 1).tmod 40)) v0 2 (min (((jU (jU (jU (jU (jU (jU C (v0 + 1) ((C v0 1) * 5) v1) (v0 + 1) (((C v0 1) * 5) + 1) v2) (v0 + 1) (((C v0 1) * 5) + 2) v3) (v0 + 1) (((C v0 1) * 5) + 3) v4) (v0 + 1) (((C v0 1) * 5) + 4) v5) v0 1 ((((jU (jU (jU (jU (jU C (v0 + 1) ((C v0 1) * 5) v1) (v0 + 1) (((C v0 1) * 5) + 1) v2) (v0 + 1) (((C v0 1) * 5) + 2) v3) (v0 + 1) (((C v0 1) * 5) + 3) v4) (v0 + 1) (((C v0 1) * 5) + 4) v5) v0 1) + 1).tmod 40)) v0 2) + 1) 40))))
 else
 (post C))))))
def wp_8_changeCell (v0 : Int) (v1 : Int) (v2 : Int) (v3 : Int) (v4 : Int) (C : jC) (post : jC → Prop) : Prop :=
 wp_7_valueAt (v0 + 1) v2 v3 C (fun x1 =>
 (if x1 = v4 then
 (post C)
 else
 (wp_7_keyAt (v0 + 1) v2 C (fun x6 =>
 wp_7_write (v0 + 1) v2 v3 v4 v1 C (fun C11 =>
 wp_0_takeChange (v0 + 11) x6 v3 x1 v4 C11 (fun C15 =>
 wp_3_takeChange (v0 + 9) v1 x6 v3 x1 v4 C15 (fun C19 =>
 post C19)))))))
def wp_10_forgetOldest_9 (v0 : Int) (v1 : Int) (post : jC → Prop) (k9 : Int → jC → Prop) (v2 : Int) (C : jC) : Prop :=
 (if 8 ≤ v2 then
 (post (jU (jU C (v0 + 31) 7 v1) v0 3 7))
 else
 ((0 ≤ v2 ∧
 0 ≤ (v2 - 1) ∧
 k9 (v2 + 1) (jU C (v0 + 31) (v2 - 1) (C (v0 + 31) v2)))))
def wp_10_forgetOldest (v0 : Int) (C : jC) (post : jC → Prop) : Prop :=
 jL2 (wp_10_forgetOldest_9 v0 (C (v0 + 31) 0) post) 1 C
def wp_10_remember (v0 : Int) (v1 : Int) (C : jC) (post : jC → Prop) : Prop :=
 (if (C v0 3) < 8 then
 ((0 ≤ (C v0 3) ∧
 wp_0_copyFrom (C (v0 + 31) (C v0 3)) v1 C (fun C5 =>
 (jRng ((C5 v0 3) + 1) ∧
 post (jU C5 v0 3 ((C5 v0 3) + 1))))))
 else
 (wp_10_forgetOldest v0 C (fun C11 =>
 (0 ≤ (C11 v0 3) ∧
 (C11 v0 3) < 8 ∧
 wp_0_copyFrom (C11 (v0 + 31) (C11 v0 3)) v1 C11 (fun C17 =>
 (jRng ((C17 v0 3) + 1) ∧
 post (jU C17 v0 3 ((C17 v0 3) + 1))))))))
def wp_8_finishEdit (v0 : Int) (v1 : Int) (C : jC) (post : Int → jC → Prop) : Prop :=
 (if (C (v0 + 11) 0) ≤ 0 then
 (post (C (v0 + 11) 0) C)
 else
 ((if v1 < 0 then
 (post (C (v0 + 11) 0) C)
 else
 ((if 4 ≤ v1 then
 (post (C (v0 + 11) 0) C)
 else
 (wp_10_remember (((v0 + 8) + 8) + (72 * v1)) (v0 + 11) C (fun C7 =>
 post (C7 (v0 + 11) 0) C7)))))))
def wp_11_changeOne (v1 : Int) (v2 : Int) (v3 : Int) (v4 : Int) (C : jC) (post : Int → jC → Prop) : Prop :=
 wp_8_beginEdit 35 C (fun C2 =>
 wp_8_changeCell 35 v1 v2 v3 v4 C2 (fun C6 =>
 wp_8_finishEdit 35 v1 C6 (fun x9 C10 =>
 wp_7_keyAt 36 v2 C10 (fun x13 =>
 post x13 C10))))
def wp_11_set (v1 : Int) (v2 : Int) (v3 : Int) (v4 : Int) (C : jC) (ex : String → jC → Prop) (post : Int → jC → Prop) : Prop :=
 wp_11_viewNumbered v1 C ex (fun x1 =>
 wp_11_seatAtPlace x1 v2 C ex (fun x6 =>
 wp_11_needColumn v3 C ex (wp_11_needShown x1 v3 C ex (wp_7_mayHold 36 v3 v4 C (fun x18 =>
 (if x18 = 0 then
 (ex "java/lang/IllegalArgumentException" C)
 else
 (wp_11_changeOne v1 x6 v3 v4 C (fun x23 C24 =>
 post x23 C24))))))))
def wp_11_clear (v1 : Int) (v2 : Int) (v3 : Int) (C : jC) (ex : String → jC → Prop) (post : Int → jC → Prop) : Prop :=
 wp_11_viewNumbered v1 C ex (fun x1 =>
 wp_11_seatAtPlace x1 v2 C ex (fun x6 =>
 wp_11_needColumn v3 C ex (wp_11_needShown x1 v3 C ex (wp_11_changeOne v1 x6 v3 (-1000000) C (fun x18 C19 =>
 post x18 C19)))))
def wp_11_fill_79 (v1 : Int) (v3 : Int) (v4 : Int) (v5 : Int) (v7 : Int) (ex : String → jC → Prop) (post : Int → jC → Prop) (k79 : Int → jC → Prop) (v8 : Int) (C : jC) : Prop :=
 (if v3 < v8 then
 (wp_8_finishEdit 35 v1 C (fun x33 C34 =>
 post x33 C34))
 else
 (wp_6_at (v5 + 29) v8 C (fun x37 =>
 wp_8_changeCell 35 v1 x37 v4 v7 C (fun C42 =>
 (jRng (v8 + 1) ∧
 k79 (v8 + 1) C42)))))
def wp_11_fill (v1 : Int) (v2 : Int) (v3 : Int) (v4 : Int) (C : jC) (ex : String → jC → Prop) (post : Int → jC → Prop) : Prop :=
 wp_11_viewNumbered v1 C ex (fun x1 =>
 wp_11_seatAtPlace x1 v2 C ex (fun x6 =>
 wp_11_seatAtPlace x1 v3 C ex (fun x10 =>
 wp_11_needColumn v4 C ex ((if v2 ≤ v3 then
 (wp_11_needShown x1 v4 C ex (wp_7_valueAt 36 x6 v4 C (fun x23 =>
 wp_8_beginEdit 35 C (fun C28 =>
 (jRng (v2 + 1) ∧
 jL2 (wp_11_fill_79 v1 v3 v4 x1 x23 ex post) (v2 + 1) C28)))))
 else
 (ex "java/lang/IllegalArgumentException" C))))))
def wp_7_mayHoldOrBlank (v0 : Int) (v1 : Int) (v2 : Int) (C : jC) (post : Int → Prop) : Prop :=
 (if v2 = (-1000000) then
 (post 1)
 else
 (wp_7_mayHold v0 v1 v2 C (fun x2 =>
 (if x2 = 0 then
 (post 0)
 else
 (post 1)))))
def wp_11_replace_68 (v1 : Int) (v2 : Int) (v3 : Int) (v4 : Int) (v5 : Int) (ex : String → jC → Prop) (post : Int → jC → Prop) (k68 : Int → jC → Prop) (v6 : Int) (C : jC) : Prop :=
 wp_6_length (v5 + 29) C (fun x28 =>
 (if x28 ≤ v6 then
 (wp_8_finishEdit 35 v1 C (fun x33 C34 =>
 post x33 C34))
 else
 (wp_6_at (v5 + 29) v6 C (fun x37 =>
 wp_7_valueAt 36 x37 v2 C (fun x41 =>
 (if x41 = v3 then
 (wp_8_changeCell 35 v1 x37 v2 v4 C (fun C47 =>
 k68 (v6 + 1) C47))
 else
 (k68 (v6 + 1) C)))))))
def wp_11_replace (v1 : Int) (v2 : Int) (v3 : Int) (v4 : Int) (C : jC) (ex : String → jC → Prop) (post : Int → jC → Prop) : Prop :=
 wp_11_viewNumbered v1 C ex (fun x1 =>
 wp_11_needColumn v2 C ex (wp_11_needShown x1 v2 C ex (wp_7_mayHoldOrBlank 36 v2 v3 C (fun x14 =>
 (if x14 = 0 then
 (ex "java/lang/IllegalArgumentException" C)
 else
 (wp_7_mayHoldOrBlank 36 v2 v4 C (fun x19 =>
 (if x19 = 0 then
 (ex "java/lang/IllegalArgumentException" C)
 else
 (wp_8_beginEdit 35 C (fun C25 =>
 jL2 (wp_11_replace_68 v1 v2 v3 v4 x1 ex post) 0 C25))))))))))
def wp_11_swap (v1 : Int) (v2 : Int) (v3 : Int) (v4 : Int) (C : jC) (ex : String → jC → Prop) (post : Int → jC → Prop) : Prop :=
 wp_11_viewNumbered v1 C ex (fun x1 =>
 wp_11_seatAtPlace x1 v2 C ex (fun x6 =>
 wp_11_seatAtPlace x1 v3 C ex (fun x10 =>
 wp_11_needColumn v4 C ex ((if v2 = v3 then
 (ex "java/lang/IllegalArgumentException" C)
 else
 (wp_11_needShown x1 v4 C ex (wp_7_valueAt 36 x6 v4 C (fun x23 =>
 wp_7_valueAt 36 x10 v4 C (fun x27 =>
 wp_8_beginEdit 35 C (fun C32 =>
 wp_8_changeCell 35 v1 x6 v4 x27 C32 (fun C36 =>
 wp_8_changeCell 35 v1 x10 v4 x23 C36 (fun C40 =>
 wp_8_finishEdit 35 v1 C40 (fun x43 C44 =>
 post x43 C44)))))))))))))
def wp_9_readGrid_7 (v2 : Int) (post : Int → jC → Prop) (k7 : Int → jC → Prop) (v4 : Int) (C : jC) : Prop :=
 (if (C 3 0) ≤ v4 then
 (wp_5_skipBlanks C (fun C7 =>
 wp_5_failHere C7 (fun x10 C11 =>
 ((x10 = 0 ∨ x10 = 1) ∧
 post x10 C11))))
 else
 (wp_2_hides v2 v4 C (fun x15 =>
 (if x15 = 0 then
 (wp_9_kindAsked v4 C (fun x20 =>
 wp_5_takeCell x20 C (fun x24 C25 =>
 (if x24 = 0 then
 (post 0 C25)
 else
 (wp_9_takeValue (C25 1 5) C25 (fun C30 =>
 wp_5_takeSign 44 C30 (fun x33 C34 =>
 (if x33 = 0 then
 ((jRng ((C34 3 2) + 1) ∧
 post 1 (jU C34 3 2 ((C34 3 2) + 1))))
 else
 (k7 (v4 + 1) C34)))))))))
 else
 (k7 (v4 + 1) C)))))
def wp_9_readGrid (v2 : Int) (v3 : Int) (C : jC) (post : Int → jC → Prop) : Prop :=
 wp_9_beginRow C (fun C2 =>
 jL2 (wp_9_readGrid_7 v2 post) v3 C2)
def wp_9_readGrids_8 (v3 : Int) (v4 : Int) (post : Int → jC → Prop) (k8 : Int → jC → Prop) (v5 : Int) (C : jC) : Prop :=
 (if 12 ≤ v5 then
 (wp_5_skipBlanks C (fun C7 =>
 wp_5_failHere C7 (fun x10 C11 =>
 ((x10 = 0 ∨ x10 = 1) ∧
 post x10 C11))))
 else
 (wp_9_readGrid v3 v4 C (fun x15 C16 =>
 (if x15 = 0 then
 (post 0 C16)
 else
 (wp_5_isOver C16 (fun x20 C21 =>
 (if x20 = 0 then
 (wp_5_takeSign 59 C21 (fun x25 C26 =>
 (if x25 = 0 then
 (wp_5_failHere C26 (fun x30 C31 =>
 ((x30 = 0 ∨ x30 = 1) ∧
 post x30 C31)))
 else
 (k8 (v5 + 1) C26))))
 else
 (post 1 C21))))))))
def wp_9_readGrids (v2 : Int) (v3 : Int) (v4 : Int) (C : jC) (post : Int → jC → Prop) : Prop :=
 wp_9_knowColumns v2 C (fun C2 =>
 jL2 (wp_9_readGrids_8 v3 v4 post) 0 C2)
def wp_8_pasteGrid_17 (v0 : Int) (v2 : Int) (v3 : Int) (v4 : Int) (v7 : Int) (C : jC) (post : jC → Prop) (k7 : Int → Int → jC → Prop) (k17 : Int → Prop) (v6 : Int) : Prop :=
 (if 5 ≤ v6 then
 (wp_9_toldAt v2 v7 C (fun x7 =>
 wp_8_changeCell v0 v3 v4 v6 x7 C (fun C12 =>
 (jRng (v6 + 1) ∧
 jRng (v7 + 1) ∧
 k7 (v6 + 1) (v7 + 1) C12))))
 else
 ((0 ≤ v3 ∧
 v3 < 4 ∧
 wp_2_hides ((((v0 + 8) + 8) + (72 * v3)) + 1) v6 C (fun x19 =>
 (if x19 = 0 then
 (wp_9_toldAt v2 v7 C (fun x24 =>
 wp_8_changeCell v0 v3 v4 v6 x24 C (fun C29 =>
 (jRng (v7 + 1) ∧
 k7 (v6 + 1) (v7 + 1) C29))))
 else
 (k17 (v6 + 1)))))))
def wp_8_pasteGrid_7 (v0 : Int) (v2 : Int) (v3 : Int) (v4 : Int) (post : jC → Prop) (k7 : Int → Int → jC → Prop) (v6 : Int) (v7 : Int) (C : jC) : Prop :=
 wp_9_widthOf v2 C (fun x1 =>
 (if x1 ≤ v7 then
 (post C)
 else
 (jL1 (wp_8_pasteGrid_17 v0 v2 v3 v4 v7 C post k7) v6)))
def wp_8_pasteGrid (v0 : Int) (v2 : Int) (v3 : Int) (v4 : Int) (v5 : Int) (C : jC) (post : jC → Prop) : Prop :=
 jL3 (wp_8_pasteGrid_7 v0 v2 v3 v4 post) v5 0 C
def wp_8_pasteGrids_114 (v0 : Int) (v2 : Int) (v5 : Int) (post : Int → jC → Prop) (k114 : Int → jC → Prop) (v7 : Int) (C : jC) : Prop :=
 wp_6_length v5 C (fun x14 =>
 (if x14 ≤ v7 then
 (wp_8_finishEdit v0 v2 C (fun x19 C20 =>
 post x19 C20))
 else
 (wp_6_at v5 v7 C (fun x23 =>
 wp_8_joinOthers v0 x23 v2 C (fun C28 =>
 k114 (v7 + 1) C28)))))
def wp_8_pasteGrids_36 (v0 : Int) (v2 : Int) (v3 : Int) (v4 : Int) (v5 : Int) (v6 : Int) (post : Int → jC → Prop) (k36 : Int → jC → Prop) (v7 : Int) (C : jC) : Prop :=
 (if (C 3 2) ≤ v7 then
 (jL2 (wp_8_pasteGrids_114 v0 v2 v5 post) v6 C)
 else
 (wp_6_length v5 C (fun x32 =>
 (jRng (v3 + v7) ∧
 (if (v3 + v7) < x32 then
 (wp_6_at v5 (v3 + v7) C (fun x38 =>
 wp_8_pasteGrid v0 v7 v2 x38 v4 C (fun C43 =>
 k36 (v7 + 1) C43)))
 else
 (wp_7_seatNewRow (v0 + 1) C (fun x47 C48 =>
 wp_6_putLast ((v0 + 1) + 5) x47 C48 (fun C52 =>
 wp_6_putLast v5 x47 C52 (fun C56 =>
 wp_6_at v5 (v3 + v7) C56 (fun x59 =>
 wp_8_pasteGrid v0 v7 v2 x59 v4 C56 (fun C64 =>
 k36 (v7 + 1) C64)))))))))))
def wp_8_pasteGrids (v0 : Int) (v2 : Int) (v3 : Int) (v4 : Int) (C : jC) (post : Int → jC → Prop) : Prop :=
 (if v2 < 0 then
 (post 0 C)
 else
 ((if v2 < 4 then
 (wp_6_length ((((v0 + 8) + 8) + (72 * v2)) + 29) C (fun x5 =>
 wp_8_beginEdit v0 C (fun C10 =>
 jL2 (wp_8_pasteGrids_36 v0 v2 v3 v4 ((((v0 + 8) + 8) + (72 * v2)) + 29) x5 post) 0 C10)))
 else
 (post 0 C))))
def wp_11_paste (v1 : Int) (v2 : Int) (v3 : Int) (C : jC) (ex : String → jC → Prop) (post : Int → jC → Prop) : Prop :=
 wp_5_useUp C (fun C2 =>
 wp_11_viewNumbered v1 C2 ex (fun x5 =>
 wp_11_seatAtPlace x5 v2 C2 ex (fun x10 =>
 wp_11_needColumn v3 C2 ex (wp_11_needShown x5 v3 C2 ex (wp_5_openUsedText C2 (fun C23 =>
 wp_9_readGrids 36 (x5 + 1) v3 C23 (fun x26 C27 =>
 (if x26 = 0 then
 (ex "java/lang/IllegalArgumentException" C27)
 else
 (wp_6_length (x5 + 29) C27 (fun x31 =>
 (jRng ((v2 + (C27 3 2)) - x31) ∧
 wp_7_rowsNow 36 C27 (fun x37 =>
 (jRng (x37 + (max 0 ((v2 + (C27 3 2)) - x31))) ∧
 (if (x37 + (max 0 ((v2 + (C27 3 2)) - x31))) ≤ 24 then
 (wp_8_pasteGrids 35 v1 v2 v3 C27 (fun x43 C44 =>
 post x43 C44))
 else
 (ex "java/lang/UnsupportedOperationException" C27)))))))))))))))
def wp_11_add_21 (s0 : Int) (v1 : Int) (v2 : Int) (v3 : Int) (C : jC) (ex : String → jC → Prop) (post : Int → jC → Prop) : Prop :=
 wp_7_rowsNow 36 C (fun x1 =>
 (if 24 ≤ x1 then
 (ex "java/lang/UnsupportedOperationException" C)
 else
 ((if (C 36 0) = 0 then
 (ex "java/lang/UnsupportedOperationException" C)
 else
 (wp_7_seatNewRow 36 C (fun x7 C8 =>
 wp_6_placeOf 41 s0 C8 (fun x11 =>
 (jRng (x11 + 1) ∧
 wp_6_putAt 41 (x11 + 1) x7 C8 (fun C17 =>
 (jRng (v2 + 1) ∧
 wp_6_putAt (v3 + 29) (v2 + 1) x7 C17 (fun C22 =>
 wp_8_joinOthers 35 x7 v1 C22 (fun C26 =>
 wp_7_keyAt 36 x7 C26 (fun x29 =>
 post x29 C26)))))))))))))
def wp_11_add (v1 : Int) (v2 : Int) (C : jC) (ex : String → jC → Prop) (post : Int → jC → Prop) : Prop :=
 wp_11_viewNumbered v1 C ex (fun x33 =>
 (if v2 = (-1) then
 (wp_11_add_21 (-1) v1 v2 x33 C ex post)
 else
 (wp_11_seatAtPlace x33 v2 C ex (fun x39 =>
 wp_11_add_21 x39 v1 v2 x33 C ex post))))
def wp_6_takeOut_24 (v0 : Int) (post : jC → Prop) (k24 : Int → jC → Prop) (v3 : Int) (C : jC) : Prop :=
 (if (C v0 1) ≤ v3 then
 (post C)
 else
 ((if 24 ≤ (v3 + 1) then
 (post C)
 else
 ((0 ≤ (v3 + 1) ∧
 0 ≤ v3 ∧
 v3 < 24 ∧
 k24 (v3 + 1) (jU C (v0 + 1) v3 (C (v0 + 1) (v3 + 1))))))))
def wp_6_takeOut (v0 : Int) (v1 : Int) (C : jC) (post : jC → Prop) : Prop :=
 wp_6_placeOf v0 v1 C (fun x1 =>
 (if x1 = (-1) then
 (post C)
 else
 ((jRng ((C v0 1) - 1) ∧
 jL2 (wp_6_takeOut_24 v0 post) x1 (jU C v0 1 ((C v0 1) - 1))))))
def wp_8_removeRow_13 (v0 : Int) (v1 : Int) (post : jC → Prop) (k13 : Int → jC → Prop) (v2 : Int) (C : jC) : Prop :=
 (if 4 ≤ v2 then
 (post C)
 else
 ((0 ≤ v2 ∧
 wp_6_takeOut ((((v0 + 8) + 8) + (72 * v2)) + 29) v1 C (fun C9 =>
 k13 (v2 + 1) C9))))
def wp_8_removeRow (v0 : Int) (v1 : Int) (C : jC) (post : jC → Prop) : Prop :=
 wp_6_takeOut ((v0 + 1) + 5) v1 C (fun C2 =>
 jL2 (wp_8_removeRow_13 v0 v1 post) 0 C2)
def wp_11_drop (v1 : Int) (v2 : Int) (C : jC) (ex : String → jC → Prop) (post : Int → jC → Prop) : Prop :=
 wp_11_viewNumbered v1 C ex (fun x1 =>
 wp_11_seatAtPlace x1 v2 C ex (fun x6 =>
 wp_7_keyAt 36 x6 C (fun x10 =>
 wp_8_removeRow 35 x6 C (fun C15 =>
 post x10 C15))))
def wp_7_followList (v0 : Int) (v1 : Int) (v2 : Int) (C : jC) (post : jC → Prop) : Prop :=
 wp_6_at v1 v2 C (fun x1 =>
 wp_6_takeOut (v0 + 5) x1 C (fun C6 =>
 (if v2 ≤ 0 then
 (wp_6_at v1 (v2 + 1) C6 (fun x11 =>
 wp_6_placeOf (v0 + 5) x11 C6 (fun x15 =>
 wp_6_putAt (v0 + 5) (max 0 x15) x1 C6 (fun C21 =>
 post C21))))
 else
 (wp_6_at v1 (v2 - 1) C6 (fun x25 =>
 wp_6_placeOf (v0 + 5) x25 C6 (fun x29 =>
 (jRng (x29 + 1) ∧
 wp_6_putAt (v0 + 5) (x29 + 1) x1 C6 (fun C35 =>
 post C35))))))))
def wp_11_drag (v1 : Int) (v2 : Int) (v3 : Int) (C : jC) (ex : String → jC → Prop) (post : Int → jC → Prop) : Prop :=
 wp_11_viewNumbered v1 C ex (fun x1 =>
 wp_11_seatAtPlace x1 v2 C ex (fun x6 =>
 wp_11_seatAtPlace x1 v3 C ex (fun x10 =>
 (if v2 = v3 then
 (ex "java/lang/IllegalArgumentException" C)
 else
 (wp_6_takeOut (x1 + 29) x6 C (fun C16 =>
 wp_6_putAt (x1 + 29) v3 x6 C16 (fun C20 =>
 wp_7_followList 36 (x1 + 29) v3 C20 (fun C24 =>
 wp_7_keyAt 36 x6 C24 (fun x27 =>
 post x27 C24)))))))))
def wp_4_takeFresh_17 (v2 : Int) (C : jC) (post : Int → jC → Prop) (k17 : Int → Int → Prop) (v3 : Int) (v4 : Int) : Prop :=
 wp_6_length 340 C (fun x5 =>
 (if x5 ≤ v4 then
 (wp_6_length 340 C (fun x10 =>
 wp_6_length (v2 + 29) C (fun x14 =>
 wp_6_copyFrom (v2 + 29) 340 C (fun C19 =>
 (jRng ((x10 + x14) - (2 * v3)) ∧
 post ((x10 + x14) - (2 * v3)) C19)))))
 else
 (wp_6_at 340 v4 C (fun x23 =>
 wp_6_holds (v2 + 29) x23 C (fun x27 =>
 (if x27 = 0 then
 (k17 v3 (v4 + 1))
 else
 ((jRng (v3 + 1) ∧
 k17 (v3 + 1) (v4 + 1)))))))))
def wp_4_takeFresh (v1 : Int) (v2 : Int) (C : jC) (post : Int → jC → Prop) : Prop :=
 wp_8_freshInto v1 (v2 + 1) 340 C (fun C2 =>
 jL2 (wp_4_takeFresh_17 v2 C2 post) 0 0)
def wp_11_refresh (v1 : Int) (C : jC) (ex : String → jC → Prop) (post : Int → jC → Prop) : Prop :=
 wp_11_viewNumbered v1 C ex (fun x1 =>
 wp_4_takeFresh 35 x1 C (fun x6 C7 =>
 post x6 C7))
def wp_10_latestEdit (v0 : Int) (C : jC) (post : Int → Prop) : Prop :=
 (if (C v0 3) ≤ 0 then
 (post (-1))
 else
 ((if 8 < (C v0 3) then
 (post (-1))
 else
 (post (C (v0 + 31) ((C v0 3) - 1))))))
def wp_0_firstBarred_2 (v0 : Int) (v1 : Int) (C : jC) (post : Int → Prop) (k2 : Int → Prop) (v2 : Int) : Prop :=
 (if (C v0 0) ≤ v2 then
 (post (-1))
 else
 ((if 60 ≤ v2 then
 (post (-1))
 else
 ((0 ≤ v2 ∧
 wp_7_seatOf v1 (C (v0 + 1) v2) C (fun x5 =>
 (if x5 = (-1) then
 (post (C (v0 + 1) v2))
 else
 (wp_7_valueAt v1 x5 (C (v0 + 2) v2) C (fun x14 =>
 (if x14 = (C (v0 + 4) v2) then
 (k2 (v2 + 1))
 else
 (post (C (v0 + 1) v2))))))))))))
def wp_0_firstBarred (v0 : Int) (v1 : Int) (C : jC) (post : Int → Prop) : Prop :=
 jL1 (wp_0_firstBarred_2 v0 v1 C post) 0
def wp_10_forgetLatest (v0 : Int) (C : jC) (post : jC → Prop) : Prop :=
 (jRng ((C v0 3) - 1) ∧
 post (jU C v0 3 (max 0 ((C v0 3) - 1))))
def wp_8_takeBack_87 (v0 : Int) (v1 : Int) (v2 : Int) (C : jC) (post : Int → jC → Prop) : Prop :=
 (if v1 < 0 then
 (post (C v2 0) C)
 else
 ((if 4 ≤ v1 then
 (post (C v2 0) C)
 else
 (wp_10_forgetLatest (((v0 + 8) + 8) + (72 * v1)) C (fun C6 =>
 post (C6 v2 0) C6)))))
def wp_8_takeBack_2 (v0 : Int) (v1 : Int) (v2 : Int) (post : Int → jC → Prop) (k2 : Int → jC → Prop) (v3 : Int) (C : jC) : Prop :=
 (if (C v2 0) ≤ v3 then
 (wp_8_takeBack_87 v0 v1 v2 C post)
 else
 ((if 60 ≤ v3 then
 (wp_8_takeBack_87 v0 v1 v2 C post)
 else
 ((0 ≤ v3 ∧
 wp_7_seatOf (v0 + 1) (C (v2 + 1) v3) C (fun x15 =>
 wp_7_write (v0 + 1) x15 (C (v2 + 2) v3) (C (v2 + 3) v3) v1 C (fun C22 =>
 wp_3_takeChange (v0 + 9) v1 (C (v2 + 1) v3) (C (v2 + 2) v3) (C22 (v2 + 4) v3) (C22 (v2 + 3) v3) C22 (fun C30 =>
 k2 (v3 + 1) C30))))))))
def wp_8_takeBack (v0 : Int) (v1 : Int) (v2 : Int) (C : jC) (post : Int → jC → Prop) : Prop :=
 jL2 (wp_8_takeBack_2 v0 v1 v2 post) 0 C
def wp_11_undo (v1 : Int) (C : jC) (ex : String → jC → Prop) (post : Int → jC → Prop) : Prop :=
 wp_11_viewNumbered v1 C ex (fun x1 =>
 wp_10_latestEdit x1 C (fun x6 =>
 (if x6 < 0 then
 (ex "java/lang/IllegalStateException" C)
 else
 (wp_0_firstBarred x6 36 C (fun x12 =>
 (if x12 = (-1) then
 (wp_8_takeBack 35 v1 x6 C (fun x17 C18 =>
 post x17 C18))
 else
 (ex "java/lang/IllegalStateException" C)))))))
def wp_2_suits (v0 : Int) (v1 : Int) (v2 : Int) (C : jC) (post : Int → Prop) : Prop :=
 wp_2_firstUnlike v0 v1 v2 C (fun x1 =>
 (if x1 = (-1) then
 (post 1)
 else
 (post 0)))
def wp_11_fits (v1 : Int) (v2 : Int) (C : jC) (ex : String → jC → Prop) (post : Int → Prop) : Prop :=
 wp_11_viewNumbered v1 C ex (fun x1 =>
 wp_11_seatOfKey v2 C ex (fun x6 =>
 wp_2_suits (x1 + 1) 36 x6 C (fun x10 =>
 ((x10 = 0 ∨ x10 = 1) ∧
 post x10))))
def wp_11_why (v1 : Int) (v2 : Int) (C : jC) (ex : String → jC → Prop) (post : Int → Prop) : Prop :=
 wp_11_viewNumbered v1 C ex (fun x1 =>
 wp_11_seatOfKey v2 C ex (fun x6 =>
 wp_2_firstUnlike (x1 + 1) 36 x6 C (fun x10 =>
 post x10)))
def wp_4_staleBits_5 (v1 : Int) (v2 : Int) (C : jC) (post : Int → Prop) (k5 : Int → Int → Prop) (v3 : Int) (v4 : Int) : Prop :=
 wp_6_length (v2 + 29) C (fun x1 =>
 (if x1 ≤ v4 then
 (post v3)
 else
 (wp_6_at (v2 + 29) v4 C (fun x6 =>
 wp_2_suits (v2 + 1) (v1 + 1) x6 C (fun x10 =>
 (if x10 = 0 then
 (k5 (jOr v3 (jShl 1 v4)) (v4 + 1))
 else
 (k5 v3 (v4 + 1))))))))
def wp_4_staleBits (v1 : Int) (v2 : Int) (C : jC) (post : Int → Prop) : Prop :=
 jL2 (wp_4_staleBits_5 v1 v2 C post) 0 0
def wp_11_stale (v1 : Int) (C : jC) (ex : String → jC → Prop) (post : Int → Prop) : Prop :=
 wp_11_viewNumbered v1 C ex (fun x1 =>
 wp_4_staleBits 35 x1 C (fun x6 =>
 post x6))
def wp_4_pendingBits_14 (v1 : Int) (v2 : Int) (v4 : Int) (C : jC) (post : Int → Prop) (k14 : Int → Int → Prop) (v3 : Int) (v5 : Int) : Prop :=
 wp_6_length v4 C (fun x1 =>
 (if x1 ≤ v5 then
 (post v3)
 else
 (wp_6_at v4 v5 C (fun x6 =>
 wp_6_holds (v2 + 29) x6 C (fun x10 =>
 (if x10 = 0 then
 (wp_2_suits (v2 + 1) (v1 + 1) x6 C (fun x15 =>
 (if x15 = 0 then
 (k14 v3 (v5 + 1))
 else
 (k14 (jOr v3 (jShl 1 v5)) (v5 + 1)))))
 else
 (k14 v3 (v5 + 1))))))))
def wp_4_pendingBits (v1 : Int) (v2 : Int) (C : jC) (post : Int → Prop) : Prop :=
 jL2 (wp_4_pendingBits_14 v1 v2 ((v1 + 1) + 5) C post) 0 0
def wp_11_pending (v1 : Int) (C : jC) (ex : String → jC → Prop) (post : Int → Prop) : Prop :=
 wp_11_viewNumbered v1 C ex (fun x1 =>
 wp_4_pendingBits 35 x1 C (fun x6 =>
 post x6))
def wp_4_freshPlace (v1 : Int) (v2 : Int) (v3 : Int) (C : jC) (post : Int → jC → Prop) : Prop :=
 wp_8_freshInto v1 (v2 + 1) 340 C (fun C2 =>
 wp_6_placeOf 340 v3 C2 (fun x5 =>
 post x5 C2))
def wp_11_rank (v1 : Int) (v2 : Int) (C : jC) (ex : String → jC → Prop) (post : Int → jC → Prop) : Prop :=
 wp_11_viewNumbered v1 C ex (fun x1 =>
 wp_11_seatOfKey v2 C ex (fun x6 =>
 wp_4_freshPlace 35 x1 x6 C (fun x10 C11 =>
 post x10 C11)))
def wp_4_longestBelow_4 (v1 : Int) (C : jC) (post : Int → Prop) (k4 : Int → Int → Prop) (v2 : Int) (v3 : Int) : Prop :=
 (if v1 ≤ v3 then
 (post v2)
 else
 ((if 24 ≤ v1 then
 (post v2)
 else
 ((0 ≤ v3 ∧
 (if (C 342 v1) ≤ (C 342 v3) then
 (k4 v2 (v3 + 1))
 else
 (k4 (max v2 (C 343 v3)) (v3 + 1))))))))
def wp_4_longestBelow (v1 : Int) (C : jC) (post : Int → Prop) : Prop :=
 jL2 (wp_4_longestBelow_4 v1 C post) 0 0
def wp_4_fewestMoves_20 (v2 : Int) (post : Int → jC → Prop) (k20 : Int → Int → Int → jC → Prop) (v3 : Int) (v4 : Int) (v5 : Int) (C : jC) : Prop :=
 wp_6_length (v2 + 29) C (fun x5 =>
 (if x5 ≤ v5 then
 ((jRng (v3 - v4) ∧
 post (v3 - v4) C))
 else
 (wp_6_at (v2 + 29) v5 C (fun x11 =>
 wp_6_placeOf 340 x11 C (fun x15 =>
 (if x15 = (-1) then
 (k20 v3 v4 (v5 + 1) C)
 else
 ((if 24 ≤ v3 then
 (k20 v3 v4 (v5 + 1) C)
 else
 ((0 ≤ v3 ∧
 wp_4_longestBelow v3 (jU C 342 v3 x15) (fun x26 =>
 (jRng (1 + x26) ∧
 k20 (v3 + 1) (max v4 ((jU (jU C 342 v3 x15) 343 v3 (1 + x26)) 343 v3)) (v5 + 1) (jU (jU C 342 v3 x15) 343 v3 (1 + x26))))))))))))))
def wp_4_fewestMoves (v1 : Int) (v2 : Int) (C : jC) (post : Int → jC → Prop) : Prop :=
 wp_8_freshInto v1 (v2 + 1) 340 C (fun C2 =>
 jL4 (wp_4_fewestMoves_20 v2 post) 0 0 0 C2)
def wp_11_moves (v1 : Int) (C : jC) (ex : String → jC → Prop) (post : Int → jC → Prop) : Prop :=
 wp_11_viewNumbered v1 C ex (fun x1 =>
 wp_4_fewestMoves 35 x1 C (fun x6 C7 =>
 post x6 C7))
def wp_4_pairsTurned_32 (v1 : Int) (v2 : Int) (v4 : Int) (v5 : Int) (C : jC) (post : Int → Prop) (k5 : Int → Int → Prop) (k32 : Int → Int → Prop) (v3 : Int) (v6 : Int) : Prop :=
 (if v5 = (-1) then
 ((jRng (v4 + 1) ∧
 k5 v3 (v4 + 1)))
 else
 (wp_6_length v1 C (fun x17 =>
 (if x17 ≤ v6 then
 ((jRng (v4 + 1) ∧
 k5 v3 (v4 + 1)))
 else
 (wp_6_at v1 v6 C (fun x23 =>
 wp_6_placeOf v2 x23 C (fun x27 =>
 (if x27 = (-1) then
 (k32 v3 (v6 + 1))
 else
 ((if v5 ≤ x27 then
 (k32 v3 (v6 + 1))
 else
 ((jRng (v3 + 1) ∧
 k32 (v3 + 1) (v6 + 1)))))))))))))
def wp_4_pairsTurned_5 (v1 : Int) (v2 : Int) (C : jC) (post : Int → Prop) (k5 : Int → Int → Prop) (v3 : Int) (v4 : Int) : Prop :=
 wp_6_length v1 C (fun x1 =>
 (if x1 ≤ v4 then
 (post v3)
 else
 (wp_6_at v1 v4 C (fun x6 =>
 wp_6_placeOf v2 x6 C (fun x10 =>
 jL2 (wp_4_pairsTurned_32 v1 v2 v4 x10 C post k5) v3 (v4 + 1))))))
def wp_4_pairsTurned (v1 : Int) (v2 : Int) (C : jC) (post : Int → Prop) : Prop :=
 jL2 (wp_4_pairsTurned_5 v1 v2 C post) 0 0
def wp_11_unlike (v1 : Int) (v2 : Int) (C : jC) (ex : String → jC → Prop) (post : Int → Prop) : Prop :=
 wp_11_viewNumbered v1 C ex (fun x1 =>
 wp_11_viewNumbered v2 C ex (fun x6 =>
 (if v1 = v2 then
 (ex "java/lang/IllegalArgumentException" C)
 else
 (wp_4_pairsTurned (x1 + 29) (x6 + 29) C (fun x12 =>
 post x12)))))
def wp_4_isTold_80 (v1 : Int) (v2 : Int) (v3 : Int) (v4 : Int) (v5 : Int) (v8 : Int) (C : jC) (post : Int → Prop) (k3 : Int → Prop) : Prop :=
 (if v8 = 0 then
 ((0 ≤ (v5 - 1) ∧
 (v5 - 1) < 24 ∧
 0 ≤ v5 ∧
 v5 < 24 ∧
 jRng ((C 342 (v5 - 1)) - (C 342 v5)) ∧
 (if ((C 342 (v5 - 1)) - (C 342 v5)) ≤ 0 then
 (k3 (v5 + 1))
 else
 (post 0))))
 else
 ((if v8 ≤ 0 then
 ((jRng (v5 + 1) ∧
 k3 (v5 + 1)))
 else
 (post 0))))
def wp_4_isTold_55 (s0 : Int) (v1 : Int) (v2 : Int) (v3 : Int) (v4 : Int) (v5 : Int) (v6 : Int) (v7 : Int) (C : jC) (post : Int → Prop) (k3 : Int → Prop) : Prop :=
 (if s0 = 0 then
 ((if v4 = (-1) then
 (wp_4_isTold_80 v1 v2 v3 v4 v5 s0 C post k3)
 else
 (wp_7_compareBy v1 v4 v6 v7 C (fun x13 =>
 wp_4_isTold_80 v1 v2 v3 v4 v5 x13 C post k3))))
 else
 (wp_4_isTold_80 v1 v2 v3 v4 v5 s0 C post k3))
def wp_4_isTold_3 (v1 : Int) (v2 : Int) (v3 : Int) (v4 : Int) (C : jC) (post : Int → Prop) (k3 : Int → Prop) (v5 : Int) : Prop :=
 wp_6_length v2 C (fun x17 =>
 (if x17 ≤ v5 then
 (post 1)
 else
 ((if 24 ≤ v5 then
 (post 1)
 else
 ((jRng (v5 - 1) ∧
 wp_6_at v2 (v5 - 1) C (fun x24 =>
 wp_6_at v2 v5 C (fun x28 =>
 (if v3 = (-1) then
 (wp_4_isTold_55 0 v1 v2 v3 v4 v5 x24 x28 C post k3)
 else
 (wp_7_compareBy v1 v3 x24 x28 C (fun x33 =>
 wp_4_isTold_55 x33 v1 v2 v3 v4 v5 x24 x28 C post k3)))))))))))
def wp_4_isTold (v1 : Int) (v2 : Int) (v3 : Int) (v4 : Int) (C : jC) (post : Int → Prop) : Prop :=
 jL1 (wp_4_isTold_3 v1 v2 v3 v4 C post) 1
def wp_4_tellOneSort_2 (v1 : Int) (v2 : Int) (C : jC) (post : Int → jC → Prop) (k2 : Int → Prop) (v3 : Int) : Prop :=
 (jRng (2 * (C v1 0)) ∧
 (if (2 * (C v1 0)) ≤ v3 then
 (post 0 C)
 else
 (wp_4_isTold v1 v2 v3 (-1) C (fun x3 =>
 (if x3 = 0 then
 (k2 (v3 + 1))
 else
 (post 1 (jU C 339 5 v3)))))))
def wp_4_tellOneSort (v1 : Int) (v2 : Int) (C : jC) (post : Int → jC → Prop) : Prop :=
 jL1 (wp_4_tellOneSort_2 v1 v2 C post) 0
def wp_4_tellTwoSorts_15 (v1 : Int) (v2 : Int) (v3 : Int) (C : jC) (post : Int → jC → Prop) (k2 : Int → Prop) (k15 : Int → Prop) (v4 : Int) : Prop :=
 (jRng (2 * (C v1 0)) ∧
 (if (2 * (C v1 0)) ≤ v4 then
 ((jRng (v3 + 1) ∧
 k2 (v3 + 1)))
 else
 ((if (v3.tdiv 2) = (v4.tdiv 2) then
 (k15 (v4 + 1))
 else
 (wp_4_isTold v1 v2 v3 v4 C (fun x10 =>
 (if x10 = 0 then
 (k15 (v4 + 1))
 else
 (post 1 (jU (jU C 339 5 v3) 339 6 v4)))))))))
def wp_4_tellTwoSorts_2 (v1 : Int) (v2 : Int) (C : jC) (post : Int → jC → Prop) (k2 : Int → Prop) (v3 : Int) : Prop :=
 (jRng (2 * (C v1 0)) ∧
 (if (2 * (C v1 0)) ≤ v3 then
 (post 0 C)
 else
 (jL1 (wp_4_tellTwoSorts_15 v1 v2 v3 C post k2) 0)))
def wp_4_tellTwoSorts (v1 : Int) (v2 : Int) (C : jC) (post : Int → jC → Prop) : Prop :=
 jL1 (wp_4_tellTwoSorts_2 v1 v2 C post) 0
def wp_4_tellSorts_40 (v1 : Int) (v2 : Int) (C : jC) (post : jC → Prop) : Prop :=
 wp_4_isTold v1 v2 (-1) (-1) C (fun x1 =>
 (if x1 = 0 then
 (wp_4_tellOneSort v1 v2 C (fun x6 C7 =>
 (if x6 = 0 then
 (wp_4_tellTwoSorts v1 v2 C7 (fun x11 C12 =>
 (if x11 = 0 then
 (post (jU C12 339 4 (-1)))
 else
 (post (jU C12 339 4 2)))))
 else
 (post (jU C7 339 4 1)))))
 else
 (post (jU C 339 4 0))))
def wp_4_tellSorts_2 (v1 : Int) (v2 : Int) (post : jC → Prop) (k2 : Int → jC → Prop) (v3 : Int) (C : jC) : Prop :=
 wp_6_length v2 C (fun x20 =>
 (if x20 ≤ v3 then
 (wp_4_tellSorts_40 v1 v2 C post)
 else
 ((if 24 ≤ v3 then
 (wp_4_tellSorts_40 v1 v2 C post)
 else
 (wp_6_at v2 v3 C (fun x26 =>
 wp_6_placeOf (v1 + 5) x26 C (fun x30 =>
 (0 ≤ v3 ∧
 k2 (v3 + 1) (jU C 342 v3 x30)))))))))
def wp_4_tellSorts (v1 : Int) (v2 : Int) (C : jC) (post : jC → Prop) : Prop :=
 jL2 (wp_4_tellSorts_2 v1 v2 post) 0 C
def wp_4_sortNeeded (v1 : Int) (C : jC) (post : Int → Prop) : Prop :=
 (if v1 = 0 then
 (post (C 339 5))
 else
 (post (C 339 6)))
def wp_11_told (v1 : Int) (v2 : Int) (C : jC) (ex : String → jC → Prop) (post : Int → jC → Prop) : Prop :=
 wp_11_viewNumbered v1 C ex (fun x1 =>
 wp_4_tellSorts 36 (x1 + 29) C (fun C7 =>
 (if v2 = (-1) then
 (post (C7 339 4) C7)
 else
 ((if v2 < 0 then
 (post (-1) C7)
 else
 ((if (C7 339 4) ≤ v2 then
 (post (-1) C7)
 else
 (wp_4_sortNeeded v2 C7 (fun x13 =>
 post x13 C7)))))))))
def wp_4_unseenBetween_29 (v1 : Int) (v2 : Int) (v5 : Int) (v6 : Int) (C : jC) (post : Int → Prop) (k29 : Int → Int → Prop) (v7 : Int) (v8 : Int) : Prop :=
 (if (max v5 v6) ≤ v8 then
 (post v7)
 else
 (wp_6_at v1 v8 C (fun x13 =>
 wp_6_holds v2 x13 C (fun x17 =>
 (if x17 = 0 then
 ((jRng (v7 + 1) ∧
 k29 (v7 + 1) (v8 + 1)))
 else
 (k29 v7 (v8 + 1)))))))
def wp_4_unseenBetween (v1 : Int) (v2 : Int) (v3 : Int) (v4 : Int) (C : jC) (post : Int → Prop) : Prop :=
 wp_6_placeOf v1 v3 C (fun x1 =>
 wp_6_placeOf v1 v4 C (fun x5 =>
 (jRng ((min x1 x5) + 1) ∧
 jL2 (wp_4_unseenBetween_29 v1 v2 x1 x5 C post) 0 ((min x1 x5) + 1))))
def wp_11_between (v1 : Int) (v2 : Int) (v3 : Int) (C : jC) (ex : String → jC → Prop) (post : Int → Prop) : Prop :=
 wp_11_viewNumbered v1 C ex (fun x1 =>
 wp_11_seatAtPlace x1 v2 C ex (fun x6 =>
 wp_11_seatAtPlace x1 v3 C ex (fun x10 =>
 (if v2 = v3 then
 (ex "java/lang/IllegalArgumentException" C)
 else
 (wp_4_unseenBetween 41 (x1 + 29) x6 x10 C (fun x15 =>
 post x15))))))
def wp_11_needNumbers (v1 : Int) (C : jC) (ex : String → jC → Prop) (post : Prop) : Prop :=
 wp_7_kindOf 36 v1 C (fun x1 =>
 (if x1 = 0 then
 (post)
 else
 (ex "java/lang/IllegalStateException" C)))
def wp_4_sumOf_6 (v1 : Int) (v2 : Int) (v3 : Int) (C : jC) (post : Int → Prop) (k6 : Int → Int → Prop) (v4 : Int) (v5 : Int) : Prop :=
 wp_6_length v2 C (fun x1 =>
 (if x1 ≤ v5 then
 (post v4)
 else
 (wp_6_at v2 v5 C (fun x6 =>
 wp_7_valueAt v1 x6 v3 C (fun x10 =>
 (if x10 = (-1000000) then
 (k6 (v4 + 0) (v5 + 1))
 else
 ((jRng (v4 + x10) ∧
 k6 (v4 + x10) (v5 + 1)))))))))
def wp_4_sumOf (v1 : Int) (v2 : Int) (v3 : Int) (C : jC) (post : Int → Prop) : Prop :=
 jL2 (wp_4_sumOf_6 v1 v2 v3 C post) 0 0
def wp_11_sum (v1 : Int) (v2 : Int) (C : jC) (ex : String → jC → Prop) (post : Int → Prop) : Prop :=
 wp_11_viewNumbered v1 C ex (fun x1 =>
 wp_11_needColumn v2 C ex (wp_11_needNumbers v2 C ex (wp_4_sumOf 36 (x1 + 29) v2 C (fun x14 =>
 post x14))))
def wp_4_isAlike (v1 : Int) (v2 : Int) (v3 : Int) (v4 : Int) (v5 : Int) (C : jC) (post : Int → Prop) : Prop :=
 wp_6_at v2 v4 C (fun x1 =>
 wp_7_valueAt v1 x1 v3 C (fun x5 =>
 wp_6_at v2 v5 C (fun x9 =>
 wp_7_valueAt v1 x9 v3 C (fun x13 =>
 (if x5 = x13 then
 (post 1)
 else
 (post 0))))))
def wp_4_isFirstLike_3 (v1 : Int) (v2 : Int) (v3 : Int) (v4 : Int) (C : jC) (post : Int → Prop) (k3 : Int → Prop) (v5 : Int) : Prop :=
 (if v4 ≤ v5 then
 (post 1)
 else
 (wp_4_isAlike v1 v2 v3 v4 v5 C (fun x2 =>
 (if x2 = 0 then
 (k3 (v5 + 1))
 else
 (post 0)))))
def wp_4_isFirstLike (v1 : Int) (v2 : Int) (v3 : Int) (v4 : Int) (C : jC) (post : Int → Prop) : Prop :=
 jL1 (wp_4_isFirstLike_3 v1 v2 v3 v4 C post) 0
def wp_4_groupsOf_6 (v1 : Int) (v2 : Int) (v3 : Int) (C : jC) (post : Int → Prop) (k6 : Int → Int → Prop) (v4 : Int) (v5 : Int) : Prop :=
 wp_6_length v2 C (fun x1 =>
 (if x1 ≤ v5 then
 (post v4)
 else
 (wp_4_isFirstLike v1 v2 v3 v5 C (fun x6 =>
 (if x6 = 0 then
 (k6 v4 (v5 + 1))
 else
 ((jRng (v4 + 1) ∧
 k6 (v4 + 1) (v5 + 1))))))))
def wp_4_groupsOf (v1 : Int) (v2 : Int) (v3 : Int) (C : jC) (post : Int → Prop) : Prop :=
 jL2 (wp_4_groupsOf_6 v1 v2 v3 C post) 0 0
def wp_11_kinds (v1 : Int) (v2 : Int) (C : jC) (ex : String → jC → Prop) (post : Int → Prop) : Prop :=
 wp_11_viewNumbered v1 C ex (fun x1 =>
 wp_11_needColumn v2 C ex (wp_4_groupsOf 36 (x1 + 29) v2 C (fun x10 =>
 post x10)))
def wp_7_writerAt (v0 : Int) (v1 : Int) (v2 : Int) (C : jC) (post : Int → Prop) : Prop :=
 wp_7_isSeat v0 v1 C (fun x1 =>
 (if x1 = 0 then
 (post (-1))
 else
 (wp_7_isColumn v0 v2 C (fun x6 =>
 (if x6 = 0 then
 (post (-1))
 else
 ((0 ≤ ((v1 * 5) + v2) ∧
 ((v1 * 5) + v2) < 120 ∧
 post (C (v0 + 4) ((v1 * 5) + v2)))))))))
def wp_11_by (v1 : Int) (v2 : Int) (C : jC) (ex : String → jC → Prop) (post : Int → Prop) : Prop :=
 wp_11_seatOfKey v1 C ex (fun x1 =>
 wp_11_needColumn v2 C ex (wp_7_writerAt 36 x1 v2 C (fun x9 =>
 post x9)))
def wp_4_groupStart_6 (v1 : Int) (v2 : Int) (v3 : Int) (v4 : Int) (C : jC) (post : Int → Prop) (k6 : Int → Int → Prop) (v5 : Int) (v6 : Int) : Prop :=
 wp_6_length v2 C (fun x1 =>
 (if x1 ≤ v6 then
 (post (-1))
 else
 (wp_4_isFirstLike v1 v2 v3 v6 C (fun x6 =>
 (if x6 = 0 then
 (k6 v5 (v6 + 1))
 else
 ((if v5 = v4 then
 (post v6)
 else
 ((jRng (v5 + 1) ∧
 k6 (v5 + 1) (v6 + 1))))))))))
def wp_4_groupStart (v1 : Int) (v2 : Int) (v3 : Int) (v4 : Int) (C : jC) (post : Int → Prop) : Prop :=
 jL2 (wp_4_groupStart_6 v1 v2 v3 v4 C post) 0 0
def wp_11_firstOfGroup (v1 : Int) (v2 : Int) (v3 : Int) (C : jC) (ex : String → jC → Prop) (post : Int → Prop) : Prop :=
 wp_4_groupStart 36 (v1 + 29) v2 v3 C (fun x1 =>
 (if x1 = (-1) then
 (ex "java/lang/IllegalArgumentException" C)
 else
 (post x1)))
def wp_4_rowsLike_7 (v1 : Int) (v2 : Int) (v3 : Int) (v4 : Int) (C : jC) (post : Int → Prop) (k7 : Int → Int → Prop) (v5 : Int) (v6 : Int) : Prop :=
 wp_6_length v2 C (fun x1 =>
 (if x1 ≤ v6 then
 (post v5)
 else
 (wp_4_isAlike v1 v2 v3 v6 v4 C (fun x6 =>
 (if x6 = 0 then
 (k7 v5 (v6 + 1))
 else
 ((jRng (v5 + 1) ∧
 k7 (v5 + 1) (v6 + 1))))))))
def wp_4_rowsLike (v1 : Int) (v2 : Int) (v3 : Int) (v4 : Int) (C : jC) (post : Int → Prop) : Prop :=
 jL2 (wp_4_rowsLike_7 v1 v2 v3 v4 C post) 0 v4
def wp_4_lastLike_8 (v1 : Int) (v2 : Int) (v3 : Int) (v4 : Int) (C : jC) (post : Int → Prop) (k8 : Int → Int → Prop) (v5 : Int) (v6 : Int) : Prop :=
 wp_6_length v2 C (fun x1 =>
 (if x1 ≤ v6 then
 (post v5)
 else
 (wp_4_isAlike v1 v2 v3 v6 v4 C (fun x6 =>
 (if x6 = 0 then
 (k8 v5 (v6 + 1))
 else
 (k8 v6 (v6 + 1)))))))
def wp_4_lastLike (v1 : Int) (v2 : Int) (v3 : Int) (v4 : Int) (C : jC) (post : Int → Prop) : Prop :=
 jL2 (wp_4_lastLike_8 v1 v2 v3 v4 C post) v4 v4
def wp_11_group (v1 : Int) (v2 : Int) (v3 : Int) (v4 : Int) (C : jC) (ex : String → jC → Prop) (post : Int → Prop) : Prop :=
 wp_11_viewNumbered v1 C ex (fun x1 =>
 wp_11_needColumn v2 C ex ((if v4 < 0 then
 (ex "java/util/NoSuchElementException" C)
 else
 ((if v4 ≤ 3 then
 (wp_11_firstOfGroup x1 v2 v3 C ex (fun x12 =>
 (if v4 = 0 then
 (wp_6_at (x1 + 29) x12 C (fun x27 =>
 wp_7_valueAt 36 x27 v2 C (fun x31 =>
 post x31)))
 else
 (if v4 = 1 then
 (wp_4_rowsLike 36 (x1 + 29) v2 x12 C (fun x23 =>
 post x23))
 else
 (if v4 = 2 then
 (post x12)
 else
 (wp_4_lastLike 36 (x1 + 29) v2 x12 C (fun x16 =>
 post x16)))))))
 else
 (ex "java/util/NoSuchElementException" C))))))
def wp_4_sumLike_7 (v1 : Int) (v2 : Int) (v3 : Int) (v4 : Int) (v5 : Int) (C : jC) (post : Int → Prop) (k7 : Int → Int → Prop) (v6 : Int) (v7 : Int) : Prop :=
 wp_6_length v2 C (fun x1 =>
 (if x1 ≤ v7 then
 (post v6)
 else
 (wp_6_at v2 v7 C (fun x6 =>
 wp_7_valueAt v1 x6 v5 C (fun x10 =>
 (if x10 = (-1000000) then
 (k7 v6 (v7 + 1))
 else
 (wp_4_isAlike v1 v2 v3 v7 v4 C (fun x16 =>
 (if x16 = 0 then
 (k7 v6 (v7 + 1))
 else
 ((jRng (v6 + x10) ∧
 k7 (v6 + x10) (v7 + 1))))))))))))
def wp_4_sumLike (v1 : Int) (v2 : Int) (v3 : Int) (v4 : Int) (v5 : Int) (C : jC) (post : Int → Prop) : Prop :=
 jL2 (wp_4_sumLike_7 v1 v2 v3 v4 v5 C post) 0 v4
def wp_11_total (v1 : Int) (v2 : Int) (v3 : Int) (v4 : Int) (C : jC) (ex : String → jC → Prop) (post : Int → Prop) : Prop :=
 wp_11_viewNumbered v1 C ex (fun x1 =>
 wp_11_needColumn v2 C ex (wp_11_needColumn v4 C ex (wp_11_needNumbers v4 C ex (wp_11_firstOfGroup x1 v2 v3 C ex (fun x18 =>
 wp_4_sumLike 36 (x1 + 29) v2 x18 v4 C (fun x22 =>
 post x22))))))
def wp_4_middleOf_46 (v1 : Int) (v2 : Int) (v3 : Int) (v4 : Int) (v5 : Int) (v6 : Int) (post : Int → jC → Prop) (k6 : Int → Int → jC → Prop) (k46 : Int → jC → Prop) (v7 : Int) (C : jC) : Prop :=
 (if v7 ≤ 0 then
 ((0 ≤ v7 ∧
 jRng (v4 + 1) ∧
 jRng (v5 + 1) ∧
 k6 (v4 + 1) (v5 + 1) (jU C 344 v7 v6)))
 else
 (((v7 - 1) < 24 ∧
 (if (C 344 (v7 - 1)) ≤ v6 then
 ((v7 < 24 ∧
 jRng (v4 + 1) ∧
 jRng (v5 + 1) ∧
 k6 (v4 + 1) (v5 + 1) (jU C 344 v7 v6)))
 else
 ((v7 < 24 ∧
 k46 (v7 + (-1)) (jU C 344 v7 (C 344 (v7 - 1)))))))))
def wp_4_middleOf_6 (v1 : Int) (v2 : Int) (v3 : Int) (post : Int → jC → Prop) (k6 : Int → Int → jC → Prop) (v4 : Int) (v5 : Int) (C : jC) : Prop :=
 wp_6_length v2 C (fun x1 =>
 (if x1 ≤ v5 then
 ((if v4 = 0 then
 (post (-1000000) C)
 else
 ((jRng (v4 - 1) ∧
 0 ≤ ((v4 - 1).tdiv 2) ∧
 ((v4 - 1).tdiv 2) < 24 ∧
 post (C 344 ((v4 - 1).tdiv 2)) C))))
 else
 ((if 24 ≤ v4 then
 ((if v4 = 0 then
 (post (-1000000) C)
 else
 ((0 ≤ ((v4 - 1).tdiv 2) ∧
 ((v4 - 1).tdiv 2) < 24 ∧
 post (C 344 ((v4 - 1).tdiv 2)) C))))
 else
 (wp_6_at v2 v5 C (fun x17 =>
 wp_7_valueAt v1 x17 v3 C (fun x21 =>
 (if x21 = (-1000000) then
 (k6 v4 (v5 + 1) C)
 else
 (jL2 (wp_4_middleOf_46 v1 v2 v3 v4 v5 x21 post k6) v4 C)))))))))
def wp_4_middleOf (v1 : Int) (v2 : Int) (v3 : Int) (C : jC) (post : Int → jC → Prop) : Prop :=
 jL3 (wp_4_middleOf_6 v1 v2 v3 post) 0 0 C
def wp_11_middle (v1 : Int) (v2 : Int) (C : jC) (ex : String → jC → Prop) (post : Int → jC → Prop) : Prop :=
 wp_11_viewNumbered v1 C ex (fun x1 =>
 wp_11_needColumn v2 C ex (wp_4_middleOf 36 (x1 + 29) v2 C (fun x10 C11 =>
 post x10 C11)))
def wp_4_isSeenAlike_3 (v1 : Int) (v2 : Int) (v3 : Int) (v4 : Int) (C : jC) (post : Int → Prop) (k3 : Int → Prop) (v5 : Int) : Prop :=
 (if (C v1 0) ≤ v5 then
 (post 1)
 else
 (wp_2_hides (v2 + 1) v5 C (fun x2 =>
 (if x2 = 0 then
 (wp_4_isAlike v1 (v2 + 29) v5 v3 v4 C (fun x7 =>
 (if x7 = 0 then
 (post 0)
 else
 (k3 (v5 + 1)))))
 else
 (k3 (v5 + 1))))))
def wp_4_isSeenAlike (v1 : Int) (v2 : Int) (v3 : Int) (v4 : Int) (C : jC) (post : Int → Prop) : Prop :=
 jL1 (wp_4_isSeenAlike_3 v1 v2 v3 v4 C post) 0
def wp_4_repeatedBits_20 (v1 : Int) (v2 : Int) (v4 : Int) (C : jC) (post : Int → Prop) (k5 : Int → Int → Prop) (k20 : Int → Int → Prop) (v3 : Int) (v5 : Int) : Prop :=
 (if v4 ≤ v5 then
 ((jRng (v4 + 1) ∧
 k5 v3 (v4 + 1)))
 else
 (wp_4_isSeenAlike v1 v2 v4 v5 C (fun x8 =>
 (if x8 = 0 then
 (k20 v3 (v5 + 1))
 else
 (k20 (jOr v3 (jShl 1 v4)) (v5 + 1))))))
def wp_4_repeatedBits_5 (v1 : Int) (v2 : Int) (C : jC) (post : Int → Prop) (k5 : Int → Int → Prop) (v3 : Int) (v4 : Int) : Prop :=
 wp_6_length (v2 + 29) C (fun x1 =>
 (if x1 ≤ v4 then
 (post v3)
 else
 (jL2 (wp_4_repeatedBits_20 v1 v2 v4 C post k5) v3 0)))
def wp_4_repeatedBits (v1 : Int) (v2 : Int) (C : jC) (post : Int → Prop) : Prop :=
 jL2 (wp_4_repeatedBits_5 v1 v2 C post) 0 1
def wp_11_twice (v1 : Int) (C : jC) (ex : String → jC → Prop) (post : Int → Prop) : Prop :=
 wp_11_viewNumbered v1 C ex (fun x1 =>
 wp_4_repeatedBits 36 x1 C (fun x6 =>
 post x6))
def wp_11_barred (v1 : Int) (C : jC) (ex : String → jC → Prop) (post : Int → Prop) : Prop :=
 wp_11_viewNumbered v1 C ex (fun x1 =>
 wp_10_latestEdit x1 C (fun x6 =>
 (if x6 < 0 then
 (post (-1))
 else
 (wp_0_firstBarred x6 36 C (fun x12 =>
 post x12)))))
def wp_11_find_44 (v2 : Int) (v3 : Int) (v5 : Int) (C : jC) (ex : String → jC → Prop) (post : Int → Prop) (k44 : Int → Prop) (v6 : Int) : Prop :=
 wp_6_length (v5 + 29) C (fun x16 =>
 (if x16 ≤ v6 then
 (post (-1))
 else
 (wp_6_at (v5 + 29) v6 C (fun x21 =>
 wp_7_valueAt 36 x21 v2 C (fun x25 =>
 (if x25 = v3 then
 (post v6)
 else
 (k44 (v6 + 1))))))))
def wp_11_find (v1 : Int) (v2 : Int) (v3 : Int) (v4 : Int) (C : jC) (ex : String → jC → Prop) (post : Int → Prop) : Prop :=
 wp_11_viewNumbered v1 C ex (fun x1 =>
 wp_11_needColumn v2 C ex ((if v4 < 0 then
 (ex "java/lang/IllegalArgumentException" C)
 else
 (wp_7_mayHoldOrBlank 36 v2 v3 C (fun x11 =>
 (if x11 = 0 then
 (ex "java/lang/IllegalArgumentException" C)
 else
 (jL1 (wp_11_find_44 v2 v3 x1 C ex post) v4)))))))
def wp_3_partOf (v0 : Int) (v1 : Int) (v2 : Int) (C : jC) (post : Int → Prop) : Prop :=
 (if v1 < 0 then
 (post (-1))
 else
 ((if (C v0 2) ≤ v1 then
 (post (-1))
 else
 ((if v2 < 0 then
 (post (-1))
 else
 ((if v2 < 5 then
 ((jRng (((C v0 1) - 1) - v1) ∧
 post (C (v0 + 1) ((((((C v0 1) - 1) - v1) % 40) * 5) + v2))))
 else
 (post (-1)))))))))
def wp_11_log (v1 : Int) (v2 : Int) (C : jC) (ex : String → jC → Prop) (post : Int → Prop) : Prop :=
 (if v2 < 0 then
 (ex "java/util/NoSuchElementException" C)
 else
 ((if v2 < 5 then
 (wp_3_partOf 44 v1 v2 C (fun x3 =>
 post x3))
 else
 (ex "java/util/NoSuchElementException" C))))
def wp_12_thrown  (C : jC) (post : Int → Prop) : Prop :=
 post (C 345 0)
def wp_12_image_7  (post : jC → Prop) (k7 : Int → jC → Prop) (v1 : Int) (C : jC) : Prop :=
 (if 8954 ≤ v1 then
 (post (jU C 345 4 1))
 else
 ((0 ≤ v1 ∧
 k7 (v1 + 1) (jU C 347 v1 (C 346 v1)))))
def wp_12_image  (C : jC) (post : jC → Prop) : Prop :=
 jL2 (wp_12_image_7  post) 0 (jU C 345 0 0)
def wp_12_back_16  (post : Int → jC → Prop) (k16 : Int → jC → Prop) (v1 : Int) (C : jC) : Prop :=
 (if 8954 ≤ v1 then
 (post 1 C)
 else
 ((0 ≤ v1 ∧
 k16 (v1 + 1) (jU C 346 v1 (C 347 v1)))))
def wp_12_back  (C : jC) (post : Int → jC → Prop) : Prop :=
 (if ((jU C 345 0 0) 345 4) = 0 then
 (post 0 (jU C 345 0 0))
 else
 (jL2 (wp_12_back_16  post) 0 (jU C 345 0 0)))
def wp_12_feed_60  (post : Int → jC → Prop) (k60 : Int → jC → Prop) (v6 : Int) (C : jC) : Prop :=
 (if 20 ≤ v6 then
 ((jRng ((C 345 6) + 20) ∧
 post ((jU C 345 6 ((C 345 6) + 20)) 345 6) (jU C 345 6 ((C 345 6) + 20))))
 else
 ((0 ≤ (v6.tdiv 4) ∧
 (v6.tdiv 4) < 5 ∧
 0 ≤ ((C 345 6) + v6) ∧
 ((C 345 6) + v6) < 400 ∧
 k60 (v6 + 1) (jU C 349 ((C 345 6) + v6) (jByte (jByte (jShr (C 350 (v6.tdiv 4)) (24 - (8 * (v6.tmod 4))))))))))
def wp_12_feed (v1 : Int) (v2 : Int) (v3 : Int) (v4 : Int) (v5 : Int) (C : jC) (post : Int → jC → Prop) : Prop :=
 (jRng (((jU C 345 0 0) 345 6) + 20) ∧
 (if (((jU C 345 0 0) 345 6) + 20) ≤ 400 then
 (jL2 (wp_12_feed_60  post) 0 (jU (jU (jU (jU (jU (jU C 345 0 0) 350 0 v1) 350 1 v2) 350 2 v3) 350 3 v4) 350 4 v5))
 else
 (post (-1) (jU C 345 0 0))))
def wp_12_end (v1 : Int) (C : jC) (post : Int → jC → Prop) : Prop :=
 (if v1 < 0 then
 (post 0 (jU C 345 0 0))
 else
 ((if v1 ≤ ((jU C 345 0 0) 345 6) then
 (post 1 (jU (jU C 345 0 0) 345 6 v1))
 else
 (post 0 (jU C 345 0 0)))))
def wp_12_fault  (C : jC) (post : Int → jC → Prop) : Prop :=
 post ((jU C 345 0 0) 345 11) (jU C 345 0 0)
def wp_12_uses  (C : jC) (post : jC → Prop) : Prop :=
 post (jU (jU (jU (jU C 345 0 0) 345 8 ((jU C 345 0 0) 345 6)) 345 6 0) 345 7 0)
def wp_12_keepsAll_2  (post : jC → Prop) (k2 : Int → jC → Prop) (v1 : Int) (C : jC) : Prop :=
 (if 8954 ≤ v1 then
 (post C)
 else
 ((0 ≤ v1 ∧
 k2 (v1 + 1) (jU C 348 v1 (C 346 v1)))))
def wp_12_keepsAll  (C : jC) (post : jC → Prop) : Prop :=
 jL2 (wp_12_keepsAll_2  post) 0 C
def wp_12_isAt (v1 : Int) (v2 : Int) (C : jC) (post : Int → Prop) : Prop :=
 (if (C 345 8) ≤ (C 345 7) then
 (post 0)
 else
 ((0 ≤ (C 345 7) ∧
 (C 345 7) < 400 ∧
 (if (C 349 (C 345 7)) < v1 then
 (post 0)
 else
 ((if v2 < (C 349 (C 345 7)) then
 (post 0)
 else
 (post 1)))))))
def wp_12_blanks_0  (post : jC → Prop) (k0 : jC → Prop) (C : jC) : Prop :=
 wp_12_isAt 32 32 C (fun x1 =>
 (if x1 = 0 then
 (post (jU C 345 9 (C 345 7)))
 else
 ((jRng ((C 345 7) + 1) ∧
 k0 (jU C 345 7 ((C 345 7) + 1))))))
def wp_12_blanks  (C : jC) (post : jC → Prop) : Prop :=
 jL1 (wp_12_blanks_0  post) C
def wp_12_letters_4  (post : jC → Prop) (k4 : jC → Prop) (C : jC) : Prop :=
 wp_12_isAt 97 122 C (fun x5 =>
 (if x5 = 0 then
 (post C)
 else
 ((jRng ((C 345 7) + 1) ∧
 k4 (jU C 345 7 ((C 345 7) + 1))))))
def wp_12_letters  (C : jC) (post : jC → Prop) : Prop :=
 wp_12_blanks C (fun C2 =>
 jL1 (wp_12_letters_4  post) C2)
def wp_12_isWord_24 (v1 : Nat) (C : jC) (post : Int → Prop) (k24 : Int → Int → Prop) (v2 : Int) (v3 : Int) : Prop :=
 (if v2 = 0 then
 (((v2 = 0 ∨ v2 = 1) ∧
 post v2))
 else
 ((if (jSlen v1) ≤ v3 then
 (((v2 = 0 ∨ v2 = 1) ∧
 post v2))
 else
 ((0 ≤ ((C 345 9) + v3) ∧
 ((C 345 9) + v3) < 400 ∧
 0 ≤ v3 ∧
 v3 < jSlen v1 ∧
 (if (C 349 ((C 345 9) + v3)) = (jSch v1 v3) then
 (k24 1 (v3 + 1))
 else
 (k24 0 (v3 + 1))))))))
def wp_12_isWord (v1 : Nat) (C : jC) (post : Int → Prop) : Prop :=
 (jRng ((C 345 7) - (C 345 9)) ∧
 (if ((C 345 7) - (C 345 9)) = (jSlen v1) then
 (jL2 (wp_12_isWord_24 v1 C post) 1 0)
 else
 (jL2 (wp_12_isWord_24 v1 C post) 0 0)))
def wp_12_columns  (C : jC) (post : Int → Prop) : Prop :=
 post (C 346 0)
def wp_12_isLetter  (C : jC) (post : Int → jC → Prop) : Prop :=
 wp_12_blanks C (fun C2 =>
 wp_12_isAt 97 122 C2 (fun x5 =>
 ((x5 = 0 ∨ x5 = 1) ∧
 post x5 C2)))
def wp_12_readColumns_42 (v1 : Int) (v2 : Int) (C : jC) (post : Int → jC → Prop) (k11 : Int → jC → Prop) : Prop :=
 (if v2 = 0 then
 ((0 ≤ (4 + v1) ∧
 (4 + v1) < 8954 ∧
 wp_12_isLetter (jU C 346 (4 + v1) 0) (fun x10 C11 =>
 (if x10 = 0 then
 ((jRng (v1 + 1) ∧
 post 1 (jU C11 346 0 (v1 + 1))))
 else
 ((jRng (v1 + 1) ∧
 k11 (v1 + 1) C11))))))
 else
 ((0 ≤ (4 + v1) ∧
 (4 + v1) < 8954 ∧
 wp_12_isLetter (jU C 346 (4 + v1) 1) (fun x23 C24 =>
 (if x23 = 0 then
 ((jRng (v1 + 1) ∧
 post 1 (jU C24 346 0 (v1 + 1))))
 else
 ((jRng (v1 + 1) ∧
 k11 (v1 + 1) C24)))))))
def wp_12_readColumns_11  (post : Int → jC → Prop) (k11 : Int → jC → Prop) (v1 : Int) (C : jC) : Prop :=
 wp_12_letters C (fun C34 =>
 wp_12_isWord 3 C34 (fun x37 =>
 (if v1 = 5 then
 (post 0 C34)
 else
 ((if x37 = 0 then
 (wp_12_isWord 2 C34 (fun x43 =>
 (if x43 = 0 then
 (post 0 C34)
 else
 (wp_12_readColumns_42 v1 x37 C34 post k11))))
 else
 (wp_12_readColumns_42 v1 x37 C34 post k11))))))
def wp_12_readColumns  (C : jC) (post : Int → jC → Prop) : Prop :=
 wp_12_columns C (fun x1 =>
 (if x1 ≤ 0 then
 (jL2 (wp_12_readColumns_11  post) 0 C)
 else
 (post 0 C)))
def wp_12_size (v1 : Int) (C : jC) (post : Int → Prop) : Prop :=
 (0 ≤ v1 ∧
 v1 < 8954 ∧
 post (C 346 v1))
def wp_12_rows  (C : jC) (post : Int → Prop) : Prop :=
 wp_12_size 273 C (fun x1 =>
 post x1)
def wp_12_comes_46 (v1 : Int) (v2 : Int) (post : Int → jC → Prop) (k46 : Int → jC → Prop) (v3 : Int) (C : jC) : Prop :=
 (if 5 ≤ v3 then
 ((jRng ((C 346 2) + 1) ∧
 post v2 (jU C 346 2 ((C 346 2) + 1))))
 else
 ((0 ≤ (((9 + (11 * v1)) + 1) + v3) ∧
 (((9 + (11 * v1)) + 1) + v3) < 8954 ∧
 0 ≤ (((9 + (11 * v1)) + 6) + v3) ∧
 (((9 + (11 * v1)) + 6) + v3) < 8954 ∧
 k46 (v3 + 1) (jU (jU C 346 (((9 + (11 * v1)) + 1) + v3) (-1000000)) 346 (((9 + (11 * v1)) + 6) + v3) (-1)))))
def wp_12_comes_2  (C : jC) (post : Int → jC → Prop) (k2 : Int → Prop) (v1 : Int) : Prop :=
 (0 ≤ (9 + (11 * v1)) ∧
 (9 + (11 * v1)) < 8954 ∧
 (if (C 346 (9 + (11 * v1))) = (-1) then
 (jL2 (wp_12_comes_46 v1 (C 346 2) post) 0 (jU C 346 (9 + (11 * v1)) (C 346 2)))
 else
 ((jRng (v1 + 1) ∧
 k2 (v1 + 1)))))
def wp_12_comes  (C : jC) (post : Int → jC → Prop) : Prop :=
 jL1 (wp_12_comes_2  C post) 0
def wp_12_sign (v1 : Int) (C : jC) (post : Int → jC → Prop) : Prop :=
 wp_12_blanks C (fun C2 =>
 wp_12_isAt v1 v1 C2 (fun x5 =>
 (if x5 = 0 then
 (post 0 C2)
 else
 ((jRng ((C2 345 7) + 1) ∧
 post 1 (jU C2 345 7 ((C2 345 7) + 1)))))))
def wp_12_isWords (v1 : Int) (C : jC) (post : Int → Prop) : Prop :=
 (0 ≤ (4 + v1) ∧
 (4 + v1) < 8954 ∧
 (if (C 346 (4 + v1)) = 1 then
 (post 1)
 else
 (post 0)))
def wp_12_in (v0 : Int) (v1 : Int) (v2 : Int) (C : jC) (post : Int → Prop) : Prop :=
 (if v0 < v1 then
 (post 0)
 else
 ((if v2 < v0 then
 (post 0)
 else
 (post 1))))
def wp_12_figures_9 (v1 : Int) (v2 : Int) (v3 : Int) (v4 : Int) (post : Int → jC → Prop) (k9 : Int → jC → Prop) (v5 : Int) (C : jC) : Prop :=
 wp_12_isAt 48 57 C (fun x1 =>
 (if x1 = 0 then
 ((jRng (v1 * v5) ∧
 jRng (((jU C 345 10 (v1 * v5)) 345 7) - v4) ∧
 wp_12_in (((jU C 345 10 (v1 * v5)) 345 7) - v4) 1 3 (jU C 345 10 (v1 * v5)) (fun x9 =>
 (if x9 = 0 then
 (post 0 (jU C 345 10 (v1 * v5)))
 else
 (wp_12_in ((jU C 345 10 (v1 * v5)) 345 10) v2 v3 (jU C 345 10 (v1 * v5)) (fun x14 =>
 (if x14 = 0 then
 (post 0 (jU C 345 10 (v1 * v5)))
 else
 (post 1 (jU C 345 10 (v1 * v5))))))))))
 else
 ((jRng ((C 345 7) - v4) ∧
 (if 3 ≤ ((C 345 7) - v4) then
 ((jRng ((C 345 7) + 1) ∧
 k9 v5 (jU C 345 7 ((C 345 7) + 1))))
 else
 ((0 ≤ (C 345 7) ∧
 (C 345 7) < 400 ∧
 jRng (((10 * v5) + (C 349 (C 345 7))) - 48) ∧
 k9 (((10 * v5) + (C 349 (C 345 7))) - 48) (jU C 345 7 ((C 345 7) + 1)))))))))
def wp_12_figures (v1 : Int) (v2 : Int) (v3 : Int) (C : jC) (post : Int → jC → Prop) : Prop :=
 jL2 (wp_12_figures_9 v1 v2 v3 (C 345 7) post) 0 C
def wp_12_signed_54 (v1 : Int) (v2 : Int) (C : jC) (post : Int → jC → Prop) : Prop :=
 (if v2 = 0 then
 (wp_12_figures 1 v1 999 C (fun x2 C3 =>
 ((x2 = 0 ∨ x2 = 1) ∧
 post x2 C3)))
 else
 (wp_12_figures (-1) v1 999 C (fun x7 C8 =>
 ((x7 = 0 ∨ x7 = 1) ∧
 post x7 C8))))
def wp_12_signed_27 (s0 : Int) (s1 : Int) (v1 : Int) (v2 : Int) (C : jC) (post : Int → jC → Prop) : Prop :=
 (jRng (s1 + s0) ∧
 (if v2 = 0 then
 (wp_12_signed_54 v1 v2 (jU C 345 7 (s1 + s0)) post)
 else
 (wp_12_isAt 48 57 (jU C 345 7 (s1 + s0)) (fun x15 =>
 (if x15 = 0 then
 (wp_12_signed_54 v1 v2 (jU (jU C 345 7 (s1 + s0)) 345 9 ((jU C 345 7 (s1 + s0)) 345 7)) post)
 else
 (wp_12_signed_54 v1 v2 (jU C 345 7 (s1 + s0)) post))))))
def wp_12_signed (v1 : Int) (C : jC) (post : Int → jC → Prop) : Prop :=
 wp_12_blanks C (fun C22 =>
 wp_12_isAt 45 45 C22 (fun x25 =>
 (if x25 = 0 then
 (wp_12_signed_27 0 (C22 345 7) v1 x25 C22 post)
 else
 (wp_12_signed_27 1 (C22 345 7) v1 x25 C22 post))))
def wp_12_aValue_54 (v2 : Int) (post : Int → jC → Prop) (k54 : Int → jC → Prop) (v3 : Int) (C : jC) : Prop :=
 (if 4 ≤ v3 then
 (wp_12_in v2 1 4 C (fun x23 =>
 ((x23 = 0 ∨ x23 = 1) ∧
 post x23 C)))
 else
 ((if v2 ≤ v3 then
 ((jRng ((27 * (C 345 10)) + 0) ∧
 k54 (v3 + 1) (jU C 345 10 ((27 * (C 345 10)) + 0))))
 else
 ((0 ≤ ((C 345 9) + v3) ∧
 ((C 345 9) + v3) < 400 ∧
 jRng ((27 * (C 345 10)) + (((C 349 ((C 345 9) + v3)) - 97) + 1)) ∧
 k54 (v3 + 1) (jU C 345 10 ((27 * (C 345 10)) + (((C 349 ((C 345 9) + v3)) - 97) + 1))))))))
def wp_12_aValue (v1 : Int) (C : jC) (post : Int → jC → Prop) : Prop :=
 wp_12_sign 46 C (fun x1 C2 =>
 (if x1 = 0 then
 (wp_12_isWords v1 C2 (fun x6 =>
 (if x6 = 0 then
 (wp_12_signed (-999) C2 (fun x11 C12 =>
 ((x11 = 0 ∨ x11 = 1) ∧
 post x11 C12)))
 else
 (wp_12_letters C2 (fun C17 =>
 (jRng ((C17 345 7) - (C17 345 9)) ∧
 jL2 (wp_12_aValue_54 ((C17 345 7) - (C17 345 9)) post) 0 (jU C17 345 10 0)))))))
 else
 (post 1 (jU C2 345 10 (-1000000)))))
def wp_12_rowOf_11 (v1 : Int) (C : jC) (post : Int → Prop) (k11 : Int → Prop) (v2 : Int) : Prop :=
 (if 24 ≤ v2 then
 ((if v2 = 24 then
 (post (-1))
 else
 ((jRng (9 + (11 * v2)) ∧
 post (9 + (11 * v2))))))
 else
 ((0 ≤ (9 + (11 * v2)) ∧
 (if (C 346 (9 + (11 * v2))) = v1 then
 ((if v2 = 24 then
 (post (-1))
 else
 (post (9 + (11 * v2)))))
 else
 (k11 (v2 + 1))))))
def wp_12_rowOf (v1 : Int) (C : jC) (post : Int → Prop) : Prop :=
 (if 0 ≤ v1 then
 (jL1 (wp_12_rowOf_11 v1 C post) 0)
 else
 (jL1 (wp_12_rowOf_11 v1 C post) 24))
def wp_12_puts_7 (v1 : Int) (v2 : Int) (v3 : Int) (post : jC → Prop) (k7 : Int → jC → Prop) (v4 : Int) (C : jC) : Prop :=
 (if v4 ≤ v2 then
 ((0 ≤ ((v1 + 1) + v2) ∧
 ((v1 + 1) + v2) < 8954 ∧
 0 ≤ v1 ∧
 v1 < 8954 ∧
 jRng (((jU C 346 ((v1 + 1) + v2) v3) 346 v1) + 1) ∧
 post (jU (jU C 346 ((v1 + 1) + v2) v3) 346 v1 (((jU C 346 ((v1 + 1) + v2) v3) 346 v1) + 1))))
 else
 ((0 ≤ (v1 + v4) ∧
 (v1 + v4) < 8954 ∧
 0 ≤ ((v1 + 1) + v4) ∧
 ((v1 + 1) + v4) < 8954 ∧
 k7 (v4 + (-1)) (jU C 346 ((v1 + 1) + v4) (C 346 (v1 + v4))))))
def wp_12_puts (v1 : Int) (v2 : Int) (v3 : Int) (C : jC) (post : jC → Prop) : Prop :=
 wp_12_size v1 C (fun x1 =>
 jL2 (wp_12_puts_7 v1 v2 v3 post) x1 C)
def wp_12_putsLast (v1 : Int) (v2 : Int) (C : jC) (post : jC → Prop) : Prop :=
 wp_12_size v1 C (fun x1 =>
 wp_12_puts v1 x1 v2 C (fun C6 =>
 post C6))
def wp_12_viewAt (v0 : Int) (v1 : Int) (C : jC) (post : Int → Prop) : Prop :=
 (jRng ((298 + (2114 * v0)) + v1) ∧
 post ((298 + (2114 * v0)) + v1))
def wp_12_filterAt (v0 : Int) (v1 : Int) (C : jC) (post : Int → Prop) : Prop :=
 (jRng (30 + (31 * v1)) ∧
 wp_12_viewAt v0 (30 + (31 * v1)) C (fun x2 =>
 post x2))
def wp_12_cellOf (v1 : Int) (v2 : Int) (C : jC) (post : Int → Prop) : Prop :=
 wp_12_rowOf v1 C (fun x1 =>
 (0 ≤ ((x1 + 1) + v2) ∧
 ((x1 + 1) + v2) < 8954 ∧
 post (C 346 ((x1 + 1) + v2))))
def wp_12_testAt (v0 : Int) (v1 : Int) (v2 : Int) (C : jC) (post : Int → Prop) : Prop :=
 wp_12_filterAt v0 v1 C (fun x1 =>
 (jRng ((x1 + 1) + (5 * v2)) ∧
 post ((x1 + 1) + (5 * v2))))
def wp_12_isPattern_70 (s0 : Int) (s1 : Int) (v2 : Int) (v3 : Int) (v4 : Int) (v5 : Int) (v6 : Int) (v8 : Int) (v9 : Int) (C : jC) (post : Int → Prop) (k39 : Int → Int → Int → Int → Int → Prop) : Prop :=
 (if v8 < v3 then
 ((if v5 = 0 then
 ((jRng (s1 + s0) ∧
 jRng (v8 + (-1)) ∧
 k39 (v4.tdiv 32) 0 v6 (s1 + s0) (v8 + (-1))))
 else
 ((if v9 ≤ 0 then
 ((jRng (s1 + s0) ∧
 jRng (v8 + (-1)) ∧
 k39 (v4.tdiv 32) 0 v6 (s1 + s0) (v8 + (-1))))
 else
 ((if (v4.tmod 32) = 27 then
 ((jRng (s1 + s0) ∧
 jRng (v8 + (-1)) ∧
 k39 (v4.tdiv 32) 1 v6 (s1 + s0) (v8 + (-1))))
 else
 ((if (v4.tmod 32) = v9 then
 ((jRng (s1 + s0) ∧
 jRng (v8 + (-1)) ∧
 k39 (v4.tdiv 32) 1 v6 (s1 + s0) (v8 + (-1))))
 else
 ((jRng (s1 + s0) ∧
 jRng (v8 + (-1)) ∧
 k39 (v4.tdiv 32) 0 v6 (s1 + s0) (v8 + (-1))))))))))))
 else
 ((jRng (s1 + s0) ∧
 jRng (v8 + (-1)) ∧
 k39 v4 v5 v6 (s1 + s0) (v8 + (-1)))))
def wp_12_isPattern_39 (v2 : Int) (v3 : Int) (C : jC) (post : Int → Prop) (k39 : Int → Int → Int → Int → Int → Prop) (v4 : Int) (v5 : Int) (v6 : Int) (v7 : Int) (v8 : Int) : Prop :=
 (if v8 < 0 then
 ((if v5 = 0 then
 (post 0)
 else
 ((if v7 = v3 then
 (post 1)
 else
 ((0 ≤ (v2 + 4) ∧
 (v2 + 4) < 8954 ∧
 (if (C 346 (v2 + 4)) = 1 then
 (post 1)
 else
 (post 0))))))))
 else
 ((if (v6.tmod 27) ≤ 0 then
 (wp_12_isPattern_70 0 v7 v2 v3 v4 v5 (v6.tdiv 27) v8 (v6.tmod 27) C post k39)
 else
 (wp_12_isPattern_70 1 v7 v2 v3 v4 v5 (v6.tdiv 27) v8 (v6.tmod 27) C post k39))))
def wp_12_isPattern (v1 : Int) (v2 : Int) (C : jC) (post : Int → Prop) : Prop :=
 (if v1 = (-1000000) then
 (post 0)
 else
 ((0 ≤ (v2 + 3) ∧
 (v2 + 3) < 8954 ∧
 0 ≤ (v2 + 2) ∧
 (v2 + 2) < 8954 ∧
 jL5 (wp_12_isPattern_39 v2 (C 346 (v2 + 3)) C post) (C 346 (v2 + 2)) 1 v1 0 3)))
def wp_12_isAsTest_75 (s0 : Int) (v2 : Int) (C : jC) (post : Int → Prop) : Prop :=
 (0 ≤ (v2 + 0) ∧
 (v2 + 0) < 8954 ∧
 (if (C 346 (v2 + 0)) = 1 then
 ((if s0 = 1 then
 (post 0)
 else
 (post 1)))
 else
 ((if s0 = 0 then
 (post 0)
 else
 (post 1)))))
def wp_12_isAsTest (v1 : Int) (v2 : Int) (C : jC) (post : Int → Prop) : Prop :=
 (0 ≤ (v2 + 1) ∧
 (v2 + 1) < 8954 ∧
 (if (C 346 (v2 + 1)) = 0 then
 ((if v1 = (-1000000) then
 (wp_12_isAsTest_75 1 v2 C post)
 else
 (wp_12_isAsTest_75 0 v2 C post)))
 else
 ((if (C 346 (v2 + 1)) = 1 then
 ((if v1 = (-1000000) then
 (wp_12_isAsTest_75 0 v2 C post)
 else
 ((0 ≤ (v2 + 2) ∧
 (v2 + 2) < 8954 ∧
 0 ≤ (v2 + 3) ∧
 (v2 + 3) < 8954 ∧
 wp_12_in v1 (C 346 (v2 + 2)) (C 346 (v2 + 3)) C (fun x16 =>
 (if x16 = 0 then
 (wp_12_isAsTest_75 0 v2 C post)
 else
 (wp_12_isAsTest_75 1 v2 C post)))))))
 else
 (wp_12_isPattern v1 v2 C (fun x21 =>
 wp_12_isAsTest_75 x21 v2 C post))))))
def wp_12_isAsFilter_27 (v1 : Int) (v2 : Int) (v3 : Int) (v4 : Int) (C : jC) (post : Int → Prop) (k27 : Int → Int → Prop) (v5 : Int) (v6 : Int) : Prop :=
 (if v4 ≤ v6 then
 (((v5 = 0 ∨ v5 = 1) ∧
 post v5))
 else
 ((if v5 = 0 then
 (wp_12_cellOf v2 v3 C (fun x11 =>
 wp_12_testAt v1 v3 v6 C (fun x15 =>
 wp_12_isAsTest x11 x15 C (fun x19 =>
 k27 x19 (v6 + 1)))))
 else
 (((v5 = 0 ∨ v5 = 1) ∧
 post v5)))))
def wp_12_isAsFilter (v1 : Int) (v2 : Int) (v3 : Int) (C : jC) (post : Int → Prop) : Prop :=
 wp_12_filterAt v1 v3 C (fun x1 =>
 (0 ≤ x1 ∧
 x1 < 8954 ∧
 (if (C 346 x1) = 0 then
 (jL2 (wp_12_isAsFilter_27 v1 v2 v3 (C 346 x1) C post) 1 0)
 else
 (jL2 (wp_12_isAsFilter_27 v1 v2 v3 (C 346 x1) C post) 0 0))))
def wp_12_whyNot_2 (v1 : Int) (v2 : Int) (C : jC) (post : Int → Prop) (k2 : Int → Prop) (v3 : Int) : Prop :=
 wp_12_columns C (fun x1 =>
 (if x1 ≤ v3 then
 (wp_12_columns C (fun x6 =>
 (if x6 ≤ v3 then
 (post (-1))
 else
 (post v3))))
 else
 (wp_12_isAsFilter v1 v2 v3 C (fun x11 =>
 (if x11 = 0 then
 (wp_12_columns C (fun x16 =>
 (if x16 ≤ v3 then
 (post (-1))
 else
 (post v3))))
 else
 (k2 (v3 + 1)))))))
def wp_12_whyNot (v1 : Int) (v2 : Int) (C : jC) (post : Int → Prop) : Prop :=
 jL1 (wp_12_whyNot_2 v1 v2 C post) 0
def wp_12_isFit (v1 : Int) (v2 : Int) (C : jC) (post : Int → Prop) : Prop :=
 wp_12_whyNot v1 v2 C (fun x1 =>
 (if x1 = (-1) then
 (post 1)
 else
 (post 0)))
def wp_12_listOf (v0 : Int) (C : jC) (post : Int → Prop) : Prop :=
 wp_12_viewAt v0 0 C (fun x1 =>
 post x1)
def wp_12_readRow_77 (v1 : Int) (post : Int → jC → Prop) (k77 : Int → jC → Prop) (v2 : Int) (C : jC) : Prop :=
 (if 4 ≤ v2 then
 (post 1 C)
 else
 (wp_12_isFit v2 v1 C (fun x25 =>
 (if x25 = 0 then
 (k77 (v2 + 1) C)
 else
 (wp_12_listOf v2 C (fun x31 =>
 wp_12_putsLast x31 v1 C (fun C36 =>
 k77 (v2 + 1) C36)))))))
def wp_12_readRow_25 (v1 : Int) (post : Int → jC → Prop) (k25 : Int → jC → Prop) (v2 : Int) (C : jC) : Prop :=
 wp_12_columns C (fun x15 =>
 (if x15 ≤ v2 then
 (wp_12_putsLast 273 v1 C (fun C21 =>
 jL2 (wp_12_readRow_77 v1 post) 0 C21))
 else
 (wp_12_aValue v2 C (fun x40 C41 =>
 (if x40 = 0 then
 (post 0 C41)
 else
 (wp_12_rowOf v1 C41 (fun x45 =>
 (0 ≤ ((x45 + 1) + v2) ∧
 ((x45 + 1) + v2) < 8954 ∧
 k25 (v2 + 1) (jU C41 346 ((x45 + 1) + v2) (C41 345 10))))))))))
def wp_12_readRow  (C : jC) (post : Int → jC → Prop) : Prop :=
 wp_12_columns C (fun x1 =>
 (if x1 = 0 then
 (post 0 C)
 else
 (wp_12_rows C (fun x6 =>
 (if x6 = 24 then
 (post 0 C)
 else
 (wp_12_comes C (fun x11 C12 =>
 jL2 (wp_12_readRow_25 x11 post) 0 C12)))))))
def wp_12_readSheet_66 (v1 : Int) (C : jC) (post : Int → jC → Prop) (k19 : Int → jC → Prop) : Prop :=
 wp_12_sign 59 C (fun x6 C7 =>
 (if x6 = 0 then
 ((if (C7 345 7) = (C7 345 8) then
 (post 1 C7)
 else
 (post 0 C7)))
 else
 ((jRng (v1 + 1) ∧
 k19 (v1 + 1) C7))))
def wp_12_readSheet_19  (post : Int → jC → Prop) (k19 : Int → jC → Prop) (v1 : Int) (C : jC) : Prop :=
 wp_12_letters C (fun C14 =>
 (if v1 = 14 then
 (post 0 C14)
 else
 (wp_12_isWord 0 C14 (fun x18 =>
 (if x18 = 0 then
 (wp_12_isWord 1 C14 (fun x23 =>
 (if x23 = 0 then
 (post 0 C14)
 else
 (wp_12_readRow C14 (fun x28 C29 =>
 (if x28 = 0 then
 (post 0 C29)
 else
 (wp_12_readSheet_66 v1 C29 post k19)))))))
 else
 (wp_12_readColumns C14 (fun x33 C34 =>
 (if x33 = 0 then
 (post 0 C34)
 else
 (wp_12_readSheet_66 v1 C34 post k19)))))))))
def wp_12_readSheet  (C : jC) (post : Int → jC → Prop) : Prop :=
 wp_12_blanks C (fun C2 =>
 (if (C2 345 7) = (C2 345 8) then
 (post 1 C2)
 else
 (jL2 (wp_12_readSheet_19  post) 0 C2)))
def wp_12_bringsBack_2  (post : jC → Prop) (k2 : Int → jC → Prop) (v1 : Int) (C : jC) : Prop :=
 (if 8954 ≤ v1 then
 (post C)
 else
 ((0 ≤ v1 ∧
 k2 (v1 + 1) (jU C 346 v1 (C 348 v1)))))
def wp_12_bringsBack  (C : jC) (post : jC → Prop) : Prop :=
 jL2 (wp_12_bringsBack_2  post) 0 C
def wp_12_isRight (v1 : Int) (C : jC) (post : Int → jC → Prop) : Prop :=
 (if v1 = 0 then
 ((if v1 = 0 then
 (wp_12_bringsBack (jU C 345 11 (C 345 9)) (fun C5 =>
 ((v1 = 0 ∨ v1 = 1) ∧
 post v1 C5)))
 else
 (((v1 = 0 ∨ v1 = 1) ∧
 post v1 (jU C 345 11 (C 345 9))))))
 else
 ((if v1 = 0 then
 (wp_12_bringsBack (jU C 345 11 (-1)) (fun C13 =>
 ((v1 = 0 ∨ v1 = 1) ∧
 post v1 C13)))
 else
 (((v1 = 0 ∨ v1 = 1) ∧
 post v1 (jU C 345 11 (-1)))))))
def wp_12_throwsIf (v1 : Int) (v2 : Int) (C : jC) (post : Int → jC → Prop) : Prop :=
 (if v1 = 0 then
 (((v1 = 0 ∨ v1 = 1) ∧
 post v1 C))
 else
 (((v1 = 0 ∨ v1 = 1) ∧
 post v1 (jU C 345 0 v2))))
def wp_12_sheet_51 (s0 : Int) (C : jC) (post : Int → jC → Prop) : Prop :=
 wp_12_throwsIf s0 2 C (fun x1 C2 =>
 (if x1 = 0 then
 ((jRng ((C2 346 1) + 1) ∧
 post ((jU C2 346 1 ((C2 346 1) + 1)) 346 1) (jU C2 346 1 ((C2 346 1) + 1))))
 else
 (wp_12_bringsBack C2 (fun C15 =>
 post 0 C15))))
def wp_12_sheet_25 (s0 : Int) (C : jC) (post : Int → jC → Prop) : Prop :=
 wp_12_throwsIf s0 1 C (fun x18 C19 =>
 (if x18 = 0 then
 ((if (C19 346 1) = 12 then
 (wp_12_sheet_51 1 C19 post)
 else
 (wp_12_sheet_51 0 C19 post)))
 else
 (post 0 C19)))
def wp_12_sheet  (C : jC) (post : Int → jC → Prop) : Prop :=
 wp_12_uses C (fun C27 =>
 wp_12_keepsAll C27 (fun C31 =>
 wp_12_readSheet C31 (fun x34 C35 =>
 wp_12_isRight x34 C35 (fun x38 C39 =>
 (if x38 = 0 then
 (wp_12_sheet_25 1 C39 post)
 else
 (wp_12_sheet_25 0 C39 post))))))
def wp_12_noView (v0 : Int) (C : jC) (post : Int → Prop) : Prop :=
 wp_12_in v0 0 3 C (fun x1 =>
 (if x1 = 0 then
 (post 1)
 else
 (post 0)))
def wp_12_passes (v1 : Nat) (C : jC) (post : Int → jC → Prop) : Prop :=
 wp_12_letters C (fun C2 =>
 wp_12_isWord v1 C2 (fun x5 =>
 (if x5 = 0 then
 (post 0 (jU C2 345 7 (C2 345 9)))
 else
 (post 1 C2))))
def wp_12_number (v1 : Int) (v2 : Int) (C : jC) (post : Int → jC → Prop) : Prop :=
 wp_12_blanks C (fun C2 =>
 wp_12_figures 1 v1 v2 C2 (fun x5 C6 =>
 ((x5 = 0 ∨ x5 = 1) ∧
 post x5 C6)))
def wp_12_readSort_36 (v1 : Int) (v2 : Int) (v3 : Int) (C : jC) (post : Int → jC → Prop) (k36 : Int → Prop) (v4 : Int) : Prop :=
 (if v3 ≤ v4 then
 ((jRng (26 + v3) ∧
 wp_12_viewAt v1 (26 + v3) C (fun x20 =>
 (0 ≤ x20 ∧
 x20 < 8954 ∧
 jRng ((2 * (C 345 10)) + v2) ∧
 wp_12_viewAt v1 25 (jU C 346 x20 ((2 * (C 345 10)) + v2)) (fun x28 =>
 (0 ≤ x28 ∧
 x28 < 8954 ∧
 jRng (((jU C 346 x20 ((2 * (C 345 10)) + v2)) 346 x28) + 1) ∧
 post 1 (jU (jU C 346 x20 ((2 * (C 345 10)) + v2)) 346 x28 (((jU C 346 x20 ((2 * (C 345 10)) + v2)) 346 x28) + 1))))))))
 else
 ((jRng (26 + v4) ∧
 wp_12_viewAt v1 (26 + v4) C (fun x39 =>
 (0 ≤ x39 ∧
 x39 < 8954 ∧
 (if ((C 346 x39).tdiv 2) = (C 345 10) then
 (post 0 C)
 else
 (k36 (v4 + 1))))))))
def wp_12_readSort (v1 : Int) (v2 : Int) (C : jC) (post : Int → jC → Prop) : Prop :=
 wp_12_viewAt v1 25 C (fun x1 =>
 (0 ≤ x1 ∧
 x1 < 8954 ∧
 (if (C 346 x1) = 3 then
 (post 0 C)
 else
 (wp_12_columns C (fun x8 =>
 (jRng (x8 - 1) ∧
 wp_12_number 0 (x8 - 1) C (fun x13 C14 =>
 (if x13 = 0 then
 (post 0 C14)
 else
 (jL1 (wp_12_readSort_36 v1 v2 (C 346 x1) C14 post) 0)))))))))
def wp_12_has (v0 : Int) (v1 : Int) (C : jC) (post : Int → Prop) : Prop :=
 (if (jAnd (jShr v0 v1) 1) = 1 then
 (post 1)
 else
 (post 0))
def wp_12_readHide (v1 : Int) (C : jC) (post : Int → jC → Prop) : Prop :=
 wp_12_columns C (fun x1 =>
 (jRng (x1 - 1) ∧
 wp_12_number 0 (x1 - 1) C (fun x6 C7 =>
 (if x6 = 0 then
 (post 0 C7)
 else
 (wp_12_viewAt v1 29 C7 (fun x11 =>
 (0 ≤ x11 ∧
 x11 < 8954 ∧
 wp_12_has (C7 346 x11) (C7 345 10) C7 (fun x17 =>
 (if x17 = 0 then
 (wp_12_viewAt v1 29 C7 (fun x22 =>
 (0 ≤ x22 ∧
 x22 < 8954 ∧
 post 1 (jU C7 346 x22 (jOr (C7 346 x22) (jShl 1 (C7 345 10)))))))
 else
 (post 0 C7))))))))))
def wp_12_isAWord_63  (C : jC) (post : Int → Prop) : Prop :=
 post 1
def wp_12_isAWord  (C : jC) (post : Int → Prop) : Prop :=
 wp_12_isWord 4 C (fun x1 =>
 (if x1 = 0 then
 (wp_12_isWord 5 C (fun x6 =>
 (if x6 = 0 then
 (wp_12_isWord 6 C (fun x11 =>
 (if x11 = 0 then
 (wp_12_isWord 7 C (fun x16 =>
 (if x16 = 0 then
 (wp_12_isWord 8 C (fun x21 =>
 (if x21 = 0 then
 (wp_12_isWord 9 C (fun x26 =>
 (if x26 = 0 then
 (wp_12_isWord 10 C (fun x31 =>
 (if x31 = 0 then
 (post 0)
 else
 (wp_12_isAWord_63 C post))))
 else
 (wp_12_isAWord_63 C post))))
 else
 (wp_12_isAWord_63 C post))))
 else
 (wp_12_isAWord_63 C post))))
 else
 (wp_12_isAWord_63 C post))))
 else
 (wp_12_isAWord_63 C post))))
 else
 (wp_12_isAWord_63 C post)))
def wp_12_readPattern_177 (s0 : Int) (s1 : Int) (s2 : Int) (v2 : Int) (v4 : Int) (C : jC) (post : Int → jC → Prop) : Prop :=
 (0 ≤ s1 ∧
 s1 < 8954 ∧
 (if 4 < v2 then
 (post 0 (jU C s2 s1 s0))
 else
 ((if 0 < v2 then
 (post 1 (jU C s2 s1 s0))
 else
 ((if v4 = 0 then
 (post 0 (jU C s2 s1 s0))
 else
 (post 1 (jU C s2 s1 s0))))))))
def wp_12_readPattern_129 (s0 : Int) (s1 : Int) (v1 : Int) (v2 : Int) (v3 : Int) (v4 : Int) (C : jC) (post : Int → jC → Prop) : Prop :=
 (jRng (s1 + s0) ∧
 0 ≤ (v1 + 1) ∧
 (v1 + 1) < 8954 ∧
 0 ≤ (v1 + 2) ∧
 (v1 + 2) < 8954 ∧
 0 ≤ (v1 + 3) ∧
 (v1 + 3) < 8954 ∧
 (if v4 = 0 then
 ((jRng (v1 + 4) ∧
 wp_12_readPattern_177 0 (v1 + 4) 346 v2 v4 (jU (jU (jU (jU C 345 7 (s1 + s0)) 346 (v1 + 1) 2) 346 (v1 + 2) v3) 346 (v1 + 3) v2) post))
 else
 ((jRng (v1 + 4) ∧
 wp_12_readPattern_177 1 (v1 + 4) 346 v2 v4 (jU (jU (jU (jU C 345 7 (s1 + s0)) 346 (v1 + 1) 2) 346 (v1 + 2) v3) 346 (v1 + 3) v2) post))))
def wp_12_readPattern_47 (v1 : Int) (v2 : Int) (v3 : Int) (C : jC) (post : Int → jC → Prop) (k25 : Int → Int → jC → Prop) : Prop :=
 (if 4 ≤ v2 then
 ((jRng ((C 345 7) + 1) ∧
 jRng (v2 + 1) ∧
 k25 (v2 + 1) v3 (jU C 345 7 ((C 345 7) + 1))))
 else
 (wp_12_isAt 63 63 C (fun x35 =>
 (if x35 = 0 then
 ((0 ≤ (C 345 7) ∧
 (C 345 7) < 400 ∧
 jRng ((32 * v3) + (((C 349 (C 345 7)) - 97) + 1)) ∧
 k25 (v2 + 1) ((32 * v3) + (((C 349 (C 345 7)) - 97) + 1)) (jU C 345 7 ((C 345 7) + 1))))
 else
 ((jRng ((C 345 7) + 1) ∧
 jRng ((32 * v3) + 27) ∧
 k25 (v2 + 1) ((32 * v3) + 27) (jU C 345 7 ((C 345 7) + 1))))))))
def wp_12_readPattern_25 (v1 : Int) (post : Int → jC → Prop) (k25 : Int → Int → jC → Prop) (v2 : Int) (v3 : Int) (C : jC) : Prop :=
 wp_12_isAt 97 122 C (fun x50 =>
 (if x50 = 0 then
 (wp_12_isAt 63 63 C (fun x55 =>
 (if x55 = 0 then
 (wp_12_isAt 42 42 C (fun x60 =>
 (if x60 = 0 then
 (wp_12_readPattern_129 0 (C 345 7) v1 v2 v3 x60 C post)
 else
 (wp_12_readPattern_129 1 (C 345 7) v1 v2 v3 x60 C post))))
 else
 (wp_12_readPattern_47 v1 v2 v3 C post k25))))
 else
 (wp_12_readPattern_47 v1 v2 v3 C post k25)))
def wp_12_readPattern (v1 : Int) (C : jC) (post : Int → jC → Prop) : Prop :=
 wp_12_letters C (fun C22 =>
 wp_12_isAWord C22 (fun x25 =>
 (if x25 = 0 then
 (jL3 (wp_12_readPattern_25 v1 post) 0 0 (jU C22 345 7 (C22 345 9)))
 else
 (post 0 C22))))
def wp_12_readTest_2 (v1 : Int) (v2 : Int) (post : Int → jC → Prop) (k2 : Int → jC → Prop) (v3 : Int) (C : jC) : Prop :=
 wp_12_passes 6 C (fun x1 C2 =>
 (if x1 = 0 then
 ((0 ≤ (v2 + 0) ∧
 (v2 + 0) < 8954 ∧
 0 ≤ (v2 + 1) ∧
 (v2 + 1) < 8954 ∧
 wp_12_passes 7 (jU (jU C2 346 (v2 + 0) (v3.tmod 2)) 346 (v2 + 1) 0) (fun x13 C14 =>
 (if x13 = 0 then
 (wp_12_isWords v1 C14 (fun x18 =>
 (if x18 = 0 then
 (wp_12_signed (-999) C14 (fun x23 C24 =>
 (if x23 = 0 then
 (post 0 C24)
 else
 ((0 ≤ (v2 + 2) ∧
 (v2 + 2) < 8954 ∧
 0 ≤ (v2 + 3) ∧
 (v2 + 3) < 8954 ∧
 wp_12_passes 5 (jU (jU (jU C24 346 (v2 + 1) 1) 346 (v2 + 2) ((jU C24 346 (v2 + 1) 1) 345 10)) 346 (v2 + 3) ((jU (jU C24 346 (v2 + 1) 1) 346 (v2 + 2) ((jU C24 346 (v2 + 1) 1) 345 10)) 345 10)) (fun x37 C38 =>
 (if x37 = 0 then
 (post 1 C38)
 else
 (wp_12_signed (C38 345 10) C38 (fun x42 C43 =>
 ((x42 = 0 ∨ x42 = 1) ∧
 post x42 (jU C43 346 (v2 + 3) (C43 345 10))))))))))))
 else
 (wp_12_readPattern v2 C14 (fun x50 C51 =>
 ((x50 = 0 ∨ x50 = 1) ∧
 post x50 C51))))))
 else
 (post 1 C14)))))
 else
 ((if v3 = 4 then
 (post 0 C2)
 else
 ((jRng (v3 + 1) ∧
 k2 (v3 + 1) C2))))))
def wp_12_readTest (v1 : Int) (v2 : Int) (C : jC) (post : Int → jC → Prop) : Prop :=
 jL2 (wp_12_readTest_2 v1 v2 post) 0 C
def wp_12_readFilter_47 (v1 : Int) (v2 : Int) (post : Int → jC → Prop) (k47 : Int → jC → Prop) (v3 : Int) (C : jC) : Prop :=
 wp_12_blanks C (fun C24 =>
 (if v3 = 6 then
 (post 0 C24)
 else
 (wp_12_testAt v1 v2 v3 C24 (fun x28 =>
 wp_12_readTest v2 x28 C24 (fun x32 C33 =>
 (if x32 = 0 then
 (post 0 C33)
 else
 (wp_12_passes 4 C33 (fun x37 C38 =>
 (if x37 = 0 then
 (wp_12_filterAt v1 v2 C38 (fun x42 =>
 (0 ≤ x42 ∧
 x42 < 8954 ∧
 jRng (v3 + 1) ∧
 post 1 (jU C38 346 x42 (v3 + 1)))))
 else
 ((jRng (v3 + 1) ∧
 k47 (v3 + 1) C38)))))))))))
def wp_12_readFilter (v1 : Int) (C : jC) (post : Int → jC → Prop) : Prop :=
 wp_12_columns C (fun x1 =>
 (jRng (x1 - 1) ∧
 wp_12_number 0 (x1 - 1) C (fun x6 C7 =>
 (if x6 = 0 then
 (post 0 C7)
 else
 (wp_12_filterAt v1 (C7 345 10) C7 (fun x11 =>
 (0 ≤ x11 ∧
 x11 < 8954 ∧
 (if 0 < (C7 346 x11) then
 (post 0 C7)
 else
 (wp_12_sign 58 C7 (fun x18 C19 =>
 (if x18 = 0 then
 (post 0 C19)
 else
 (jL2 (wp_12_readFilter_47 v1 (C7 345 10) post) 0 C19))))))))))))
def wp_12_readPart (v1 : Int) (C : jC) (post : Int → jC → Prop) : Prop :=
 wp_12_passes 8 C (fun x1 C2 =>
 (if x1 = 0 then
 (wp_12_passes 9 C2 (fun x6 C7 =>
 (if x6 = 0 then
 (wp_12_passes 10 C7 (fun x11 C12 =>
 (if x11 = 0 then
 (wp_12_readFilter v1 C12 (fun x16 C17 =>
 ((x16 = 0 ∨ x16 = 1) ∧
 post x16 C17)))
 else
 (wp_12_readHide v1 C12 (fun x21 C22 =>
 ((x21 = 0 ∨ x21 = 1) ∧
 post x21 C22))))))
 else
 (wp_12_readSort v1 1 C7 (fun x26 C27 =>
 ((x26 = 0 ∨ x26 = 1) ∧
 post x26 C27))))))
 else
 (wp_12_readSort v1 0 C2 (fun x31 C32 =>
 ((x31 = 0 ∨ x31 = 1) ∧
 post x31 C32)))))
def wp_12_readView_44 (v1 : Int) (post : Int → jC → Prop) (k44 : jC → Prop) (C : jC) : Prop :=
 wp_12_readPart v1 C (fun x7 C8 =>
 (if x7 = 0 then
 (post 0 C8)
 else
 (wp_12_sign 59 C8 (fun x12 C13 =>
 (if x12 = 0 then
 ((if (C13 345 7) = (C13 345 8) then
 (post 1 C13)
 else
 (post 0 C13)))
 else
 (k44 C13))))))
def wp_12_readView_3 (v1 : Int) (post : Int → jC → Prop) (k3 : Int → jC → Prop) (v2 : Int) (C : jC) : Prop :=
 (if 185 ≤ v2 then
 (wp_12_blanks C (fun C3 =>
 (if (C3 345 7) = (C3 345 8) then
 (post 1 C3)
 else
 (jL1 (wp_12_readView_44 v1 post) C3))))
 else
 (wp_12_viewAt v1 v2 C (fun x18 =>
 (0 ≤ x18 ∧
 x18 < 8954 ∧
 k3 (v2 + 1) (jU C 346 x18 0)))))
def wp_12_readView (v1 : Int) (C : jC) (post : Int → jC → Prop) : Prop :=
 jL2 (wp_12_readView_3 v1 post) 25 C
def wp_12_keyAt (v1 : Int) (v2 : Int) (C : jC) (post : Int → Prop) : Prop :=
 (0 ≤ ((v1 + 1) + v2) ∧
 ((v1 + 1) + v2) < 8954 ∧
 post (C 346 ((v1 + 1) + v2)))
def wp_12_bySort_68 (s0 : Int) (v1 : Int) (C : jC) (post : Int → Prop) : Prop :=
 (if (v1.tmod 2) = 0 then
 ((if s0 = 1 then
 (post 1)
 else
 (post (-1))))
 else
 ((if s0 = 0 then
 (post 1)
 else
 (post (-1)))))
def wp_12_bySort (v1 : Int) (v2 : Int) (v3 : Int) (C : jC) (post : Int → Prop) : Prop :=
 wp_12_cellOf v2 (v1.tdiv 2) C (fun x6 =>
 wp_12_cellOf v3 (v1.tdiv 2) C (fun x11 =>
 (if x6 = x11 then
 (post 0)
 else
 ((if x6 = (-1000000) then
 ((if x6 = (-1000000) then
 (post 1)
 else
 (post (-1))))
 else
 ((if x11 = (-1000000) then
 ((if x6 = (-1000000) then
 (post 1)
 else
 (post (-1))))
 else
 ((if x6 ≤ x11 then
 (wp_12_bySort_68 0 v1 C post)
 else
 (wp_12_bySort_68 1 v1 C post))))))))))
def wp_12_placeIn_2 (v1 : Int) (v2 : Int) (C : jC) (post : Int → Prop) (k2 : Int → Prop) (v3 : Int) : Prop :=
 wp_12_size v1 C (fun x1 =>
 (if x1 ≤ v3 then
 (wp_12_size v1 C (fun x6 =>
 (if x6 ≤ v3 then
 (post (-1))
 else
 (post v3))))
 else
 (wp_12_keyAt v1 v3 C (fun x11 =>
 (if x11 = v2 then
 (wp_12_size v1 C (fun x16 =>
 (if x16 ≤ v3 then
 (post (-1))
 else
 (post v3))))
 else
 (k2 (v3 + 1)))))))
def wp_12_placeIn (v1 : Int) (v2 : Int) (C : jC) (post : Int → Prop) : Prop :=
 jL1 (wp_12_placeIn_2 v1 v2 C post) 0
def wp_12_bySorts_41 (v3 : Int) (v4 : Int) (v5 : Int) (C : jC) (post : Int → Prop) : Prop :=
 (if v5 = 0 then
 (wp_12_placeIn 273 v3 C (fun x2 =>
 wp_12_placeIn 273 v4 C (fun x6 =>
 (if x2 ≤ x6 then
 (post (-1))
 else
 (post 1)))))
 else
 (post v5))
def wp_12_bySorts_6 (v1 : Int) (v2 : Int) (v3 : Int) (v4 : Int) (C : jC) (post : Int → Prop) (k6 : Int → Int → Prop) (v5 : Int) (v6 : Int) : Prop :=
 (if v2 ≤ v6 then
 (wp_12_bySorts_41 v3 v4 v5 C post)
 else
 ((if v5 = 0 then
 ((0 ≤ (v1 + v6) ∧
 (v1 + v6) < 8954 ∧
 wp_12_bySort (C 346 (v1 + v6)) v3 v4 C (fun x15 =>
 k6 x15 (v6 + 1))))
 else
 (wp_12_bySorts_41 v3 v4 v5 C post))))
def wp_12_bySorts (v1 : Int) (v2 : Int) (v3 : Int) (v4 : Int) (C : jC) (post : Int → Prop) : Prop :=
 jL2 (wp_12_bySorts_6 v1 v2 v3 v4 C post) 0 0
def wp_12_laysFresh_38 (v1 : Int) (v2 : Int) (v3 : Int) (v4 : Int) (post : Int → jC → Prop) (k4 : Int → Int → jC → Prop) (k38 : Int → jC → Prop) (v5 : Int) (C : jC) : Prop :=
 (if v5 ≤ 0 then
 ((0 ≤ v5 ∧
 jRng (v2 + 1) ∧
 jRng (v3 + 1) ∧
 k4 (v2 + 1) (v3 + 1) (jU C 351 v5 v4)))
 else
 (wp_12_viewAt v1 26 C (fun x22 =>
 wp_12_viewAt v1 25 C (fun x26 =>
 (0 ≤ x26 ∧
 x26 < 8954 ∧
 (v5 - 1) < 25 ∧
 wp_12_bySorts x22 (C 346 x26) (C 351 (v5 - 1)) v4 C (fun x34 =>
 (if x34 ≤ 0 then
 ((v5 < 25 ∧
 jRng (v2 + 1) ∧
 jRng (v3 + 1) ∧
 k4 (v2 + 1) (v3 + 1) (jU C 351 v5 v4)))
 else
 ((v5 < 25 ∧
 k38 (v5 + (-1)) (jU C 351 v5 (C 351 (v5 - 1))))))))))))
def wp_12_laysFresh_4 (v1 : Int) (post : Int → jC → Prop) (k4 : Int → Int → jC → Prop) (v2 : Int) (v3 : Int) (C : jC) : Prop :=
 wp_12_rows C (fun x1 =>
 (if x1 ≤ v3 then
 (post v2 C)
 else
 (wp_12_keyAt 273 v3 C (fun x6 =>
 wp_12_isFit v1 x6 C (fun x10 =>
 (if x10 = 0 then
 (k4 v2 (v3 + 1) C)
 else
 (jL2 (wp_12_laysFresh_38 v1 v2 v3 x6 post k4) v2 C)))))))
def wp_12_laysFresh (v1 : Int) (C : jC) (post : Int → jC → Prop) : Prop :=
 jL3 (wp_12_laysFresh_4 v1 post) 0 0 C
def wp_12_isRefreshed_80 (v2 : Int) (v3 : Int) (v5 : Int) (post : Int → jC → Prop) (k80 : Int → jC → Prop) (v6 : Int) (C : jC) : Prop :=
 (if v3 ≤ v6 then
 (post v5 C)
 else
 ((0 ≤ v6 ∧
 v6 < 25 ∧
 0 ≤ ((v2 + 1) + v6) ∧
 ((v2 + 1) + v6) < 8954 ∧
 k80 (v6 + 1) (jU C 346 ((v2 + 1) + v6) (C 351 v6)))))
def wp_12_isRefreshed_17 (v2 : Int) (v3 : Int) (C : jC) (post : Int → jC → Prop) (k17 : Int → Int → Prop) (v4 : Int) (v5 : Int) : Prop :=
 (if v3 ≤ v5 then
 (wp_12_size v2 C (fun x10 =>
 (0 ≤ v2 ∧
 v2 < 8954 ∧
 jRng (((v3 - v4) + x10) - v4) ∧
 jL2 (wp_12_isRefreshed_80 v2 v3 (((v3 - v4) + x10) - v4) post) 0 (jU C 346 v2 v3))))
 else
 ((0 ≤ v5 ∧
 v5 < 25 ∧
 wp_12_placeIn v2 (C 351 v5) C (fun x27 =>
 (if x27 = (-1) then
 (k17 (v4 + 0) (v5 + 1))
 else
 ((jRng (v4 + 1) ∧
 k17 (v4 + 1) (v5 + 1))))))))
def wp_12_isRefreshed (v1 : Int) (C : jC) (post : Int → jC → Prop) : Prop :=
 wp_12_listOf v1 C (fun x1 =>
 wp_12_laysFresh v1 C (fun x5 C6 =>
 jL2 (wp_12_isRefreshed_17 x1 x5 C6 post) 0 0))
def wp_12_view (v1 : Int) (C : jC) (post : Int → jC → Prop) : Prop :=
 wp_12_uses C (fun C2 =>
 wp_12_noView v1 C2 (fun x5 =>
 wp_12_throwsIf x5 1 C2 (fun x9 C10 =>
 (if x9 = 0 then
 (wp_12_keepsAll C10 (fun C15 =>
 wp_12_readView v1 C15 (fun x18 C19 =>
 wp_12_isRight x18 C19 (fun x22 C23 =>
 (if x22 = 0 then
 (wp_12_throwsIf 1 2 C23 (fun x27 C28 =>
 (if x27 = 0 then
 (wp_12_isRefreshed v1 C28 (fun x32 C33 =>
 wp_12_listOf v1 C33 (fun x36 =>
 wp_12_size x36 C33 (fun x40 =>
 post x40 C33))))
 else
 (post 0 C28))))
 else
 (wp_12_throwsIf 0 2 C23 (fun x44 C45 =>
 (if x44 = 0 then
 (wp_12_isRefreshed v1 C45 (fun x49 C50 =>
 wp_12_listOf v1 C50 (fun x53 =>
 wp_12_size x53 C50 (fun x57 =>
 post x57 C50))))
 else
 (post 0 C45)))))))))
 else
 (post 0 C10)))))
def wp_12_refresh (v1 : Int) (C : jC) (post : Int → jC → Prop) : Prop :=
 wp_12_noView v1 (jU C 345 0 0) (fun x2 =>
 wp_12_throwsIf x2 1 (jU C 345 0 0) (fun x6 C7 =>
 (if x6 = 0 then
 (wp_12_isRefreshed v1 C7 (fun x11 C12 =>
 post x11 C12))
 else
 (post 0 C7))))
def wp_12_noPlace (v1 : Int) (v2 : Int) (C : jC) (post : Int → Prop) : Prop :=
 wp_12_listOf v1 C (fun x1 =>
 wp_12_size x1 C (fun x5 =>
 (jRng (x5 - 1) ∧
 wp_12_in v2 0 (x5 - 1) C (fun x10 =>
 (if x10 = 0 then
 (post 1)
 else
 (post 0))))))
def wp_12_noColumn (v1 : Int) (C : jC) (post : Int → Prop) : Prop :=
 wp_12_columns C (fun x1 =>
 (jRng (x1 - 1) ∧
 wp_12_in v1 0 (x1 - 1) C (fun x6 =>
 (if x6 = 0 then
 (post 1)
 else
 (post 0)))))
def wp_12_noCell (v1 : Int) (v2 : Int) (v3 : Int) (C : jC) (post : Int → jC → Prop) : Prop :=
 wp_12_noView v1 C (fun x1 =>
 (if x1 = 0 then
 (wp_12_noPlace v1 v2 C (fun x6 =>
 (if x6 = 0 then
 (wp_12_noColumn v3 C (fun x11 =>
 (if x11 = 0 then
 (wp_12_throwsIf 0 1 C (fun x16 C17 =>
 ((x16 = 0 ∨ x16 = 1) ∧
 post x16 C17)))
 else
 (wp_12_throwsIf 1 1 C (fun x21 C22 =>
 ((x21 = 0 ∨ x21 = 1) ∧
 post x21 C22))))))
 else
 (wp_12_throwsIf 1 1 C (fun x26 C27 =>
 ((x26 = 0 ∨ x26 = 1) ∧
 post x26 C27))))))
 else
 (wp_12_throwsIf 1 1 C (fun x31 C32 =>
 ((x31 = 0 ∨ x31 = 1) ∧
 post x31 C32)))))
def wp_12_isHidden (v1 : Int) (v2 : Int) (C : jC) (post : Int → Prop) : Prop :=
 wp_12_viewAt v1 29 C (fun x1 =>
 (0 ≤ x1 ∧
 x1 < 8954 ∧
 wp_12_has (C 346 x1) v2 C (fun x7 =>
 ((x7 = 0 ∨ x7 = 1) ∧
 post x7))))
def wp_12_isValue_69 (s0 : Int) (v4 : Int) (v5 : Int) (C : jC) (post : Int → Prop) (k42 : Int → Int → Int → Prop) : Prop :=
 (if v4 = 0 then
 (k42 s0 0 (v5.tdiv 27))
 else
 ((if (v5.tmod 27) = 0 then
 (k42 s0 1 (v5.tdiv 27))
 else
 (k42 s0 0 (v5.tdiv 27)))))
def wp_12_isValue_42  (C : jC) (post : Int → Prop) (k42 : Int → Int → Int → Prop) (v3 : Int) (v4 : Int) (v5 : Int) : Prop :=
 (if v5 ≤ 0 then
 (((v3 = 0 ∨ v3 = 1) ∧
 post v3))
 else
 ((if v3 = 0 then
 (wp_12_isValue_69 0 v4 v5 C post k42)
 else
 ((if v4 = 0 then
 ((if (v5.tmod 27) ≤ 0 then
 (wp_12_isValue_69 0 v4 v5 C post k42)
 else
 (wp_12_isValue_69 1 v4 v5 C post k42)))
 else
 (wp_12_isValue_69 1 v4 v5 C post k42))))))
def wp_12_isValue (v1 : Int) (v2 : Int) (C : jC) (post : Int → Prop) : Prop :=
 wp_12_isWords v1 C (fun x1 =>
 (if x1 = 0 then
 (wp_12_in v2 (-999) 999 C (fun x6 =>
 ((x6 = 0 ∨ x6 = 1) ∧
 post x6)))
 else
 (wp_12_in v2 19683 531440 C (fun x11 =>
 (if x11 = 0 then
 (post 0)
 else
 (jL3 (wp_12_isValue_42  C post) 1 1 v2))))))
def wp_12_isTold_5 (v1 : Int) (v2 : Int) (v3 : Int) (v4 : Int) (v5 : Int) (post : jC → Prop) (k5 : Int → jC → Prop) (v6 : Int) (C : jC) : Prop :=
 (if v6 < 5 then
 ((jRng (((jU (jU (jU (jU (jU C 346 8754 v1) 346 8755 v2) 346 8756 v3) 346 8757 v4) 346 8758 v5) 346 3) + 1) ∧
 post (jU (jU (jU (jU (jU (jU C 346 8754 v1) 346 8755 v2) 346 8756 v3) 346 8757 v4) 346 8758 v5) 346 3 (min 40 (((jU (jU (jU (jU (jU C 346 8754 v1) 346 8755 v2) 346 8756 v3) 346 8757 v4) 346 8758 v5) 346 3) + 1)))))
 else
 ((((8754 + v6) - 5) < 8954 ∧
 (8754 + v6) < 8954 ∧
 k5 (v6 + (-1)) (jU C 346 (8754 + v6) (C 346 ((8754 + v6) - 5))))))
def wp_12_isTold (v1 : Int) (v2 : Int) (v3 : Int) (v4 : Int) (v5 : Int) (C : jC) (post : jC → Prop) : Prop :=
 jL2 (wp_12_isTold_5 v1 v2 v3 v4 v5 post) 199 C
def wp_12_alters (v1 : Int) (v2 : Int) (v3 : Int) (v4 : Int) (C : jC) (post : jC → Prop) : Prop :=
 wp_12_cellOf v2 v3 C (fun x1 =>
 (if x1 = v4 then
 (post C)
 else
 (wp_12_rowOf v2 C (fun x6 =>
 (0 ≤ ((x6 + 1) + v3) ∧
 ((x6 + 1) + v3) < 8954 ∧
 wp_12_rowOf v2 (jU C 346 ((x6 + 1) + v3) v4) (fun x13 =>
 (0 ≤ ((x13 + 6) + v3) ∧
 ((x13 + 6) + v3) < 8954 ∧
 0 ≤ (1 + (4 * ((jU (jU C 346 ((x6 + 1) + v3) v4) 346 ((x13 + 6) + v3) v1) 352 0))) ∧
 (1 + (4 * ((jU (jU C 346 ((x6 + 1) + v3) v4) 346 ((x13 + 6) + v3) v1) 352 0))) < 241 ∧
 ((1 + (4 * ((jU (jU C 346 ((x6 + 1) + v3) v4) 346 ((x13 + 6) + v3) v1) 352 0))) + 1) < 241 ∧
 ((1 + (4 * ((jU (jU C 346 ((x6 + 1) + v3) v4) 346 ((x13 + 6) + v3) v1) 352 0))) + 2) < 241 ∧
 ((1 + (4 * ((jU (jU C 346 ((x6 + 1) + v3) v4) 346 ((x13 + 6) + v3) v1) 352 0))) + 3) < 241 ∧
 jRng (((jU (jU (jU (jU (jU (jU C 346 ((x6 + 1) + v3) v4) 346 ((x13 + 6) + v3) v1) 352 (1 + (4 * ((jU (jU C 346 ((x6 + 1) + v3) v4) 346 ((x13 + 6) + v3) v1) 352 0))) v2) 352 ((1 + (4 * ((jU (jU C 346 ((x6 + 1) + v3) v4) 346 ((x13 + 6) + v3) v1) 352 0))) + 1) v3) 352 ((1 + (4 * ((jU (jU C 346 ((x6 + 1) + v3) v4) 346 ((x13 + 6) + v3) v1) 352 0))) + 2) x1) 352 ((1 + (4 * ((jU (jU C 346 ((x6 + 1) + v3) v4) 346 ((x13 + 6) + v3) v1) 352 0))) + 3) v4) 352 0) + 1) ∧
 wp_12_isTold v1 v2 v3 x1 v4 (jU (jU (jU (jU (jU (jU (jU C 346 ((x6 + 1) + v3) v4) 346 ((x13 + 6) + v3) v1) 352 (1 + (4 * ((jU (jU C 346 ((x6 + 1) + v3) v4) 346 ((x13 + 6) + v3) v1) 352 0))) v2) 352 ((1 + (4 * ((jU (jU C 346 ((x6 + 1) + v3) v4) 346 ((x13 + 6) + v3) v1) 352 0))) + 1) v3) 352 ((1 + (4 * ((jU (jU C 346 ((x6 + 1) + v3) v4) 346 ((x13 + 6) + v3) v1) 352 0))) + 2) x1) 352 ((1 + (4 * ((jU (jU C 346 ((x6 + 1) + v3) v4) 346 ((x13 + 6) + v3) v1) 352 0))) + 3) v4) 352 0 (((jU (jU (jU (jU (jU (jU C 346 ((x6 + 1) + v3) v4) 346 ((x13 + 6) + v3) v1) 352 (1 + (4 * ((jU (jU C 346 ((x6 + 1) + v3) v4) 346 ((x13 + 6) + v3) v1) 352 0))) v2) 352 ((1 + (4 * ((jU (jU C 346 ((x6 + 1) + v3) v4) 346 ((x13 + 6) + v3) v1) 352 0))) + 1) v3) 352 ((1 + (4 * ((jU (jU C 346 ((x6 + 1) + v3) v4) 346 ((x13 + 6) + v3) v1) 352 0))) + 2) x1) 352 ((1 + (4 * ((jU (jU C 346 ((x6 + 1) + v3) v4) 346 ((x13 + 6) + v3) v1) 352 0))) + 3) v4) 352 0) + 1)) (fun C41 =>
 post C41))))))))
def wp_12_editAt (v0 : Int) (v1 : Int) (C : jC) (post : Int → Prop) : Prop :=
 (jRng (186 + (241 * v1)) ∧
 wp_12_viewAt v0 (186 + (241 * v1)) C (fun x2 =>
 post x2))
def wp_12_isEdit_74 (v1 : Int) (v2 : Int) (post : Int → jC → Prop) (k74 : Int → jC → Prop) (v3 : Int) (C : jC) : Prop :=
 (if 241 ≤ v3 then
 (wp_12_viewAt v1 185 C (fun x14 =>
 (0 ≤ x14 ∧
 x14 < 8954 ∧
 jRng (v2 + 1) ∧
 post ((jU C 346 x14 (v2 + 1)) 352 0) (jU C 346 x14 (v2 + 1)))))
 else
 (wp_12_editAt v1 v2 C (fun x24 =>
 (0 ≤ v3 ∧
 0 ≤ (x24 + v3) ∧
 (x24 + v3) < 8954 ∧
 k74 (v3 + 1) (jU C 346 (x24 + v3) (C 352 v3))))))
def wp_12_isEdit_32 (v1 : Int) (v2 : Int) (post : Int → jC → Prop) (k32 : Int → jC → Prop) (v3 : Int) (C : jC) : Prop :=
 (if 1687 ≤ v3 then
 ((jRng (v2 + (-1)) ∧
 jL2 (wp_12_isEdit_74 v1 (v2 + (-1)) post) 0 C))
 else
 (wp_12_editAt v1 0 C (fun x34 =>
 wp_12_editAt v1 1 C (fun x38 =>
 (0 ≤ (x38 + v3) ∧
 (x38 + v3) < 8954 ∧
 0 ≤ (x34 + v3) ∧
 (x34 + v3) < 8954 ∧
 k32 (v3 + 1) (jU C 346 (x34 + v3) (C 346 (x38 + v3))))))))
def wp_12_isEdit (v1 : Int) (C : jC) (post : Int → jC → Prop) : Prop :=
 (if (C 352 0) = 0 then
 (post 0 C)
 else
 (wp_12_viewAt v1 185 C (fun x4 =>
 (0 ≤ x4 ∧
 x4 < 8954 ∧
 (if (C 346 x4) = 8 then
 (jL2 (wp_12_isEdit_32 v1 (C 346 x4) post) 0 C)
 else
 (jL2 (wp_12_isEdit_74 v1 (C 346 x4) post) 0 C))))))
def wp_12_set_45 (s0 : Int) (v1 : Int) (v2 : Int) (v3 : Int) (v4 : Int) (C : jC) (post : Int → jC → Prop) : Prop :=
 wp_12_throwsIf s0 3 C (fun x1 C2 =>
 (if x1 = 0 then
 (wp_12_listOf v1 C2 (fun x6 =>
 wp_12_keyAt x6 v2 C2 (fun x10 =>
 wp_12_alters v1 x10 v3 v4 (jU C2 352 0 0) (fun C18 =>
 wp_12_isEdit v1 C18 (fun x21 C22 =>
 post x10 C22)))))
 else
 (post 0 C2)))
def wp_12_set (v1 : Int) (v2 : Int) (v3 : Int) (v4 : Int) (C : jC) (post : Int → jC → Prop) : Prop :=
 wp_12_noCell v1 v2 v3 (jU C 345 0 0) (fun x26 C27 =>
 (if x26 = 0 then
 (wp_12_isHidden v1 v3 C27 (fun x31 =>
 wp_12_throwsIf x31 2 C27 (fun x35 C36 =>
 (if x35 = 0 then
 (wp_12_isValue v3 v4 C36 (fun x40 =>
 (if x40 = 0 then
 (wp_12_set_45 1 v1 v2 v3 v4 C36 post)
 else
 (wp_12_set_45 0 v1 v2 v3 v4 C36 post))))
 else
 (post 0 C36)))))
 else
 (post 0 C27)))
def wp_12_clear (v1 : Int) (v2 : Int) (v3 : Int) (C : jC) (post : Int → jC → Prop) : Prop :=
 wp_12_noCell v1 v2 v3 (jU C 345 0 0) (fun x2 C3 =>
 (if x2 = 0 then
 (wp_12_isHidden v1 v3 C3 (fun x7 =>
 wp_12_throwsIf x7 2 C3 (fun x11 C12 =>
 (if x11 = 0 then
 (wp_12_listOf v1 C12 (fun x16 =>
 wp_12_keyAt x16 v2 C12 (fun x20 =>
 wp_12_alters v1 x20 v3 (-1000000) (jU C12 352 0 0) (fun C28 =>
 wp_12_isEdit v1 C28 (fun x31 C32 =>
 post x20 C32)))))
 else
 (post 0 C12)))))
 else
 (post 0 C3)))
def wp_12_fill_94 (v1 : Int) (v3 : Int) (v4 : Int) (v5 : Int) (post : Int → jC → Prop) (k94 : Int → jC → Prop) (v6 : Int) (C : jC) : Prop :=
 (if v3 < v6 then
 (wp_12_isEdit v1 C (fun x32 C33 =>
 post x32 C33))
 else
 (wp_12_listOf v1 C (fun x36 =>
 wp_12_keyAt x36 v6 C (fun x40 =>
 wp_12_alters v1 x40 v4 v5 C (fun C45 =>
 (jRng (v6 + 1) ∧
 k94 (v6 + 1) C45))))))
def wp_12_fill_41 (s0 : Int) (v1 : Int) (v2 : Int) (v3 : Int) (v4 : Int) (C : jC) (post : Int → jC → Prop) : Prop :=
 wp_12_throwsIf s0 2 C (fun x1 C2 =>
 (if x1 = 0 then
 (wp_12_isHidden v1 v4 C2 (fun x6 =>
 wp_12_throwsIf x6 3 C2 (fun x10 C11 =>
 (if x10 = 0 then
 (wp_12_listOf v1 (jU C11 352 0 0) (fun x18 =>
 wp_12_keyAt x18 v2 (jU C11 352 0 0) (fun x22 =>
 wp_12_cellOf x22 v4 (jU C11 352 0 0) (fun x26 =>
 (jRng (v2 + 1) ∧
 jL2 (wp_12_fill_94 v1 v3 v4 x26 post) (v2 + 1) (jU C11 352 0 0))))))
 else
 (post 0 C11)))))
 else
 (post 0 C2)))
def wp_12_fill (v1 : Int) (v2 : Int) (v3 : Int) (v4 : Int) (C : jC) (post : Int → jC → Prop) : Prop :=
 wp_12_noCell v1 v2 v4 (jU C 345 0 0) (fun x50 C51 =>
 (if x50 = 0 then
 (wp_12_noPlace v1 v3 C51 (fun x55 =>
 wp_12_throwsIf x55 1 C51 (fun x59 C60 =>
 (if x59 = 0 then
 ((if v2 ≤ v3 then
 (wp_12_fill_41 0 v1 v2 v3 v4 C60 post)
 else
 (wp_12_fill_41 1 v1 v2 v3 v4 C60 post)))
 else
 (post 0 C60)))))
 else
 (post 0 C51)))
def wp_12_isNone (v1 : Int) (v2 : Int) (C : jC) (post : Int → Prop) : Prop :=
 (if v2 = (-1000000) then
 (post 0)
 else
 (wp_12_isValue v1 v2 C (fun x2 =>
 (if x2 = 0 then
 (post 1)
 else
 (post 0)))))
def wp_12_valueAt (v1 : Int) (v2 : Int) (v3 : Int) (C : jC) (post : Int → Prop) : Prop :=
 wp_12_listOf v1 C (fun x1 =>
 wp_12_keyAt x1 v2 C (fun x5 =>
 wp_12_cellOf x5 v3 C (fun x9 =>
 post x9)))
def wp_12_replace_91 (v1 : Int) (v2 : Int) (v3 : Int) (v4 : Int) (post : Int → jC → Prop) (k91 : Int → jC → Prop) (v5 : Int) (C : jC) : Prop :=
 wp_12_listOf v1 C (fun x9 =>
 wp_12_size x9 C (fun x13 =>
 (if x13 ≤ v5 then
 (wp_12_isEdit v1 C (fun x18 C19 =>
 post x18 C19))
 else
 (wp_12_valueAt v1 v5 v2 C (fun x22 =>
 (if x22 = v3 then
 (wp_12_listOf v1 C (fun x27 =>
 wp_12_keyAt x27 v5 C (fun x31 =>
 wp_12_alters v1 x31 v2 v4 C (fun C36 =>
 k91 (v5 + 1) C36))))
 else
 (k91 (v5 + 1) C)))))))
def wp_12_replace_67 (v1 : Int) (v2 : Int) (v3 : Int) (v4 : Int) (C : jC) (post : Int → jC → Prop) : Prop :=
 wp_12_throwsIf 1 3 C (fun x1 C2 =>
 (if x1 = 0 then
 (jL2 (wp_12_replace_91 v1 v2 v3 v4 post) 0 (jU C2 352 0 0))
 else
 (post 0 C2)))
def wp_12_replace_26 (s0 : Int) (v1 : Int) (v2 : Int) (v3 : Int) (v4 : Int) (C : jC) (post : Int → jC → Prop) : Prop :=
 wp_12_throwsIf s0 1 C (fun x41 C42 =>
 (if x41 = 0 then
 (wp_12_isHidden v1 v2 C42 (fun x46 =>
 wp_12_throwsIf x46 2 C42 (fun x50 C51 =>
 (if x50 = 0 then
 (wp_12_isNone v2 v3 C51 (fun x55 =>
 (if x55 = 0 then
 (wp_12_isNone v2 v4 C51 (fun x60 =>
 (if x60 = 0 then
 (wp_12_throwsIf 0 3 C51 (fun x65 C66 =>
 (if x65 = 0 then
 (jL2 (wp_12_replace_91 v1 v2 v3 v4 post) 0 (jU C66 352 0 0))
 else
 (post 0 C66))))
 else
 (wp_12_replace_67 v1 v2 v3 v4 C51 post))))
 else
 (wp_12_replace_67 v1 v2 v3 v4 C51 post))))
 else
 (post 0 C51)))))
 else
 (post 0 C42)))
def wp_12_replace (v1 : Int) (v2 : Int) (v3 : Int) (v4 : Int) (C : jC) (post : Int → jC → Prop) : Prop :=
 wp_12_noView v1 (jU C 345 0 0) (fun x106 =>
 (if x106 = 0 then
 (wp_12_noColumn v2 (jU C 345 0 0) (fun x111 =>
 (if x111 = 0 then
 (wp_12_replace_26 0 v1 v2 v3 v4 (jU C 345 0 0) post)
 else
 (wp_12_replace_26 1 v1 v2 v3 v4 (jU C 345 0 0) post))))
 else
 (wp_12_replace_26 1 v1 v2 v3 v4 (jU C 345 0 0) post)))
def wp_12_swap_41 (s0 : Int) (v1 : Int) (v2 : Int) (v3 : Int) (v4 : Int) (C : jC) (post : Int → jC → Prop) : Prop :=
 wp_12_throwsIf s0 2 C (fun x1 C2 =>
 (if x1 = 0 then
 (wp_12_isHidden v1 v4 C2 (fun x6 =>
 wp_12_throwsIf x6 3 C2 (fun x10 C11 =>
 (if x10 = 0 then
 (wp_12_valueAt v1 v2 v4 (jU C11 352 0 0) (fun x18 =>
 wp_12_valueAt v1 v3 v4 (jU C11 352 0 0) (fun x22 =>
 wp_12_listOf v1 (jU C11 352 0 0) (fun x26 =>
 wp_12_keyAt x26 v2 (jU C11 352 0 0) (fun x30 =>
 wp_12_alters v1 x30 v4 x22 (jU C11 352 0 0) (fun C35 =>
 wp_12_listOf v1 C35 (fun x38 =>
 wp_12_keyAt x38 v3 C35 (fun x42 =>
 wp_12_alters v1 x42 v4 x18 C35 (fun C47 =>
 wp_12_isEdit v1 C47 (fun x50 C51 =>
 post x50 C51))))))))))
 else
 (post 0 C11)))))
 else
 (post 0 C2)))
def wp_12_swap (v1 : Int) (v2 : Int) (v3 : Int) (v4 : Int) (C : jC) (post : Int → jC → Prop) : Prop :=
 wp_12_noCell v1 v2 v4 (jU C 345 0 0) (fun x55 C56 =>
 (if x55 = 0 then
 (wp_12_noPlace v1 v3 C56 (fun x60 =>
 wp_12_throwsIf x60 1 C56 (fun x64 C65 =>
 (if x64 = 0 then
 ((if v2 = v3 then
 (wp_12_swap_41 1 v1 v2 v3 v4 C65 post)
 else
 (wp_12_swap_41 0 v1 v2 v3 v4 C65 post)))
 else
 (post 0 C65)))))
 else
 (post 0 C56)))
def wp_12_seenFrom_2 (v1 : Int) (C : jC) (post : Int → Prop) (k2 : Int → Prop) (v3 : Int) : Prop :=
 wp_12_columns C (fun x1 =>
 (if x1 ≤ v3 then
 (post v3)
 else
 (wp_12_isHidden v1 v3 C (fun x6 =>
 (if x6 = 0 then
 (post v3)
 else
 (k2 (v3 + 1)))))))
def wp_12_seenFrom (v1 : Int) (v2 : Int) (C : jC) (post : Int → Prop) : Prop :=
 jL1 (wp_12_seenFrom_2 v1 C post) v2
def wp_12_readGrid_14 (v1 : Int) (v3 : Int) (post : Int → jC → Prop) (k14 : Int → Int → jC → Prop) (v4 : Int) (v5 : Int) (C : jC) : Prop :=
 wp_12_blanks C (fun C3 =>
 wp_12_columns C3 (fun x6 =>
 (if x6 ≤ v5 then
 (post 0 C3)
 else
 (wp_12_aValue v5 C3 (fun x11 C12 =>
 (if x11 = 0 then
 (post 0 C12)
 else
 ((0 ≤ ((v3 + 1) + v4) ∧
 ((v3 + 1) + v4) < 72 ∧
 wp_12_seenFrom v1 (v5 + 1) (jU C12 353 ((v3 + 1) + v4) (C12 345 10)) (fun x20 =>
 wp_12_sign 44 (jU C12 353 ((v3 + 1) + v4) (C12 345 10)) (fun x24 C25 =>
 (if x24 = 0 then
 ((0 ≤ v3 ∧
 v3 < 72 ∧
 jRng (v4 + 1) ∧
 jRng (((jU C25 353 v3 (v4 + 1)) 345 16) + 1) ∧
 post 1 (jU (jU C25 353 v3 (v4 + 1)) 345 16 (((jU C25 353 v3 (v4 + 1)) 345 16) + 1))))
 else
 ((jRng (v4 + 1) ∧
 k14 (v4 + 1) x20 C25)))))))))))))
def wp_12_readGrid (v1 : Int) (v2 : Int) (C : jC) (post : Int → jC → Prop) : Prop :=
 (jRng (6 * (C 345 16)) ∧
 jL3 (wp_12_readGrid_14 v1 (6 * (C 345 16)) post) 0 v2 C)
def wp_12_readGrids_5 (v1 : Int) (v2 : Int) (post : Int → jC → Prop) (k5 : jC → Prop) (C : jC) : Prop :=
 wp_12_blanks C (fun C3 =>
 (if (C3 345 16) = 12 then
 (post 0 C3)
 else
 (wp_12_readGrid v1 v2 C3 (fun x7 C8 =>
 (if x7 = 0 then
 (post 0 C8)
 else
 (wp_12_sign 59 C8 (fun x12 C13 =>
 (if x12 = 0 then
 ((if (C13 345 7) = (C13 345 8) then
 (post 1 C13)
 else
 (post 0 C13)))
 else
 (k5 C13)))))))))
def wp_12_readGrids (v1 : Int) (v2 : Int) (C : jC) (post : Int → jC → Prop) : Prop :=
 jL1 (wp_12_readGrids_5 v1 v2 post) (jU C 345 16 0)
def wp_12_isPasted_6 (v1 : Int) (v2 : Int) (v4 : Int) (post : jC → Prop) (k6 : Int → Int → jC → Prop) (v5 : Int) (v6 : Int) (C : jC) : Prop :=
 (0 ≤ (6 * v4) ∧
 (6 * v4) < 72 ∧
 (if (C 353 (6 * v4)) ≤ v6 then
 (post C)
 else
 ((0 ≤ (((6 * v4) + 1) + v6) ∧
 (((6 * v4) + 1) + v6) < 72 ∧
 wp_12_alters v1 v2 v5 (C 353 (((6 * v4) + 1) + v6)) C (fun C7 =>
 (jRng (v5 + 1) ∧
 wp_12_seenFrom v1 (v5 + 1) C7 (fun x11 =>
 k6 x11 (v6 + 1) C7)))))))
def wp_12_isPasted (v1 : Int) (v2 : Int) (v3 : Int) (v4 : Int) (C : jC) (post : jC → Prop) : Prop :=
 jL3 (wp_12_isPasted_6 v1 v2 v4 post) v3 0 C
def wp_12_paste_182 (v1 : Int) (v2 : Int) (v3 : Int) (v5 : Int) (v6 : Int) (v7 : Int) (C : jC) (post : Int → jC → Prop) (k139 : Int → jC → Prop) : Prop :=
 wp_12_listOf v1 C (fun x11 =>
 (jRng (v2 + v7) ∧
 wp_12_keyAt x11 (v2 + v7) C (fun x16 =>
 wp_12_isPasted v1 x16 v3 v7 C (fun C21 =>
 (jRng (v7 + 1) ∧
 k139 (v7 + 1) C21)))))
def wp_12_paste_226 (v1 : Int) (v7 : Int) (post : Int → jC → Prop) (k212 : Int → jC → Prop) (k226 : Int → jC → Prop) (v8 : Int) (C : jC) : Prop :=
 (if 4 ≤ v8 then
 ((jRng (v7 + 1) ∧
 k212 (v7 + 1) C))
 else
 ((if v8 = v1 then
 (k226 (v8 + 1) C)
 else
 (wp_12_isFit v8 v7 C (fun x37 =>
 (if x37 = 0 then
 (k226 (v8 + 1) C)
 else
 (wp_12_listOf v8 C (fun x43 =>
 wp_12_putsLast x43 v7 C (fun C48 =>
 k226 (v8 + 1) C48)))))))))
def wp_12_paste_212 (v1 : Int) (post : Int → jC → Prop) (k212 : Int → jC → Prop) (v7 : Int) (C : jC) : Prop :=
 (if (C 346 2) ≤ v7 then
 (wp_12_isEdit v1 C (fun x29 C30 =>
 post x29 C30))
 else
 (jL2 (wp_12_paste_226 v1 v7 post k212) 0 C))
def wp_12_paste_139 (v1 : Int) (v2 : Int) (v3 : Int) (v5 : Int) (v6 : Int) (post : Int → jC → Prop) (k139 : Int → jC → Prop) (v7 : Int) (C : jC) : Prop :=
 (if (C 345 16) ≤ v7 then
 (jL2 (wp_12_paste_212 v1 post) v6 C)
 else
 ((jRng (v2 + v7) ∧
 (if (v2 + v7) < v5 then
 (wp_12_paste_182 v1 v2 v3 v5 v6 v7 C post k139)
 else
 (wp_12_comes C (fun x54 C55 =>
 wp_12_putsLast 273 x54 C55 (fun C59 =>
 wp_12_listOf v1 C59 (fun x62 =>
 wp_12_putsLast x62 x54 C59 (fun C67 =>
 wp_12_paste_182 v1 v2 v3 v5 v6 v7 C67 post k139)))))))))
def wp_12_paste_112 (s0 : Int) (v1 : Int) (v2 : Int) (v3 : Int) (v5 : Int) (C : jC) (post : Int → jC → Prop) : Prop :=
 wp_12_throwsIf s0 4 C (fun x1 C2 =>
 (if x1 = 0 then
 (jL2 (wp_12_paste_139 v1 v2 v3 v5 ((jU C2 352 0 0) 346 2) post) 0 (jU C2 352 0 0))
 else
 (post 0 C2)))
def wp_12_paste_76 (s0 : Int) (v1 : Int) (v2 : Int) (v3 : Int) (v5 : Int) (C : jC) (post : Int → jC → Prop) : Prop :=
 wp_12_throwsIf s0 3 C (fun x70 C71 =>
 (if x70 = 0 then
 (wp_12_rows C71 (fun x75 =>
 (jRng ((v2 + (C71 345 16)) - v5) ∧
 jRng (x75 + (max 0 ((v2 + (C71 345 16)) - v5))) ∧
 (if (x75 + (max 0 ((v2 + (C71 345 16)) - v5))) ≤ 24 then
 (wp_12_paste_112 0 v1 v2 v3 v5 C71 post)
 else
 (wp_12_paste_112 1 v1 v2 v3 v5 C71 post)))))
 else
 (post 0 C71)))
def wp_12_paste (v1 : Int) (v2 : Int) (v3 : Int) (C : jC) (post : Int → jC → Prop) : Prop :=
 wp_12_uses C (fun C84 =>
 wp_12_noCell v1 v2 v3 C84 (fun x87 C88 =>
 (if x87 = 0 then
 (wp_12_isHidden v1 v3 C88 (fun x92 =>
 wp_12_throwsIf x92 2 C88 (fun x96 C97 =>
 (if x96 = 0 then
 (wp_12_readGrids v1 v3 C97 (fun x101 C102 =>
 (if x101 = 0 then
 (wp_12_listOf v1 (jU C102 345 11 (C102 345 9)) (fun x107 =>
 wp_12_size x107 (jU C102 345 11 (C102 345 9)) (fun x111 =>
 (if x101 = 0 then
 (wp_12_paste_76 1 v1 v2 v3 x111 (jU C102 345 11 (C102 345 9)) post)
 else
 (wp_12_paste_76 0 v1 v2 v3 x111 (jU C102 345 11 (C102 345 9)) post)))))
 else
 (wp_12_listOf v1 (jU C102 345 11 (-1)) (fun x117 =>
 wp_12_size x117 (jU C102 345 11 (-1)) (fun x121 =>
 (if x101 = 0 then
 (wp_12_paste_76 1 v1 v2 v3 x121 (jU C102 345 11 (-1)) post)
 else
 (wp_12_paste_76 0 v1 v2 v3 x121 (jU C102 345 11 (-1)) post))))))))
 else
 (post 0 C97)))))
 else
 (post 0 C88))))
def wp_12_stands (v1 : Int) (C : jC) (post : Int → Prop) : Prop :=
 (0 ≤ v1 ∧
 v1 < 8954 ∧
 wp_12_rowOf (C 346 v1) C (fun x3 =>
 (if x3 = (-1) then
 (post 0)
 else
 (((v1 + 1) < 8954 ∧
 0 ≤ ((x3 + 1) + (C 346 (v1 + 1))) ∧
 ((x3 + 1) + (C 346 (v1 + 1))) < 8954 ∧
 (v1 + 3) < 8954 ∧
 (if (C 346 ((x3 + 1) + (C 346 (v1 + 1)))) = (C 346 (v1 + 3)) then
 (post 1)
 else
 (post 0)))))))
def wp_12_firstBar_32 (v1 : Int) (v2 : Int) (C : jC) (post : Int → Prop) : Prop :=
 (0 ≤ v1 ∧
 v1 < 8954 ∧
 (if (C 346 v1) ≤ v2 then
 (post (-1))
 else
 ((jRng ((v1 + 1) + (4 * v2)) ∧
 post ((v1 + 1) + (4 * v2))))))
def wp_12_firstBar_2 (v1 : Int) (C : jC) (post : Int → Prop) (k2 : Int → Prop) (v2 : Int) : Prop :=
 (0 ≤ v1 ∧
 v1 < 8954 ∧
 (if (C 346 v1) ≤ v2 then
 (wp_12_firstBar_32 v1 v2 C post)
 else
 ((jRng ((v1 + 1) + (4 * v2)) ∧
 wp_12_stands ((v1 + 1) + (4 * v2)) C (fun x9 =>
 (if x9 = 0 then
 (wp_12_firstBar_32 v1 v2 C post)
 else
 (k2 (v2 + 1))))))))
def wp_12_firstBar (v1 : Int) (C : jC) (post : Int → Prop) : Prop :=
 jL1 (wp_12_firstBar_2 v1 C post) 0
def wp_12_barred (v1 : Int) (C : jC) (post : Int → jC → Prop) : Prop :=
 wp_12_noView v1 (jU C 345 0 0) (fun x2 =>
 wp_12_throwsIf x2 1 (jU C 345 0 0) (fun x6 C7 =>
 (if x6 = 0 then
 (wp_12_viewAt v1 185 C7 (fun x11 =>
 (0 ≤ x11 ∧
 x11 < 8954 ∧
 (if (C7 346 x11) = 0 then
 (post (-1) C7)
 else
 ((jRng ((C7 346 x11) - 1) ∧
 wp_12_editAt v1 ((C7 346 x11) - 1) C7 (fun x20 =>
 wp_12_firstBar x20 C7 (fun x24 =>
 (if x24 = (-1) then
 (post (-1) C7)
 else
 ((0 ≤ x24 ∧
 x24 < 8954 ∧
 post (C7 346 x24) C7)))))))))))
 else
 (post 0 C7))))
def wp_12_undo_99 (v1 : Int) (v3 : Int) (post : Int → jC → Prop) (k99 : Int → jC → Prop) (v4 : Int) (C : jC) : Prop :=
 (0 ≤ v3 ∧
 v3 < 8954 ∧
 (if (C 346 v3) ≤ v4 then
 (post (C 352 0) C)
 else
 ((0 ≤ ((v3 + 1) + (4 * v4)) ∧
 ((v3 + 1) + (4 * v4)) < 8954 ∧
 (((v3 + 1) + (4 * v4)) + 1) < 8954 ∧
 (((v3 + 1) + (4 * v4)) + 2) < 8954 ∧
 wp_12_alters v1 (C 346 ((v3 + 1) + (4 * v4))) (C 346 (((v3 + 1) + (4 * v4)) + 1)) (C 346 (((v3 + 1) + (4 * v4)) + 2)) C (fun C33 =>
 k99 (v4 + 1) C33)))))
def wp_12_undo_57 (s0 : Int) (v1 : Int) (v2 : Int) (C : jC) (post : Int → jC → Prop) : Prop :=
 wp_12_throwsIf s0 2 C (fun x1 C2 =>
 (if x1 = 0 then
 ((jRng (v2 - 1) ∧
 wp_12_editAt v1 (v2 - 1) C2 (fun x7 =>
 wp_12_viewAt v1 185 C2 (fun x11 =>
 (0 ≤ x11 ∧
 x11 < 8954 ∧
 jL2 (wp_12_undo_99 v1 x7 post) 0 (jU (jU C2 346 x11 (v2 - 1)) 352 0 0))))))
 else
 (post 0 C2)))
def wp_12_undo (v1 : Int) (C : jC) (post : Int → jC → Prop) : Prop :=
 wp_12_noView v1 (jU C 345 0 0) (fun x38 =>
 wp_12_throwsIf x38 1 (jU C 345 0 0) (fun x42 C43 =>
 (if x42 = 0 then
 (wp_12_viewAt v1 185 C43 (fun x47 =>
 (0 ≤ x47 ∧
 x47 < 8954 ∧
 (if (C43 346 x47) = 0 then
 (wp_12_undo_57 1 v1 (C43 346 x47) C43 post)
 else
 ((jRng ((C43 346 x47) - 1) ∧
 wp_12_editAt v1 ((C43 346 x47) - 1) C43 (fun x55 =>
 wp_12_firstBar x55 C43 (fun x59 =>
 (if x59 = (-1) then
 (wp_12_undo_57 0 v1 (C43 346 x47) C43 post)
 else
 (wp_12_undo_57 1 v1 (C43 346 x47) C43 post))))))))))
 else
 (post 0 C43))))
def wp_12_add_131 (v1 : Int) (v5 : Int) (post : Int → jC → Prop) (k131 : Int → jC → Prop) (v6 : Int) (C : jC) : Prop :=
 (if 4 ≤ v6 then
 (post v5 C)
 else
 ((if v6 = v1 then
 (k131 (v6 + 1) C)
 else
 (wp_12_isFit v6 v5 C (fun x17 =>
 (if x17 = 0 then
 (k131 (v6 + 1) C)
 else
 (wp_12_listOf v6 C (fun x23 =>
 wp_12_putsLast x23 v5 C (fun C28 =>
 k131 (v6 + 1) C28)))))))))
def wp_12_add_99 (s0 : Int) (v1 : Int) (v2 : Int) (v3 : Int) (C : jC) (post : Int → jC → Prop) : Prop :=
 wp_12_comes C (fun x1 C2 =>
 wp_12_puts 273 s0 x1 C2 (fun C6 =>
 (jRng (v2 + 1) ∧
 wp_12_puts v3 (v2 + 1) x1 C6 (fun C11 =>
 jL2 (wp_12_add_131 v1 x1 post) 0 C11))))
def wp_12_add_61 (s0 : Int) (v1 : Int) (v2 : Int) (C : jC) (post : Int → jC → Prop) : Prop :=
 wp_12_throwsIf s0 2 C (fun x32 C33 =>
 (if x32 = 0 then
 (wp_12_listOf v1 C33 (fun x37 =>
 (if v2 = (-1) then
 (wp_12_add_99 0 v1 v2 x37 C33 post)
 else
 (wp_12_keyAt x37 v2 C33 (fun x42 =>
 wp_12_placeIn 273 x42 C33 (fun x46 =>
 (jRng (x46 + 1) ∧
 wp_12_add_99 (x46 + 1) v1 v2 x37 C33 post)))))))
 else
 (post 0 C33)))
def wp_12_add_32 (s0 : Int) (v1 : Int) (v2 : Int) (C : jC) (post : Int → jC → Prop) : Prop :=
 wp_12_throwsIf s0 1 C (fun x51 C52 =>
 (if x51 = 0 then
 (wp_12_columns C52 (fun x56 =>
 (if x56 = 0 then
 (wp_12_add_61 1 v1 v2 C52 post)
 else
 (wp_12_rows C52 (fun x61 =>
 (if x61 = 24 then
 (wp_12_add_61 1 v1 v2 C52 post)
 else
 (wp_12_add_61 0 v1 v2 C52 post)))))))
 else
 (post 0 C52)))
def wp_12_add (v1 : Int) (v2 : Int) (C : jC) (post : Int → jC → Prop) : Prop :=
 wp_12_noView v1 (jU C 345 0 0) (fun x67 =>
 (if x67 = 0 then
 ((if v2 = (-1) then
 (wp_12_add_32 0 v1 v2 (jU C 345 0 0) post)
 else
 (wp_12_noPlace v1 v2 (jU C 345 0 0) (fun x73 =>
 (if x73 = 0 then
 (wp_12_add_32 0 v1 v2 (jU C 345 0 0) post)
 else
 (wp_12_add_32 1 v1 v2 (jU C 345 0 0) post))))))
 else
 (wp_12_add_32 1 v1 v2 (jU C 345 0 0) post)))
def wp_12_takes_16 (v1 : Int) (post : jC → Prop) (k16 : Int → jC → Prop) (v4 : Int) (C : jC) : Prop :=
 wp_12_size v1 C (fun x6 =>
 (jRng (v4 + 1) ∧
 (if x6 ≤ (v4 + 1) then
 ((0 ≤ v1 ∧
 v1 < 8954 ∧
 jRng ((C 346 v1) - 1) ∧
 post (jU C 346 v1 ((C 346 v1) - 1))))
 else
 ((0 ≤ ((v1 + 2) + v4) ∧
 ((v1 + 2) + v4) < 8954 ∧
 0 ≤ ((v1 + 1) + v4) ∧
 ((v1 + 1) + v4) < 8954 ∧
 k16 (v4 + 1) (jU C 346 ((v1 + 1) + v4) (C 346 ((v1 + 2) + v4))))))))
def wp_12_takes (v1 : Int) (v2 : Int) (C : jC) (post : jC → Prop) : Prop :=
 wp_12_placeIn v1 v2 C (fun x1 =>
 (if x1 = (-1) then
 (post C)
 else
 (jL2 (wp_12_takes_16 v1 post) x1 C)))
def wp_12_drop_57 (v3 : Int) (post : Int → jC → Prop) (k57 : Int → jC → Prop) (v4 : Int) (C : jC) : Prop :=
 (if 4 ≤ v4 then
 (wp_12_rowOf v3 C (fun x19 =>
 (0 ≤ x19 ∧
 x19 < 8954 ∧
 post v3 (jU C 346 x19 (-1)))))
 else
 (wp_12_listOf v4 C (fun x26 =>
 wp_12_takes x26 v3 C (fun C31 =>
 k57 (v4 + 1) C31))))
def wp_12_drop_27 (s0 : Int) (v1 : Int) (v2 : Int) (C : jC) (post : Int → jC → Prop) : Prop :=
 wp_12_throwsIf s0 1 C (fun x1 C2 =>
 (if x1 = 0 then
 (wp_12_listOf v1 C2 (fun x6 =>
 wp_12_keyAt x6 v2 C2 (fun x10 =>
 wp_12_takes 273 x10 C2 (fun C15 =>
 jL2 (wp_12_drop_57 x10 post) 0 C15))))
 else
 (post 0 C2)))
def wp_12_drop (v1 : Int) (v2 : Int) (C : jC) (post : Int → jC → Prop) : Prop :=
 wp_12_noView v1 (jU C 345 0 0) (fun x36 =>
 (if x36 = 0 then
 (wp_12_noPlace v1 v2 (jU C 345 0 0) (fun x41 =>
 (if x41 = 0 then
 (wp_12_drop_27 0 v1 v2 (jU C 345 0 0) post)
 else
 (wp_12_drop_27 1 v1 v2 (jU C 345 0 0) post))))
 else
 (wp_12_drop_27 1 v1 v2 (jU C 345 0 0) post)))
def wp_12_drag_54 (s0 : Int) (v1 : Int) (v2 : Int) (v3 : Int) (C : jC) (post : Int → jC → Prop) : Prop :=
 wp_12_throwsIf s0 2 C (fun x1 C2 =>
 (if x1 = 0 then
 (wp_12_listOf v1 C2 (fun x6 =>
 wp_12_keyAt x6 v2 C2 (fun x10 =>
 wp_12_takes x6 x10 C2 (fun C15 =>
 wp_12_puts x6 v3 x10 C15 (fun C19 =>
 wp_12_takes 273 x10 C19 (fun C23 =>
 (if v3 ≤ 0 then
 (wp_12_keyAt x6 1 C23 (fun x27 =>
 wp_12_placeIn 273 x27 C23 (fun x31 =>
 wp_12_puts 273 x31 x10 C23 (fun C36 =>
 post x10 C36))))
 else
 (wp_12_keyAt x6 (v3 - 1) C23 (fun x40 =>
 wp_12_placeIn 273 x40 C23 (fun x44 =>
 (jRng (x44 + 1) ∧
 wp_12_puts 273 (x44 + 1) x10 C23 (fun C50 =>
 post x10 C50))))))))))))
 else
 (post 0 C2)))
def wp_12_drag_31 (v1 : Int) (v2 : Int) (v3 : Int) (C : jC) (post : Int → jC → Prop) : Prop :=
 wp_12_throwsIf 1 1 C (fun x53 C54 =>
 (if x53 = 0 then
 ((if v2 = v3 then
 (wp_12_drag_54 1 v1 v2 v3 C54 post)
 else
 (wp_12_drag_54 0 v1 v2 v3 C54 post)))
 else
 (post 0 C54)))
def wp_12_drag (v1 : Int) (v2 : Int) (v3 : Int) (C : jC) (post : Int → jC → Prop) : Prop :=
 wp_12_noView v1 (jU C 345 0 0) (fun x60 =>
 (if x60 = 0 then
 (wp_12_noPlace v1 v2 (jU C 345 0 0) (fun x65 =>
 (if x65 = 0 then
 (wp_12_noPlace v1 v3 (jU C 345 0 0) (fun x70 =>
 (if x70 = 0 then
 (wp_12_throwsIf 0 1 (jU C 345 0 0) (fun x75 C76 =>
 (if x75 = 0 then
 ((if v2 = v3 then
 (wp_12_drag_54 1 v1 v2 v3 C76 post)
 else
 (wp_12_drag_54 0 v1 v2 v3 C76 post)))
 else
 (post 0 C76))))
 else
 (wp_12_drag_31 v1 v2 v3 (jU C 345 0 0) post))))
 else
 (wp_12_drag_31 v1 v2 v3 (jU C 345 0 0) post))))
 else
 (wp_12_drag_31 v1 v2 v3 (jU C 345 0 0) post)))
def wp_12_kind (v1 : Int) (C : jC) (post : Int → jC → Prop) : Prop :=
 wp_12_noColumn v1 (jU C 345 0 0) (fun x2 =>
 wp_12_throwsIf x2 1 (jU C 345 0 0) (fun x6 C7 =>
 (if x6 = 0 then
 ((0 ≤ (4 + v1) ∧
 (4 + v1) < 8954 ∧
 post (C7 346 (4 + v1)) C7))
 else
 (post 0 C7))))
def wp_12_cell (v1 : Int) (v2 : Int) (C : jC) (post : Int → jC → Prop) : Prop :=
 wp_12_rowOf v1 (jU C 345 0 0) (fun x2 =>
 (if x2 = (-1) then
 (wp_12_throwsIf 1 1 (jU C 345 0 0) (fun x7 C8 =>
 (if x7 = 0 then
 (wp_12_cellOf v1 v2 C8 (fun x12 =>
 post x12 C8))
 else
 (post 0 C8))))
 else
 (wp_12_noColumn v2 (jU C 345 0 0) (fun x16 =>
 (if x16 = 0 then
 (wp_12_throwsIf 0 1 (jU C 345 0 0) (fun x21 C22 =>
 (if x21 = 0 then
 (wp_12_cellOf v1 v2 C22 (fun x26 =>
 post x26 C22))
 else
 (post 0 C22))))
 else
 (wp_12_throwsIf 1 1 (jU C 345 0 0) (fun x30 C31 =>
 (if x30 = 0 then
 (wp_12_cellOf v1 v2 C31 (fun x35 =>
 post x35 C31))
 else
 (post 0 C31)))))))))
def wp_12_order (v1 : Int) (C : jC) (post : Int → jC → Prop) : Prop :=
 wp_12_rows (jU C 345 0 0) (fun x2 =>
 (jRng (x2 - 1) ∧
 wp_12_in v1 0 (x2 - 1) (jU C 345 0 0) (fun x7 =>
 (if x7 = 0 then
 (post (-1) (jU C 345 0 0))
 else
 (wp_12_keyAt 273 v1 (jU C 345 0 0) (fun x12 =>
 post x12 (jU C 345 0 0)))))))
def wp_12_row (v1 : Int) (v2 : Int) (C : jC) (post : Int → jC → Prop) : Prop :=
 wp_12_noView v1 (jU C 345 0 0) (fun x2 =>
 wp_12_throwsIf x2 1 (jU C 345 0 0) (fun x6 C7 =>
 (if x6 = 0 then
 (wp_12_noPlace v1 v2 C7 (fun x11 =>
 (if x11 = 0 then
 (wp_12_listOf v1 C7 (fun x16 =>
 wp_12_keyAt x16 v2 C7 (fun x20 =>
 post x20 C7)))
 else
 (post (-1) C7))))
 else
 (post 0 C7))))
def wp_12_noKey (v1 : Int) (v2 : Int) (C : jC) (post : Int → jC → Prop) : Prop :=
 wp_12_noView v1 (jU C 345 0 0) (fun x2 =>
 (if x2 = 0 then
 (wp_12_rowOf v2 (jU C 345 0 0) (fun x7 =>
 (if x7 = (-1) then
 (wp_12_throwsIf 1 1 (jU C 345 0 0) (fun x12 C13 =>
 ((x12 = 0 ∨ x12 = 1) ∧
 post x12 C13)))
 else
 (wp_12_throwsIf 0 1 (jU C 345 0 0) (fun x17 C18 =>
 ((x17 = 0 ∨ x17 = 1) ∧
 post x17 C18))))))
 else
 (wp_12_throwsIf 1 1 (jU C 345 0 0) (fun x22 C23 =>
 ((x22 = 0 ∨ x22 = 1) ∧
 post x22 C23)))))
def wp_12_place (v1 : Int) (v2 : Int) (C : jC) (post : Int → jC → Prop) : Prop :=
 wp_12_noKey v1 v2 C (fun x1 C2 =>
 (if x1 = 0 then
 (wp_12_listOf v1 C2 (fun x6 =>
 wp_12_placeIn x6 v2 C2 (fun x10 =>
 post x10 C2)))
 else
 (post 0 C2)))
def wp_12_about_110 (v1 : Int) (C : jC) (post : Int → jC → Prop) (k110 : Int → Int → Prop) (v3 : Int) (v4 : Int) : Prop :=
 (if 5 ≤ v4 then
 (post v3 C)
 else
 (wp_12_filterAt v1 v4 C (fun x17 =>
 (0 ≤ x17 ∧
 x17 < 8954 ∧
 (if (C 346 x17) ≤ 0 then
 (k110 (jOr v3 0) (v4 + 1))
 else
 (k110 (jOr v3 (jShl 1 v4)) (v4 + 1)))))))
def wp_12_about_32 (s0 : Int) (v1 : Int) (v2 : Int) (C : jC) (post : Int → jC → Prop) : Prop :=
 wp_12_throwsIf s0 2 C (fun x1 C2 =>
 (if x1 = 0 then
 ((if v2 = 0 then
 (wp_12_listOf v1 C2 (fun x38 =>
 wp_12_size x38 C2 (fun x42 =>
 post x42 C2)))
 else
 (if v2 = 1 then
 (wp_12_viewAt v1 25 C2 (fun x32 =>
 (0 ≤ x32 ∧
 x32 < 8954 ∧
 post (C2 346 x32) C2)))
 else
 (if v2 = 2 then
 (wp_12_viewAt v1 29 C2 (fun x26 =>
 (0 ≤ x26 ∧
 x26 < 8954 ∧
 post (C2 346 x26) C2)))
 else
 (if v2 = 3 then
 (jL2 (wp_12_about_110 v1 C2 post) 0 0)
 else
 (wp_12_viewAt v1 185 C2 (fun x6 =>
 (0 ≤ x6 ∧
 x6 < 8954 ∧
 post (C2 346 x6) C2))))))))
 else
 (post 0 C2)))
def wp_12_about (v1 : Int) (v2 : Int) (C : jC) (post : Int → jC → Prop) : Prop :=
 wp_12_noView v1 (jU C 345 0 0) (fun x47 =>
 wp_12_throwsIf x47 1 (jU C 345 0 0) (fun x51 C52 =>
 (if x51 = 0 then
 (wp_12_in v2 0 4 C52 (fun x56 =>
 (if x56 = 0 then
 (wp_12_about_32 1 v1 v2 C52 post)
 else
 (wp_12_about_32 0 v1 v2 C52 post))))
 else
 (post 0 C52))))
def wp_12_sorts (v1 : Int) (v2 : Int) (C : jC) (post : Int → jC → Prop) : Prop :=
 wp_12_noView v1 (jU C 345 0 0) (fun x2 =>
 wp_12_throwsIf x2 1 (jU C 345 0 0) (fun x6 C7 =>
 (if x6 = 0 then
 (wp_12_viewAt v1 25 C7 (fun x11 =>
 (0 ≤ x11 ∧
 x11 < 8954 ∧
 jRng ((C7 346 x11) - 1) ∧
 wp_12_in v2 0 ((C7 346 x11) - 1) C7 (fun x18 =>
 (if x18 = 0 then
 (post (-1) C7)
 else
 ((jRng (26 + v2) ∧
 wp_12_viewAt v1 (26 + v2) C7 (fun x24 =>
 (0 ≤ x24 ∧
 x24 < 8954 ∧
 post (C7 346 x24) C7)))))))))
 else
 (post 0 C7))))
def wp_12_fits (v1 : Int) (v2 : Int) (C : jC) (post : Int → jC → Prop) : Prop :=
 wp_12_noKey v1 v2 C (fun x1 C2 =>
 (if x1 = 0 then
 (wp_12_isFit v1 v2 C2 (fun x6 =>
 (if x6 = 0 then
 (post 0 C2)
 else
 (post 1 C2))))
 else
 (post 0 C2)))
def wp_12_why (v1 : Int) (v2 : Int) (C : jC) (post : Int → jC → Prop) : Prop :=
 wp_12_noKey v1 v2 C (fun x1 C2 =>
 (if x1 = 0 then
 (wp_12_whyNot v1 v2 C2 (fun x6 =>
 post x6 C2))
 else
 (post 0 C2)))
def wp_12_stale_23 (v1 : Int) (C : jC) (post : Int → jC → Prop) (k23 : Int → Int → Prop) (v2 : Int) (v3 : Int) : Prop :=
 wp_12_listOf v1 C (fun x11 =>
 wp_12_size x11 C (fun x15 =>
 (if x15 ≤ v3 then
 (post v2 C)
 else
 (wp_12_listOf v1 C (fun x20 =>
 wp_12_keyAt x20 v3 C (fun x24 =>
 wp_12_isFit v1 x24 C (fun x28 =>
 (if x28 = 0 then
 (k23 (jOr v2 (jShl 1 v3)) (v3 + 1))
 else
 (k23 (jOr v2 0) (v3 + 1))))))))))
def wp_12_stale (v1 : Int) (C : jC) (post : Int → jC → Prop) : Prop :=
 wp_12_noView v1 (jU C 345 0 0) (fun x2 =>
 wp_12_throwsIf x2 1 (jU C 345 0 0) (fun x6 C7 =>
 (if x6 = 0 then
 (jL2 (wp_12_stale_23 v1 C7 post) 0 0)
 else
 (post 0 C7))))
def wp_12_pending_23 (v1 : Int) (C : jC) (post : Int → jC → Prop) (k23 : Int → Int → Prop) (v2 : Int) (v3 : Int) : Prop :=
 wp_12_rows C (fun x11 =>
 (if x11 ≤ v3 then
 (post v2 C)
 else
 (wp_12_keyAt 273 v3 C (fun x16 =>
 wp_12_isFit v1 x16 C (fun x20 =>
 (if x20 = 0 then
 (k23 (jOr v2 0) (v3 + 1))
 else
 (wp_12_listOf v1 C (fun x26 =>
 wp_12_keyAt 273 v3 C (fun x30 =>
 wp_12_placeIn x26 x30 C (fun x34 =>
 (if x34 = (-1) then
 (k23 (jOr v2 (jShl 1 v3)) (v3 + 1))
 else
 (k23 (jOr v2 0) (v3 + 1)))))))))))))
def wp_12_pending (v1 : Int) (C : jC) (post : Int → jC → Prop) : Prop :=
 wp_12_noView v1 (jU C 345 0 0) (fun x2 =>
 wp_12_throwsIf x2 1 (jU C 345 0 0) (fun x6 C7 =>
 (if x6 = 0 then
 (jL2 (wp_12_pending_23 v1 C7 post) 0 0)
 else
 (post 0 C7))))
def wp_12_rankOf_2 (v1 : Int) (v2 : Int) (C : jC) (post : Int → Prop) (k2 : Int → Prop) (v3 : Int) : Prop :=
 (if v1 ≤ v3 then
 ((if v1 ≤ v3 then
 (post (-1))
 else
 (post v3)))
 else
 ((0 ≤ v3 ∧
 v3 < 25 ∧
 (if (C 351 v3) = v2 then
 ((if v1 ≤ v3 then
 (post (-1))
 else
 (post v3)))
 else
 (k2 (v3 + 1))))))
def wp_12_rankOf (v1 : Int) (v2 : Int) (C : jC) (post : Int → Prop) : Prop :=
 jL1 (wp_12_rankOf_2 v1 v2 C post) 0
def wp_12_rank (v1 : Int) (v2 : Int) (C : jC) (post : Int → jC → Prop) : Prop :=
 wp_12_noKey v1 v2 C (fun x1 C2 =>
 (if x1 = 0 then
 (wp_12_laysFresh v1 C2 (fun x6 C7 =>
 wp_12_rankOf x6 v2 C7 (fun x10 =>
 post x10 C7)))
 else
 (post 0 C2)))
def wp_12_moves_86 (v2 : Int) (v3 : Int) (v4 : Int) (v5 : Int) (v6 : Int) (v7 : Int) (post : Int → jC → Prop) (k39 : Int → Int → Int → jC → Prop) (k86 : Int → jC → Prop) (v8 : Int) (C : jC) : Prop :=
 (if v6 ≤ v8 then
 ((0 ≤ v6 ∧
 v6 < 24 ∧
 jRng ((C 354 v6) + 1) ∧
 k39 v4 (max v5 ((jU C 354 v6 ((C 354 v6) + 1)) 354 v6)) (v6 + 1) (jU C 354 v6 ((C 354 v6) + 1))))
 else
 ((0 ≤ v8 ∧
 v8 < 24 ∧
 v6 < 24 ∧
 (if (C 354 v8) ≤ (C 354 v6) then
 (k86 (v8 + 1) C)
 else
 (wp_12_keyAt v2 v8 C (fun x56 =>
 wp_12_rankOf v3 x56 C (fun x60 =>
 (if v7 ≤ x60 then
 (k86 (v8 + 1) C)
 else
 (k86 (v8 + 1) (jU C 354 v6 (C 354 v8)))))))))))
def wp_12_moves_39 (v2 : Int) (v3 : Int) (post : Int → jC → Prop) (k39 : Int → Int → Int → jC → Prop) (v4 : Int) (v5 : Int) (v6 : Int) (C : jC) : Prop :=
 wp_12_size v2 C (fun x19 =>
 (if x19 ≤ v6 then
 ((jRng (v4 - v5) ∧
 post (v4 - v5) C))
 else
 (wp_12_keyAt v2 v6 C (fun x25 =>
 wp_12_rankOf v3 x25 C (fun x29 =>
 (0 ≤ v6 ∧
 v6 < 24 ∧
 (if x29 = (-1) then
 (k39 v4 v5 (v6 + 1) (jU C 354 v6 0))
 else
 ((jRng (v4 + 1) ∧
 jL2 (wp_12_moves_86 v2 v3 (v4 + 1) v5 v6 x29 post k39) 0 (jU C 354 v6 0))))))))))
def wp_12_moves (v1 : Int) (C : jC) (post : Int → jC → Prop) : Prop :=
 wp_12_noView v1 (jU C 345 0 0) (fun x2 =>
 wp_12_throwsIf x2 1 (jU C 345 0 0) (fun x6 C7 =>
 (if x6 = 0 then
 (wp_12_listOf v1 C7 (fun x11 =>
 wp_12_laysFresh v1 C7 (fun x15 C16 =>
 jL4 (wp_12_moves_39 x11 x15 post) 0 0 0 C16)))
 else
 (post 0 C7))))
def wp_12_unlike_79 (v2 : Int) (v3 : Int) (v5 : Int) (C : jC) (post : Int → jC → Prop) (k63 : Int → Int → Prop) (k79 : Int → Int → Prop) (v4 : Int) (v6 : Int) : Prop :=
 wp_12_size v3 C (fun x22 =>
 (if x22 ≤ v6 then
 ((jRng (v5 + 1) ∧
 k63 v4 (v5 + 1)))
 else
 (wp_12_listOf v2 C (fun x28 =>
 wp_12_keyAt v3 v5 C (fun x32 =>
 wp_12_placeIn x28 x32 C (fun x36 =>
 wp_12_listOf v2 C (fun x40 =>
 wp_12_keyAt v3 v6 C (fun x44 =>
 wp_12_placeIn x40 x44 C (fun x48 =>
 (if x36 = (-1) then
 (k79 (v4 + 0) (v6 + 1))
 else
 ((if x48 = (-1) then
 (k79 (v4 + 0) (v6 + 1))
 else
 ((if x36 ≤ x48 then
 (k79 (v4 + 0) (v6 + 1))
 else
 ((jRng (v4 + 1) ∧
 k79 (v4 + 1) (v6 + 1)))))))))))))))))
def wp_12_unlike_63 (v2 : Int) (v3 : Int) (C : jC) (post : Int → jC → Prop) (k63 : Int → Int → Prop) (v4 : Int) (v5 : Int) : Prop :=
 wp_12_size v3 C (fun x16 =>
 (if x16 ≤ v5 then
 (post v4 C)
 else
 (jL2 (wp_12_unlike_79 v2 v3 v5 C post k63) v4 (v5 + 1))))
def wp_12_unlike_25 (s0 : Int) (v1 : Int) (v2 : Int) (C : jC) (post : Int → jC → Prop) : Prop :=
 wp_12_throwsIf s0 1 C (fun x1 C2 =>
 (if x1 = 0 then
 ((if v1 = v2 then
 (wp_12_throwsIf 1 2 C2 (fun x7 C8 =>
 (if x7 = 0 then
 (wp_12_listOf v1 C8 (fun x12 =>
 jL2 (wp_12_unlike_63 v2 x12 C8 post) 0 0))
 else
 (post 0 C8))))
 else
 (wp_12_throwsIf 0 2 C2 (fun x63 C64 =>
 (if x63 = 0 then
 (wp_12_listOf v1 C64 (fun x68 =>
 jL2 (wp_12_unlike_63 v2 x68 C64 post) 0 0))
 else
 (post 0 C64))))))
 else
 (post 0 C2)))
def wp_12_unlike (v1 : Int) (v2 : Int) (C : jC) (post : Int → jC → Prop) : Prop :=
 wp_12_noView v1 (jU C 345 0 0) (fun x120 =>
 (if x120 = 0 then
 (wp_12_noView v2 (jU C 345 0 0) (fun x125 =>
 (if x125 = 0 then
 (wp_12_unlike_25 0 v1 v2 (jU C 345 0 0) post)
 else
 (wp_12_unlike_25 1 v1 v2 (jU C 345 0 0) post))))
 else
 (wp_12_unlike_25 1 v1 v2 (jU C 345 0 0) post)))
def wp_12_byTried_38 (v2 : Int) (v3 : Int) (v4 : Int) (C : jC) (post : Int → Prop) : Prop :=
 (if v4 = 0 then
 (wp_12_placeIn 273 v2 C (fun x2 =>
 wp_12_placeIn 273 v3 C (fun x6 =>
 (if x2 ≤ x6 then
 (post (-1))
 else
 (post 1)))))
 else
 (post v4))
def wp_12_byTried_6 (v1 : Int) (v2 : Int) (v3 : Int) (C : jC) (post : Int → Prop) (k6 : Int → Int → Prop) (v4 : Int) (v5 : Int) : Prop :=
 (if v1 ≤ v5 then
 (wp_12_byTried_38 v2 v3 v4 C post)
 else
 ((if v4 = 0 then
 ((0 ≤ v5 ∧
 v5 < 2 ∧
 wp_12_bySort (C 355 v5) v2 v3 C (fun x15 =>
 k6 x15 (v5 + 1))))
 else
 (wp_12_byTried_38 v2 v3 v4 C post))))
def wp_12_byTried (v1 : Int) (v2 : Int) (v3 : Int) (C : jC) (post : Int → Prop) : Prop :=
 jL2 (wp_12_byTried_6 v1 v2 v3 C post) 0 0
def wp_12_isSorted_5 (v1 : Int) (v2 : Int) (C : jC) (post : Int → Prop) (k5 : Int → Int → Prop) (v3 : Int) (v4 : Int) : Prop :=
 wp_12_size v1 C (fun x1 =>
 (jRng (v4 + 1) ∧
 (if x1 ≤ (v4 + 1) then
 (((v3 = 0 ∨ v3 = 1) ∧
 post v3))
 else
 ((if v3 = 0 then
 (((v3 = 0 ∨ v3 = 1) ∧
 post v3))
 else
 (wp_12_keyAt v1 v4 C (fun x10 =>
 wp_12_keyAt v1 (v4 + 1) C (fun x14 =>
 wp_12_byTried v2 x10 x14 C (fun x18 =>
 (if 0 ≤ x18 then
 (k5 0 (v4 + 1))
 else
 (k5 1 (v4 + 1))))))))))))
def wp_12_isSorted (v1 : Int) (v2 : Int) (C : jC) (post : Int → Prop) : Prop :=
 jL2 (wp_12_isSorted_5 v1 v2 C post) 1 0
def wp_12_sortsTelling_59 (v1 : Int) (v2 : Int) (v3 : Int) (post : Int → jC → Prop) (k51 : Int → jC → Prop) (k59 : Int → jC → Prop) (v4 : Int) (C : jC) : Prop :=
 (if v2 ≤ v4 then
 ((jRng (v3 + 1) ∧
 k51 (v3 + 1) C))
 else
 ((if (v3.tdiv 2) = (v4.tdiv 2) then
 (k59 (v4 + 1) (jU (jU C 355 0 v3) 355 1 v4))
 else
 (wp_12_isSorted v1 2 (jU (jU C 355 0 v3) 355 1 v4) (fun x25 =>
 (if x25 = 0 then
 (k59 (v4 + 1) (jU (jU C 355 0 v3) 355 1 v4))
 else
 (post 2 (jU (jU C 355 0 v3) 355 1 v4))))))))
def wp_12_sortsTelling_51 (v1 : Int) (v2 : Int) (post : Int → jC → Prop) (k51 : Int → jC → Prop) (v3 : Int) (C : jC) : Prop :=
 (if v2 ≤ v3 then
 (post (-1) C)
 else
 (jL2 (wp_12_sortsTelling_59 v1 v2 v3 post k51) 0 C))
def wp_12_sortsTelling_20 (v1 : Int) (v2 : Int) (post : Int → jC → Prop) (k20 : Int → jC → Prop) (v3 : Int) (C : jC) : Prop :=
 (if v2 ≤ v3 then
 (jL2 (wp_12_sortsTelling_51 v1 v2 post) 0 C)
 else
 (wp_12_isSorted v1 1 (jU C 355 0 v3) (fun x34 =>
 (if x34 = 0 then
 (k20 (v3 + 1) (jU C 355 0 v3))
 else
 (post 1 (jU C 355 0 v3))))))
def wp_12_sortsTelling (v1 : Int) (C : jC) (post : Int → jC → Prop) : Prop :=
 wp_12_isSorted v1 0 C (fun x1 =>
 (if x1 = 0 then
 (wp_12_columns C (fun x6 =>
 (jRng (2 * x6) ∧
 jL2 (wp_12_sortsTelling_20 v1 (2 * x6) post) 0 C)))
 else
 (post 0 C)))
def wp_12_told (v1 : Int) (v2 : Int) (C : jC) (post : Int → jC → Prop) : Prop :=
 wp_12_noView v1 (jU C 345 0 0) (fun x2 =>
 wp_12_throwsIf x2 1 (jU C 345 0 0) (fun x6 C7 =>
 (if x6 = 0 then
 (wp_12_listOf v1 C7 (fun x11 =>
 wp_12_sortsTelling x11 C7 (fun x15 C16 =>
 (if v2 = (-1) then
 (post x15 C16)
 else
 ((jRng (x15 - 1) ∧
 wp_12_in v2 0 (x15 - 1) C16 (fun x21 =>
 (if x21 = 0 then
 (post (-1) C16)
 else
 ((0 ≤ v2 ∧
 v2 < 2 ∧
 post (C16 355 v2) C16))))))))))
 else
 (post 0 C7))))
def wp_12_between_115 (v4 : Int) (v5 : Int) (v6 : Int) (C : jC) (post : Int → jC → Prop) (k115 : Int → Int → Prop) (v7 : Int) (v8 : Int) : Prop :=
 (if (max v5 v6) ≤ v8 then
 (post v7 C)
 else
 (wp_12_keyAt 273 v8 C (fun x30 =>
 wp_12_placeIn v4 x30 C (fun x34 =>
 (if x34 = (-1) then
 ((jRng (v7 + 1) ∧
 k115 (v7 + 1) (v8 + 1)))
 else
 (k115 (v7 + 0) (v8 + 1)))))))
def wp_12_between_54 (s0 : Int) (v1 : Int) (v2 : Int) (v3 : Int) (C : jC) (post : Int → jC → Prop) : Prop :=
 wp_12_throwsIf s0 2 C (fun x1 C2 =>
 (if x1 = 0 then
 (wp_12_listOf v1 C2 (fun x6 =>
 wp_12_keyAt x6 v2 C2 (fun x10 =>
 wp_12_placeIn 273 x10 C2 (fun x14 =>
 wp_12_keyAt x6 v3 C2 (fun x18 =>
 wp_12_placeIn 273 x18 C2 (fun x22 =>
 (jRng ((min x14 x22) + 1) ∧
 jL2 (wp_12_between_115 x6 x14 x22 C2 post) 0 ((min x14 x22) + 1))))))))
 else
 (post 0 C2)))
def wp_12_between_31 (v1 : Int) (v2 : Int) (v3 : Int) (C : jC) (post : Int → jC → Prop) : Prop :=
 wp_12_throwsIf 1 1 C (fun x43 C44 =>
 (if x43 = 0 then
 ((if v2 = v3 then
 (wp_12_between_54 1 v1 v2 v3 C44 post)
 else
 (wp_12_between_54 0 v1 v2 v3 C44 post)))
 else
 (post 0 C44)))
def wp_12_between (v1 : Int) (v2 : Int) (v3 : Int) (C : jC) (post : Int → jC → Prop) : Prop :=
 wp_12_noView v1 (jU C 345 0 0) (fun x50 =>
 (if x50 = 0 then
 (wp_12_noPlace v1 v2 (jU C 345 0 0) (fun x55 =>
 (if x55 = 0 then
 (wp_12_noPlace v1 v3 (jU C 345 0 0) (fun x60 =>
 (if x60 = 0 then
 (wp_12_throwsIf 0 1 (jU C 345 0 0) (fun x65 C66 =>
 (if x65 = 0 then
 ((if v2 = v3 then
 (wp_12_between_54 1 v1 v2 v3 C66 post)
 else
 (wp_12_between_54 0 v1 v2 v3 C66 post)))
 else
 (post 0 C66))))
 else
 (wp_12_between_31 v1 v2 v3 (jU C 345 0 0) post))))
 else
 (wp_12_between_31 v1 v2 v3 (jU C 345 0 0) post))))
 else
 (wp_12_between_31 v1 v2 v3 (jU C 345 0 0) post)))
def wp_12_sum_53 (v1 : Int) (v2 : Int) (C : jC) (post : Int → jC → Prop) (k53 : Int → Int → Prop) (v3 : Int) (v4 : Int) : Prop :=
 wp_12_listOf v1 C (fun x15 =>
 wp_12_size x15 C (fun x19 =>
 (if x19 ≤ v4 then
 (post v3 C)
 else
 (wp_12_valueAt v1 v4 v2 C (fun x24 =>
 (if x24 = (-1000000) then
 (k53 (v3 + 0) (v4 + 1))
 else
 (wp_12_valueAt v1 v4 v2 C (fun x31 =>
 (jRng (v3 + x31) ∧
 k53 (v3 + x31) (v4 + 1))))))))))
def wp_12_sum_26 (s0 : Int) (v1 : Int) (v2 : Int) (C : jC) (post : Int → jC → Prop) : Prop :=
 wp_12_throwsIf s0 1 C (fun x1 C2 =>
 (if x1 = 0 then
 (wp_12_isWords v2 C2 (fun x6 =>
 wp_12_throwsIf x6 2 C2 (fun x10 C11 =>
 (if x10 = 0 then
 (jL2 (wp_12_sum_53 v1 v2 C11 post) 0 0)
 else
 (post 0 C11)))))
 else
 (post 0 C2)))
def wp_12_sum (v1 : Int) (v2 : Int) (C : jC) (post : Int → jC → Prop) : Prop :=
 wp_12_noView v1 (jU C 345 0 0) (fun x38 =>
 (if x38 = 0 then
 (wp_12_noColumn v2 (jU C 345 0 0) (fun x43 =>
 (if x43 = 0 then
 (wp_12_sum_26 0 v1 v2 (jU C 345 0 0) post)
 else
 (wp_12_sum_26 1 v1 v2 (jU C 345 0 0) post))))
 else
 (wp_12_sum_26 1 v1 v2 (jU C 345 0 0) post)))
def wp_12_firstPlace_4 (v1 : Int) (v2 : Int) (v3 : Int) (C : jC) (post : Int → Prop) (k4 : Int → Prop) (v5 : Int) : Prop :=
 wp_12_listOf v1 C (fun x1 =>
 wp_12_size x1 C (fun x5 =>
 (if x5 ≤ v5 then
 (wp_12_listOf v1 C (fun x10 =>
 wp_12_size x10 C (fun x14 =>
 (if x14 ≤ v5 then
 (post (-1))
 else
 (post v5)))))
 else
 (wp_12_valueAt v1 v5 v2 C (fun x19 =>
 (if x19 = v3 then
 (wp_12_listOf v1 C (fun x24 =>
 wp_12_size x24 C (fun x28 =>
 (if x28 ≤ v5 then
 (post (-1))
 else
 (post v5)))))
 else
 (k4 (v5 + 1))))))))
def wp_12_firstPlace (v1 : Int) (v2 : Int) (v3 : Int) (v4 : Int) (C : jC) (post : Int → Prop) : Prop :=
 jL1 (wp_12_firstPlace_4 v1 v2 v3 C post) v4
def wp_12_kinds_40 (v1 : Int) (v2 : Int) (C : jC) (post : Int → jC → Prop) (k40 : Int → Int → Prop) (v3 : Int) (v4 : Int) : Prop :=
 wp_12_listOf v1 C (fun x17 =>
 wp_12_size x17 C (fun x21 =>
 (if x21 ≤ v4 then
 (post v3 C)
 else
 (wp_12_valueAt v1 v4 v2 C (fun x26 =>
 wp_12_firstPlace v1 v2 x26 0 C (fun x30 =>
 (if x30 = v4 then
 ((jRng (v3 + 1) ∧
 k40 (v3 + 1) (v4 + 1)))
 else
 (k40 (v3 + 0) (v4 + 1)))))))))
def wp_12_kinds (v1 : Int) (v2 : Int) (C : jC) (post : Int → jC → Prop) : Prop :=
 wp_12_noView v1 (jU C 345 0 0) (fun x2 =>
 (if x2 = 0 then
 (wp_12_noColumn v2 (jU C 345 0 0) (fun x7 =>
 (if x7 = 0 then
 (wp_12_throwsIf 0 1 (jU C 345 0 0) (fun x12 C13 =>
 (if x12 = 0 then
 (jL2 (wp_12_kinds_40 v1 v2 C13 post) 0 0)
 else
 (post 0 C13))))
 else
 (wp_12_throwsIf 1 1 (jU C 345 0 0) (fun x39 C40 =>
 (if x39 = 0 then
 (jL2 (wp_12_kinds_40 v1 v2 C40 post) 0 0)
 else
 (post 0 C40)))))))
 else
 (wp_12_throwsIf 1 1 (jU C 345 0 0) (fun x66 C67 =>
 (if x66 = 0 then
 (jL2 (wp_12_kinds_40 v1 v2 C67 post) 0 0)
 else
 (post 0 C67))))))
def wp_12_by_28 (s0 : Int) (v1 : Int) (v2 : Int) (C : jC) (post : Int → jC → Prop) : Prop :=
 wp_12_throwsIf s0 1 C (fun x1 C2 =>
 (if x1 = 0 then
 (wp_12_rowOf v1 C2 (fun x6 =>
 (0 ≤ ((x6 + 6) + v2) ∧
 ((x6 + 6) + v2) < 8954 ∧
 post (C2 346 ((x6 + 6) + v2)) C2)))
 else
 (post 0 C2)))
def wp_12_by (v1 : Int) (v2 : Int) (C : jC) (post : Int → jC → Prop) : Prop :=
 wp_12_rowOf v1 (jU C 345 0 0) (fun x13 =>
 (if x13 = (-1) then
 (wp_12_by_28 1 v1 v2 (jU C 345 0 0) post)
 else
 (wp_12_noColumn v2 (jU C 345 0 0) (fun x18 =>
 (if x18 = 0 then
 (wp_12_by_28 0 v1 v2 (jU C 345 0 0) post)
 else
 (wp_12_by_28 1 v1 v2 (jU C 345 0 0) post))))))
def wp_12_isFirst (v1 : Int) (v2 : Int) (v3 : Int) (C : jC) (post : Int → Prop) : Prop :=
 wp_12_valueAt v1 v3 v2 C (fun x1 =>
 wp_12_firstPlace v1 v2 x1 0 C (fun x5 =>
 (if x5 = v3 then
 (post 1)
 else
 (post 0))))
def wp_12_groupAt_6 (v1 : Int) (v2 : Int) (C : jC) (post : Int → Prop) (k6 : Int → Int → Prop) (v4 : Int) (v5 : Int) : Prop :=
 wp_12_listOf v1 C (fun x1 =>
 wp_12_size x1 C (fun x5 =>
 (if x5 ≤ v5 then
 (post (-1))
 else
 ((if v4 < 0 then
 (post (-1))
 else
 (wp_12_isFirst v1 v2 v5 C (fun x11 =>
 (if x11 = 0 then
 (k6 v4 (v5 + 1))
 else
 ((if v4 = 0 then
 (post v5)
 else
 (k6 (v4 + (-1)) (v5 + 1))))))))))))
def wp_12_groupAt (v1 : Int) (v2 : Int) (v3 : Int) (C : jC) (post : Int → Prop) : Prop :=
 jL2 (wp_12_groupAt_6 v1 v2 C post) v3 0
def wp_12_group_109 (v1 : Int) (v2 : Int) (v4 : Int) (v5 : Int) (v6 : Int) (C : jC) (post : Int → jC → Prop) (k109 : Int → Int → Int → Prop) (v7 : Int) (v8 : Int) (v9 : Int) : Prop :=
 wp_12_listOf v1 C (fun x10 =>
 wp_12_size x10 C (fun x14 =>
 (if x14 ≤ v9 then
 ((if v4 = 0 then
 (post v6 C)
 else
 ((if v4 = 1 then
 (post v7 C)
 else
 ((if v4 = 2 then
 (post v5 C)
 else
 (post v8 C)))))))
 else
 (wp_12_valueAt v1 v9 v2 C (fun x22 =>
 (if x22 = v6 then
 ((jRng (v7 + 1) ∧
 k109 (v7 + 1) v9 (v9 + 1)))
 else
 (k109 v7 v8 (v9 + 1))))))))
def wp_12_group_79 (s0 : Int) (v1 : Int) (v2 : Int) (v4 : Int) (v5 : Int) (C : jC) (post : Int → jC → Prop) : Prop :=
 wp_12_throwsIf s0 3 C (fun x1 C2 =>
 (if x1 = 0 then
 (wp_12_valueAt v1 v5 v2 C2 (fun x6 =>
 jL3 (wp_12_group_109 v1 v2 v4 v5 x6 C2 post) 0 v5 v5))
 else
 (post 0 C2)))
def wp_12_group_49 (s0 : Int) (v1 : Int) (v2 : Int) (v3 : Int) (v4 : Int) (C : jC) (post : Int → jC → Prop) : Prop :=
 wp_12_throwsIf s0 2 C (fun x30 C31 =>
 (if x30 = 0 then
 (wp_12_groupAt v1 v2 v3 C31 (fun x35 =>
 (if x35 = (-1) then
 (wp_12_group_79 1 v1 v2 v4 x35 C31 post)
 else
 (wp_12_group_79 0 v1 v2 v4 x35 C31 post))))
 else
 (post 0 C31)))
def wp_12_group_26 (s0 : Int) (v1 : Int) (v2 : Int) (v3 : Int) (v4 : Int) (C : jC) (post : Int → jC → Prop) : Prop :=
 wp_12_throwsIf s0 1 C (fun x40 C41 =>
 (if x40 = 0 then
 (wp_12_in v4 0 3 C41 (fun x45 =>
 (if x45 = 0 then
 (wp_12_group_49 1 v1 v2 v3 v4 C41 post)
 else
 (wp_12_group_49 0 v1 v2 v3 v4 C41 post))))
 else
 (post 0 C41)))
def wp_12_group (v1 : Int) (v2 : Int) (v3 : Int) (v4 : Int) (C : jC) (post : Int → jC → Prop) : Prop :=
 wp_12_noView v1 (jU C 345 0 0) (fun x51 =>
 (if x51 = 0 then
 (wp_12_noColumn v2 (jU C 345 0 0) (fun x56 =>
 (if x56 = 0 then
 (wp_12_group_26 0 v1 v2 v3 v4 (jU C 345 0 0) post)
 else
 (wp_12_group_26 1 v1 v2 v3 v4 (jU C 345 0 0) post))))
 else
 (wp_12_group_26 1 v1 v2 v3 v4 (jU C 345 0 0) post)))
def wp_12_total_146 (s0 : Int) (v1 : Int) (v2 : Int) (v4 : Int) (v5 : Int) (v6 : Int) (v7 : Int) (C : jC) (post : Int → jC → Prop) (k95 : Int → Int → Prop) : Prop :=
 (if s0 = 0 then
 ((jRng (v7 + 1) ∧
 k95 (v6 + 0) (v7 + 1)))
 else
 (wp_12_valueAt v1 v7 v4 C (fun x28 =>
 (jRng (v6 + x28) ∧
 jRng (v7 + 1) ∧
 k95 (v6 + x28) (v7 + 1)))))
def wp_12_total_95 (v1 : Int) (v2 : Int) (v4 : Int) (v5 : Int) (C : jC) (post : Int → jC → Prop) (k95 : Int → Int → Prop) (v6 : Int) (v7 : Int) : Prop :=
 wp_12_listOf v1 C (fun x34 =>
 wp_12_size x34 C (fun x38 =>
 (if x38 ≤ v7 then
 (post v6 C)
 else
 (wp_12_valueAt v1 v7 v2 C (fun x43 =>
 wp_12_valueAt v1 v5 v2 C (fun x47 =>
 (if x43 = x47 then
 (wp_12_valueAt v1 v7 v4 C (fun x52 =>
 (if x52 = (-1000000) then
 (wp_12_total_146 0 v1 v2 v4 v5 v6 v7 C post k95)
 else
 (wp_12_total_146 1 v1 v2 v4 v5 v6 v7 C post k95))))
 else
 (wp_12_total_146 0 v1 v2 v4 v5 v6 v7 C post k95))))))))
def wp_12_total_35 (s0 : Int) (v1 : Int) (v2 : Int) (v3 : Int) (v4 : Int) (C : jC) (post : Int → jC → Prop) : Prop :=
 wp_12_throwsIf s0 1 C (fun x1 C2 =>
 (if x1 = 0 then
 (wp_12_isWords v4 C2 (fun x6 =>
 wp_12_throwsIf x6 2 C2 (fun x10 C11 =>
 (if x10 = 0 then
 (wp_12_groupAt v1 v2 v3 C11 (fun x15 =>
 (if x15 = (-1) then
 (wp_12_throwsIf 1 3 C11 (fun x20 C21 =>
 (if x20 = 0 then
 (jL2 (wp_12_total_95 v1 v2 v4 x15 C21 post) 0 x15)
 else
 (post 0 C21))))
 else
 (wp_12_throwsIf 0 3 C11 (fun x57 C58 =>
 (if x57 = 0 then
 (jL2 (wp_12_total_95 v1 v2 v4 x15 C58 post) 0 x15)
 else
 (post 0 C58)))))))
 else
 (post 0 C11)))))
 else
 (post 0 C2)))
def wp_12_total (v1 : Int) (v2 : Int) (v3 : Int) (v4 : Int) (C : jC) (post : Int → jC → Prop) : Prop :=
 wp_12_noView v1 (jU C 345 0 0) (fun x95 =>
 (if x95 = 0 then
 (wp_12_noColumn v2 (jU C 345 0 0) (fun x100 =>
 (if x100 = 0 then
 (wp_12_noColumn v4 (jU C 345 0 0) (fun x105 =>
 (if x105 = 0 then
 (wp_12_total_35 0 v1 v2 v3 v4 (jU C 345 0 0) post)
 else
 (wp_12_total_35 1 v1 v2 v3 v4 (jU C 345 0 0) post))))
 else
 (wp_12_total_35 1 v1 v2 v3 v4 (jU C 345 0 0) post))))
 else
 (wp_12_total_35 1 v1 v2 v3 v4 (jU C 345 0 0) post)))
def wp_12_upTo_6 (v1 : Int) (v2 : Int) (v3 : Int) (v4 : Int) (C : jC) (post : Int → Prop) (k6 : Int → Int → Prop) (v5 : Int) (v6 : Int) : Prop :=
 wp_12_listOf v1 C (fun x1 =>
 wp_12_size x1 C (fun x5 =>
 (if x5 ≤ v6 then
 (post v5)
 else
 (wp_12_valueAt v1 v6 v2 C (fun x10 =>
 (if x10 = (-1000000) then
 (k6 (v5 + 0) (v6 + 1))
 else
 ((if x10 < v3 then
 ((jRng (v5 + 1) ∧
 k6 (v5 + 1) (v6 + 1)))
 else
 ((if v4 = 0 then
 (k6 (v5 + 0) (v6 + 1))
 else
 ((if x10 = v3 then
 ((jRng (v5 + 1) ∧
 k6 (v5 + 1) (v6 + 1)))
 else
 (k6 (v5 + 0) (v6 + 1))))))))))))))
def wp_12_upTo (v1 : Int) (v2 : Int) (v3 : Int) (v4 : Int) (C : jC) (post : Int → Prop) : Prop :=
 jL2 (wp_12_upTo_6 v1 v2 v3 v4 C post) 0 0
def wp_12_middle_90 (v1 : Int) (v2 : Int) (v3 : Int) (v4 : Int) (C : jC) (post : Int → jC → Prop) (k90 : Int → Prop) (v5 : Int) : Prop :=
 wp_12_listOf v1 C (fun x28 =>
 wp_12_size x28 C (fun x32 =>
 (if x32 ≤ v5 then
 (post (-1000000) C)
 else
 ((if v3 ≤ 0 then
 (post (-1000000) C)
 else
 (wp_12_valueAt v1 v5 v2 C (fun x38 =>
 (if x38 = (-1000000) then
 (k90 (v5 + 1))
 else
 (wp_12_upTo v1 v2 x38 0 C (fun x44 =>
 (if v4 < x44 then
 (k90 (v5 + 1))
 else
 (wp_12_upTo v1 v2 x38 1 C (fun x50 =>
 (if x50 ≤ v4 then
 (k90 (v5 + 1))
 else
 (post x38 C)))))))))))))))
def wp_12_middle_40 (v1 : Int) (v2 : Int) (C : jC) (post : Int → jC → Prop) (k40 : Int → Int → Prop) (v3 : Int) (v4 : Int) : Prop :=
 wp_12_listOf v1 C (fun x17 =>
 wp_12_size x17 C (fun x21 =>
 (if x21 ≤ v4 then
 ((jRng (v3 - 1) ∧
 jL1 (wp_12_middle_90 v1 v2 v3 ((v3 - 1).tdiv 2) C post) 0))
 else
 (wp_12_valueAt v1 v4 v2 C (fun x56 =>
 (if x56 = (-1000000) then
 (k40 (v3 + 0) (v4 + 1))
 else
 ((jRng (v3 + 1) ∧
 k40 (v3 + 1) (v4 + 1)))))))))
def wp_12_middle (v1 : Int) (v2 : Int) (C : jC) (post : Int → jC → Prop) : Prop :=
 wp_12_noView v1 (jU C 345 0 0) (fun x2 =>
 (if x2 = 0 then
 (wp_12_noColumn v2 (jU C 345 0 0) (fun x7 =>
 (if x7 = 0 then
 (wp_12_throwsIf 0 1 (jU C 345 0 0) (fun x12 C13 =>
 (if x12 = 0 then
 (jL2 (wp_12_middle_40 v1 v2 C13 post) 0 0)
 else
 (post 0 C13))))
 else
 (wp_12_throwsIf 1 1 (jU C 345 0 0) (fun x65 C66 =>
 (if x65 = 0 then
 (jL2 (wp_12_middle_40 v1 v2 C66 post) 0 0)
 else
 (post 0 C66)))))))
 else
 (wp_12_throwsIf 1 1 (jU C 345 0 0) (fun x118 C119 =>
 (if x118 = 0 then
 (jL2 (wp_12_middle_40 v1 v2 C119 post) 0 0)
 else
 (post 0 C119))))))
def wp_12_areTwins_6 (v1 : Int) (v2 : Int) (v3 : Int) (C : jC) (post : Int → Prop) (k6 : Int → Int → Prop) (v4 : Int) (v5 : Int) : Prop :=
 wp_12_columns C (fun x1 =>
 (if x1 ≤ v5 then
 (((v4 = 0 ∨ v4 = 1) ∧
 post v4))
 else
 ((if v4 = 0 then
 (((v4 = 0 ∨ v4 = 1) ∧
 post v4))
 else
 (wp_12_isHidden v1 v5 C (fun x9 =>
 (if x9 = 0 then
 (wp_12_valueAt v1 v2 v5 C (fun x14 =>
 wp_12_valueAt v1 v3 v5 C (fun x18 =>
 (if x14 = x18 then
 (k6 1 (v5 + 1))
 else
 (k6 0 (v5 + 1))))))
 else
 (k6 1 (v5 + 1)))))))))
def wp_12_areTwins (v1 : Int) (v2 : Int) (v3 : Int) (C : jC) (post : Int → Prop) : Prop :=
 jL2 (wp_12_areTwins_6 v1 v2 v3 C post) 1 0
def wp_12_twice_38 (v1 : Int) (v3 : Int) (C : jC) (post : Int → jC → Prop) (k23 : Int → Int → Prop) (k38 : Int → Int → Prop) (v2 : Int) (v4 : Int) : Prop :=
 (if v3 ≤ v4 then
 ((jRng (v3 + 1) ∧
 k23 v2 (v3 + 1)))
 else
 (wp_12_areTwins v1 v3 v4 C (fun x22 =>
 (if x22 = 0 then
 (k38 (jOr v2 0) (v4 + 1))
 else
 (k38 (jOr v2 (jShl 1 v3)) (v4 + 1))))))
def wp_12_twice_23 (v1 : Int) (C : jC) (post : Int → jC → Prop) (k23 : Int → Int → Prop) (v2 : Int) (v3 : Int) : Prop :=
 wp_12_listOf v1 C (fun x11 =>
 wp_12_size x11 C (fun x15 =>
 (if x15 ≤ v3 then
 (post v2 C)
 else
 (jL2 (wp_12_twice_38 v1 v3 C post k23) v2 0))))
def wp_12_twice (v1 : Int) (C : jC) (post : Int → jC → Prop) : Prop :=
 wp_12_noView v1 (jU C 345 0 0) (fun x2 =>
 wp_12_throwsIf x2 1 (jU C 345 0 0) (fun x6 C7 =>
 (if x6 = 0 then
 (jL2 (wp_12_twice_23 v1 C7 post) 0 0)
 else
 (post 0 C7))))
def wp_12_find_26 (s0 : Int) (v1 : Int) (v2 : Int) (v3 : Int) (v4 : Int) (C : jC) (post : Int → jC → Prop) : Prop :=
 wp_12_throwsIf s0 1 C (fun x1 C2 =>
 (if x1 = 0 then
 ((if v4 < 0 then
 (wp_12_throwsIf 1 2 C2 (fun x7 C8 =>
 (if x7 = 0 then
 (wp_12_firstPlace v1 v2 v3 v4 C8 (fun x12 =>
 post x12 C8))
 else
 (post 0 C8))))
 else
 ((if v3 = (-1000000) then
 (wp_12_throwsIf 0 2 C2 (fun x17 C18 =>
 (if x17 = 0 then
 (wp_12_firstPlace v1 v2 v3 v4 C18 (fun x22 =>
 post x22 C18))
 else
 (post 0 C18))))
 else
 (wp_12_isValue v2 v3 C2 (fun x26 =>
 (if x26 = 0 then
 (wp_12_throwsIf 1 2 C2 (fun x31 C32 =>
 (if x31 = 0 then
 (wp_12_firstPlace v1 v2 v3 v4 C32 (fun x36 =>
 post x36 C32))
 else
 (post 0 C32))))
 else
 (wp_12_throwsIf 0 2 C2 (fun x40 C41 =>
 (if x40 = 0 then
 (wp_12_firstPlace v1 v2 v3 v4 C41 (fun x45 =>
 post x45 C41))
 else
 (post 0 C41)))))))))))
 else
 (post 0 C2)))
def wp_12_find (v1 : Int) (v2 : Int) (v3 : Int) (v4 : Int) (C : jC) (post : Int → jC → Prop) : Prop :=
 wp_12_noView v1 (jU C 345 0 0) (fun x50 =>
 (if x50 = 0 then
 (wp_12_noColumn v2 (jU C 345 0 0) (fun x55 =>
 (if x55 = 0 then
 (wp_12_find_26 0 v1 v2 v3 v4 (jU C 345 0 0) post)
 else
 (wp_12_find_26 1 v1 v2 v3 v4 (jU C 345 0 0) post))))
 else
 (wp_12_find_26 1 v1 v2 v3 v4 (jU C 345 0 0) post)))
def wp_12_log_20 (s0 : Int) (v1 : Int) (v2 : Int) (C : jC) (post : Int → jC → Prop) : Prop :=
 wp_12_throwsIf s0 1 C (fun x1 C2 =>
 (if x1 = 0 then
 ((jRng ((C2 346 3) - 1) ∧
 wp_12_in v1 0 ((C2 346 3) - 1) C2 (fun x9 =>
 (if x9 = 0 then
 (post (-1) C2)
 else
 ((0 ≤ ((8754 + (5 * v1)) + v2) ∧
 ((8754 + (5 * v1)) + v2) < 8954 ∧
 post (C2 346 ((8754 + (5 * v1)) + v2)) C2))))))
 else
 (post 0 C2)))
def wp_12_log (v1 : Int) (v2 : Int) (C : jC) (post : Int → jC → Prop) : Prop :=
 wp_12_in v2 0 4 (jU C 345 0 0) (fun x17 =>
 (if x17 = 0 then
 (wp_12_log_20 1 v1 v2 (jU C 345 0 0) post)
 else
 (wp_12_log_20 0 v1 v2 (jU C 345 0 0) post)))
def wp_12_count (v1 : Int) (C : jC) (post : Int → jC → Prop) : Prop :=
 (if v1 = 0 then
 (wp_12_columns (jU C 345 0 0) (fun x17 =>
 post x17 (jU C 345 0 0)))
 else
 (if v1 = 1 then
 (wp_12_rows (jU C 345 0 0) (fun x13 =>
 post x13 (jU C 345 0 0)))
 else
 (if v1 = 2 then
 (post ((jU C 345 0 0) 346 1) (jU C 345 0 0))
 else
 (if v1 = 3 then
 (post ((jU C 345 0 0) 346 2) (jU C 345 0 0))
 else
 (if v1 = 4 then
 (post ((jU C 345 0 0) 346 3) (jU C 345 0 0))
 else
 (post (-1) (jU C 345 0 0)))))))

theorem ky_352 : Cond.methodLink "PrivateViewsLaw" 143 ⟨"PrivateViews", "feed", "(IIIII)I"⟩ ∈ jTB := jtb (List.mem_of_getElem? (i := 352) (by decide +kernel)) (by decide +kernel)
theorem ky_1539 : Cond.methodLink "PrivateViewsLaw" 147 ⟨"PrivateViewsModel", "feed", "(IIIII)I"⟩ ∈ jTB := jtb (List.mem_of_getElem? (i := 1539) (by decide +kernel)) (by decide +kernel)
theorem ky_360 : Cond.methodLink "PrivateViewsLaw" 148 ⟨"PrivateViews", "end", "(I)Z"⟩ ∈ jTB := jtb (List.mem_of_getElem? (i := 360) (by decide +kernel)) (by decide +kernel)
theorem ky_1543 : Cond.methodLink "PrivateViewsLaw" 152 ⟨"PrivateViewsModel", "end", "(I)Z"⟩ ∈ jTB := jtb (List.mem_of_getElem? (i := 1543) (by decide +kernel)) (by decide +kernel)
theorem ky_450 : Cond.codeWith ⟨"PrivateViewsLaw", "sheet", "(LPrivateViews;[J)I"⟩ method_3_code 3 (some .int) [(0, 8, 11, 13), (0, 8, 14, 15)] ∈ jTB := jtb (List.mem_of_getElem? (i := 450) (by decide +kernel)) (by decide +kernel)
theorem ky_449 : Cond.static ⟨"PrivateViewsLaw", "sheet", "(LPrivateViews;[J)I"⟩ ∈ jTB := jtb (List.mem_of_getElem? (i := 449) (by decide +kernel)) (by decide +kernel)
theorem ky_0 : Cond.initialized "PrivateViewsLaw" ∈ jTB := jtb (List.mem_of_getElem? (i := 0) (by decide +kernel)) (by decide +kernel)
theorem ky_448 : Cond.methodLink "PrivateViewsLaw" 153 ⟨"PrivateViewsLaw", "sheet", "(LPrivateViews;[J)I"⟩ ∈ jTB := jtb (List.mem_of_getElem? (i := 448) (by decide +kernel)) (by decide +kernel)
theorem ky_1551 : Cond.methodLink "PrivateViewsLaw" 158 ⟨"PrivateViewsModel", "sheet", "()I"⟩ ∈ jTB := jtb (List.mem_of_getElem? (i := 1551) (by decide +kernel)) (by decide +kernel)
theorem ky_1463 : Cond.methodLink "PrivateViewsLaw" 159 ⟨"PrivateViewsModel", "thrown", "()I"⟩ ∈ jTB := jtb (List.mem_of_getElem? (i := 1463) (by decide +kernel)) (by decide +kernel)
theorem ky_765 : Cond.codeWith ⟨"PrivateViewsLaw", "view", "(LPrivateViews;I[J)I"⟩ method_4_code 4 (some .int) [(0, 9, 12, 21), (0, 9, 15, 13)] ∈ jTB := jtb (List.mem_of_getElem? (i := 765) (by decide +kernel)) (by decide +kernel)
theorem ky_764 : Cond.static ⟨"PrivateViewsLaw", "view", "(LPrivateViews;I[J)I"⟩ ∈ jTB := jtb (List.mem_of_getElem? (i := 764) (by decide +kernel)) (by decide +kernel)
theorem ky_763 : Cond.methodLink "PrivateViewsLaw" 162 ⟨"PrivateViewsLaw", "view", "(LPrivateViews;I[J)I"⟩ ∈ jTB := jtb (List.mem_of_getElem? (i := 763) (by decide +kernel)) (by decide +kernel)
theorem ky_1701 : Cond.methodLink "PrivateViewsLaw" 165 ⟨"PrivateViewsModel", "view", "(I)I"⟩ ∈ jTB := jtb (List.mem_of_getElem? (i := 1701) (by decide +kernel)) (by decide +kernel)
theorem ky_364 : Cond.methodLink "PrivateViewsLaw" 166 ⟨"PrivateViews", "fault", "()I"⟩ ∈ jTB := jtb (List.mem_of_getElem? (i := 364) (by decide +kernel)) (by decide +kernel)
theorem ky_1547 : Cond.methodLink "PrivateViewsLaw" 169 ⟨"PrivateViewsModel", "fault", "()I"⟩ ∈ jTB := jtb (List.mem_of_getElem? (i := 1547) (by decide +kernel)) (by decide +kernel)
theorem ky_899 : Cond.codeWith ⟨"PrivateViewsLaw", "kind", "(LPrivateViews;I[J)I"⟩ method_5_code 4 (some .int) [(0, 9, 12, 21)] ∈ jTB := jtb (List.mem_of_getElem? (i := 899) (by decide +kernel)) (by decide +kernel)
theorem ky_898 : Cond.static ⟨"PrivateViewsLaw", "kind", "(LPrivateViews;I[J)I"⟩ ∈ jTB := jtb (List.mem_of_getElem? (i := 898) (by decide +kernel)) (by decide +kernel)
theorem ky_897 : Cond.methodLink "PrivateViewsLaw" 170 ⟨"PrivateViewsLaw", "kind", "(LPrivateViews;I[J)I"⟩ ∈ jTB := jtb (List.mem_of_getElem? (i := 897) (by decide +kernel)) (by decide +kernel)
theorem ky_1904 : Cond.methodLink "PrivateViewsLaw" 172 ⟨"PrivateViewsModel", "kind", "(I)I"⟩ ∈ jTB := jtb (List.mem_of_getElem? (i := 1904) (by decide +kernel)) (by decide +kernel)
theorem ky_915 : Cond.codeWith ⟨"PrivateViewsLaw", "cell", "(LPrivateViews;II[J)I"⟩ method_6_code 5 (some .int) [(0, 10, 13, 21)] ∈ jTB := jtb (List.mem_of_getElem? (i := 915) (by decide +kernel)) (by decide +kernel)
theorem ky_914 : Cond.static ⟨"PrivateViewsLaw", "cell", "(LPrivateViews;II[J)I"⟩ ∈ jTB := jtb (List.mem_of_getElem? (i := 914) (by decide +kernel)) (by decide +kernel)
theorem ky_913 : Cond.methodLink "PrivateViewsLaw" 173 ⟨"PrivateViewsLaw", "cell", "(LPrivateViews;II[J)I"⟩ ∈ jTB := jtb (List.mem_of_getElem? (i := 913) (by decide +kernel)) (by decide +kernel)
theorem ky_1908 : Cond.methodLink "PrivateViewsLaw" 176 ⟨"PrivateViewsModel", "cell", "(II)I"⟩ ∈ jTB := jtb (List.mem_of_getElem? (i := 1908) (by decide +kernel)) (by decide +kernel)
theorem ky_368 : Cond.methodLink "PrivateViewsLaw" 177 ⟨"PrivateViews", "order", "(I)I"⟩ ∈ jTB := jtb (List.mem_of_getElem? (i := 368) (by decide +kernel)) (by decide +kernel)
theorem ky_1912 : Cond.methodLink "PrivateViewsLaw" 180 ⟨"PrivateViewsModel", "order", "(I)I"⟩ ∈ jTB := jtb (List.mem_of_getElem? (i := 1912) (by decide +kernel)) (by decide +kernel)
theorem ky_933 : Cond.codeWith ⟨"PrivateViewsLaw", "row", "(LPrivateViews;II[J)I"⟩ method_7_code 5 (some .int) [(0, 10, 13, 21)] ∈ jTB := jtb (List.mem_of_getElem? (i := 933) (by decide +kernel)) (by decide +kernel)
theorem ky_932 : Cond.static ⟨"PrivateViewsLaw", "row", "(LPrivateViews;II[J)I"⟩ ∈ jTB := jtb (List.mem_of_getElem? (i := 932) (by decide +kernel)) (by decide +kernel)
theorem ky_931 : Cond.methodLink "PrivateViewsLaw" 181 ⟨"PrivateViewsLaw", "row", "(LPrivateViews;II[J)I"⟩ ∈ jTB := jtb (List.mem_of_getElem? (i := 931) (by decide +kernel)) (by decide +kernel)
theorem ky_1916 : Cond.methodLink "PrivateViewsLaw" 183 ⟨"PrivateViewsModel", "row", "(II)I"⟩ ∈ jTB := jtb (List.mem_of_getElem? (i := 1916) (by decide +kernel)) (by decide +kernel)
theorem ky_940 : Cond.codeWith ⟨"PrivateViewsLaw", "place", "(LPrivateViews;II[J)I"⟩ method_8_code 5 (some .int) [(0, 10, 13, 21)] ∈ jTB := jtb (List.mem_of_getElem? (i := 940) (by decide +kernel)) (by decide +kernel)
theorem ky_939 : Cond.static ⟨"PrivateViewsLaw", "place", "(LPrivateViews;II[J)I"⟩ ∈ jTB := jtb (List.mem_of_getElem? (i := 939) (by decide +kernel)) (by decide +kernel)
theorem ky_938 : Cond.methodLink "PrivateViewsLaw" 184 ⟨"PrivateViewsLaw", "place", "(LPrivateViews;II[J)I"⟩ ∈ jTB := jtb (List.mem_of_getElem? (i := 938) (by decide +kernel)) (by decide +kernel)
theorem ky_1920 : Cond.methodLink "PrivateViewsLaw" 186 ⟨"PrivateViewsModel", "place", "(II)I"⟩ ∈ jTB := jtb (List.mem_of_getElem? (i := 1920) (by decide +kernel)) (by decide +kernel)
theorem ky_948 : Cond.codeWith ⟨"PrivateViewsLaw", "about", "(LPrivateViews;II[J)I"⟩ method_9_code 5 (some .int) [(0, 10, 13, 21), (0, 10, 17, 39)] ∈ jTB := jtb (List.mem_of_getElem? (i := 948) (by decide +kernel)) (by decide +kernel)
theorem ky_947 : Cond.static ⟨"PrivateViewsLaw", "about", "(LPrivateViews;II[J)I"⟩ ∈ jTB := jtb (List.mem_of_getElem? (i := 947) (by decide +kernel)) (by decide +kernel)
theorem ky_946 : Cond.methodLink "PrivateViewsLaw" 187 ⟨"PrivateViewsLaw", "about", "(LPrivateViews;II[J)I"⟩ ∈ jTB := jtb (List.mem_of_getElem? (i := 946) (by decide +kernel)) (by decide +kernel)
theorem ky_1928 : Cond.methodLink "PrivateViewsLaw" 189 ⟨"PrivateViewsModel", "about", "(II)I"⟩ ∈ jTB := jtb (List.mem_of_getElem? (i := 1928) (by decide +kernel)) (by decide +kernel)
theorem ky_975 : Cond.codeWith ⟨"PrivateViewsLaw", "sorts", "(LPrivateViews;II[J)I"⟩ method_10_code 5 (some .int) [(0, 10, 13, 21)] ∈ jTB := jtb (List.mem_of_getElem? (i := 975) (by decide +kernel)) (by decide +kernel)
theorem ky_974 : Cond.static ⟨"PrivateViewsLaw", "sorts", "(LPrivateViews;II[J)I"⟩ ∈ jTB := jtb (List.mem_of_getElem? (i := 974) (by decide +kernel)) (by decide +kernel)
theorem ky_973 : Cond.methodLink "PrivateViewsLaw" 190 ⟨"PrivateViewsLaw", "sorts", "(LPrivateViews;II[J)I"⟩ ∈ jTB := jtb (List.mem_of_getElem? (i := 973) (by decide +kernel)) (by decide +kernel)
theorem ky_1932 : Cond.methodLink "PrivateViewsLaw" 192 ⟨"PrivateViewsModel", "sorts", "(II)I"⟩ ∈ jTB := jtb (List.mem_of_getElem? (i := 1932) (by decide +kernel)) (by decide +kernel)
theorem ky_983 : Cond.codeWith ⟨"PrivateViewsLaw", "set", "(LPrivateViews;IIII[J)I"⟩ method_11_code 7 (some .int) [(0, 14, 17, 21), (0, 14, 21, 48), (0, 14, 25, 13)] ∈ jTB := jtb (List.mem_of_getElem? (i := 983) (by decide +kernel)) (by decide +kernel)
theorem ky_982 : Cond.static ⟨"PrivateViewsLaw", "set", "(LPrivateViews;IIII[J)I"⟩ ∈ jTB := jtb (List.mem_of_getElem? (i := 982) (by decide +kernel)) (by decide +kernel)
theorem ky_981 : Cond.methodLink "PrivateViewsLaw" 193 ⟨"PrivateViewsLaw", "set", "(LPrivateViews;IIII[J)I"⟩ ∈ jTB := jtb (List.mem_of_getElem? (i := 981) (by decide +kernel)) (by decide +kernel)
theorem ky_1786 : Cond.methodLink "PrivateViewsLaw" 196 ⟨"PrivateViewsModel", "set", "(IIII)I"⟩ ∈ jTB := jtb (List.mem_of_getElem? (i := 1786) (by decide +kernel)) (by decide +kernel)
theorem ky_1059 : Cond.codeWith ⟨"PrivateViewsLaw", "clear", "(LPrivateViews;III[J)I"⟩ method_12_code 6 (some .int) [(0, 12, 15, 21), (0, 12, 19, 48)] ∈ jTB := jtb (List.mem_of_getElem? (i := 1059) (by decide +kernel)) (by decide +kernel)
theorem ky_1058 : Cond.static ⟨"PrivateViewsLaw", "clear", "(LPrivateViews;III[J)I"⟩ ∈ jTB := jtb (List.mem_of_getElem? (i := 1058) (by decide +kernel)) (by decide +kernel)
theorem ky_1057 : Cond.methodLink "PrivateViewsLaw" 197 ⟨"PrivateViewsLaw", "clear", "(LPrivateViews;III[J)I"⟩ ∈ jTB := jtb (List.mem_of_getElem? (i := 1057) (by decide +kernel)) (by decide +kernel)
theorem ky_1827 : Cond.methodLink "PrivateViewsLaw" 200 ⟨"PrivateViewsModel", "clear", "(III)I"⟩ ∈ jTB := jtb (List.mem_of_getElem? (i := 1827) (by decide +kernel)) (by decide +kernel)
theorem ky_1067 : Cond.codeWith ⟨"PrivateViewsLaw", "fill", "(LPrivateViews;IIII[J)I"⟩ method_13_code 7 (some .int) [(0, 14, 17, 21), (0, 14, 21, 13), (0, 14, 25, 48)] ∈ jTB := jtb (List.mem_of_getElem? (i := 1067) (by decide +kernel)) (by decide +kernel)
theorem ky_1066 : Cond.static ⟨"PrivateViewsLaw", "fill", "(LPrivateViews;IIII[J)I"⟩ ∈ jTB := jtb (List.mem_of_getElem? (i := 1066) (by decide +kernel)) (by decide +kernel)
theorem ky_1065 : Cond.methodLink "PrivateViewsLaw" 201 ⟨"PrivateViewsLaw", "fill", "(LPrivateViews;IIII[J)I"⟩ ∈ jTB := jtb (List.mem_of_getElem? (i := 1065) (by decide +kernel)) (by decide +kernel)
theorem ky_1831 : Cond.methodLink "PrivateViewsLaw" 203 ⟨"PrivateViewsModel", "fill", "(IIII)I"⟩ ∈ jTB := jtb (List.mem_of_getElem? (i := 1831) (by decide +kernel)) (by decide +kernel)
theorem ky_1074 : Cond.codeWith ⟨"PrivateViewsLaw", "replace", "(LPrivateViews;IIII[J)I"⟩ method_14_code 7 (some .int) [(0, 14, 17, 21), (0, 14, 21, 48), (0, 14, 25, 13)] ∈ jTB := jtb (List.mem_of_getElem? (i := 1074) (by decide +kernel)) (by decide +kernel)
theorem ky_1073 : Cond.static ⟨"PrivateViewsLaw", "replace", "(LPrivateViews;IIII[J)I"⟩ ∈ jTB := jtb (List.mem_of_getElem? (i := 1073) (by decide +kernel)) (by decide +kernel)
theorem ky_1072 : Cond.methodLink "PrivateViewsLaw" 204 ⟨"PrivateViewsLaw", "replace", "(LPrivateViews;IIII[J)I"⟩ ∈ jTB := jtb (List.mem_of_getElem? (i := 1072) (by decide +kernel)) (by decide +kernel)
theorem ky_1835 : Cond.methodLink "PrivateViewsLaw" 206 ⟨"PrivateViewsModel", "replace", "(IIII)I"⟩ ∈ jTB := jtb (List.mem_of_getElem? (i := 1835) (by decide +kernel)) (by decide +kernel)
theorem ky_1086 : Cond.codeWith ⟨"PrivateViewsLaw", "swap", "(LPrivateViews;IIII[J)I"⟩ method_15_code 7 (some .int) [(0, 14, 17, 21), (0, 14, 21, 13), (0, 14, 25, 48)] ∈ jTB := jtb (List.mem_of_getElem? (i := 1086) (by decide +kernel)) (by decide +kernel)
theorem ky_1085 : Cond.static ⟨"PrivateViewsLaw", "swap", "(LPrivateViews;IIII[J)I"⟩ ∈ jTB := jtb (List.mem_of_getElem? (i := 1085) (by decide +kernel)) (by decide +kernel)
theorem ky_1084 : Cond.methodLink "PrivateViewsLaw" 207 ⟨"PrivateViewsLaw", "swap", "(LPrivateViews;IIII[J)I"⟩ ∈ jTB := jtb (List.mem_of_getElem? (i := 1084) (by decide +kernel)) (by decide +kernel)
theorem ky_1847 : Cond.methodLink "PrivateViewsLaw" 209 ⟨"PrivateViewsModel", "swap", "(IIII)I"⟩ ∈ jTB := jtb (List.mem_of_getElem? (i := 1847) (by decide +kernel)) (by decide +kernel)
theorem ky_1093 : Cond.codeWith ⟨"PrivateViewsLaw", "paste", "(LPrivateViews;III[J)I"⟩ method_16_code 6 (some .int) [(0, 12, 15, 21), (0, 12, 19, 48), (0, 12, 23, 13), (0, 12, 27, 15)] ∈ jTB := jtb (List.mem_of_getElem? (i := 1093) (by decide +kernel)) (by decide +kernel)
theorem ky_1092 : Cond.static ⟨"PrivateViewsLaw", "paste", "(LPrivateViews;III[J)I"⟩ ∈ jTB := jtb (List.mem_of_getElem? (i := 1092) (by decide +kernel)) (by decide +kernel)
theorem ky_1091 : Cond.methodLink "PrivateViewsLaw" 210 ⟨"PrivateViewsLaw", "paste", "(LPrivateViews;III[J)I"⟩ ∈ jTB := jtb (List.mem_of_getElem? (i := 1091) (by decide +kernel)) (by decide +kernel)
theorem ky_1851 : Cond.methodLink "PrivateViewsLaw" 212 ⟨"PrivateViewsModel", "paste", "(III)I"⟩ ∈ jTB := jtb (List.mem_of_getElem? (i := 1851) (by decide +kernel)) (by decide +kernel)
theorem ky_1123 : Cond.codeWith ⟨"PrivateViewsLaw", "add", "(LPrivateViews;II[J)I"⟩ method_17_code 5 (some .int) [(0, 10, 13, 21), (0, 10, 17, 15)] ∈ jTB := jtb (List.mem_of_getElem? (i := 1123) (by decide +kernel)) (by decide +kernel)
theorem ky_1122 : Cond.static ⟨"PrivateViewsLaw", "add", "(LPrivateViews;II[J)I"⟩ ∈ jTB := jtb (List.mem_of_getElem? (i := 1122) (by decide +kernel)) (by decide +kernel)
theorem ky_1121 : Cond.methodLink "PrivateViewsLaw" 213 ⟨"PrivateViewsLaw", "add", "(LPrivateViews;II[J)I"⟩ ∈ jTB := jtb (List.mem_of_getElem? (i := 1121) (by decide +kernel)) (by decide +kernel)
theorem ky_1888 : Cond.methodLink "PrivateViewsLaw" 215 ⟨"PrivateViewsModel", "add", "(II)I"⟩ ∈ jTB := jtb (List.mem_of_getElem? (i := 1888) (by decide +kernel)) (by decide +kernel)
theorem ky_1133 : Cond.codeWith ⟨"PrivateViewsLaw", "drop", "(LPrivateViews;II[J)I"⟩ method_18_code 5 (some .int) [(0, 10, 13, 21)] ∈ jTB := jtb (List.mem_of_getElem? (i := 1133) (by decide +kernel)) (by decide +kernel)
theorem ky_1132 : Cond.static ⟨"PrivateViewsLaw", "drop", "(LPrivateViews;II[J)I"⟩ ∈ jTB := jtb (List.mem_of_getElem? (i := 1132) (by decide +kernel)) (by decide +kernel)
theorem ky_1131 : Cond.methodLink "PrivateViewsLaw" 216 ⟨"PrivateViewsLaw", "drop", "(LPrivateViews;II[J)I"⟩ ∈ jTB := jtb (List.mem_of_getElem? (i := 1131) (by decide +kernel)) (by decide +kernel)
theorem ky_1892 : Cond.methodLink "PrivateViewsLaw" 218 ⟨"PrivateViewsModel", "drop", "(II)I"⟩ ∈ jTB := jtb (List.mem_of_getElem? (i := 1892) (by decide +kernel)) (by decide +kernel)
theorem ky_1148 : Cond.codeWith ⟨"PrivateViewsLaw", "drag", "(LPrivateViews;III[J)I"⟩ method_19_code 6 (some .int) [(0, 12, 15, 21), (0, 12, 19, 13)] ∈ jTB := jtb (List.mem_of_getElem? (i := 1148) (by decide +kernel)) (by decide +kernel)
theorem ky_1147 : Cond.static ⟨"PrivateViewsLaw", "drag", "(LPrivateViews;III[J)I"⟩ ∈ jTB := jtb (List.mem_of_getElem? (i := 1147) (by decide +kernel)) (by decide +kernel)
theorem ky_1146 : Cond.methodLink "PrivateViewsLaw" 219 ⟨"PrivateViewsLaw", "drag", "(LPrivateViews;III[J)I"⟩ ∈ jTB := jtb (List.mem_of_getElem? (i := 1146) (by decide +kernel)) (by decide +kernel)
theorem ky_1900 : Cond.methodLink "PrivateViewsLaw" 221 ⟨"PrivateViewsModel", "drag", "(III)I"⟩ ∈ jTB := jtb (List.mem_of_getElem? (i := 1900) (by decide +kernel)) (by decide +kernel)
theorem ky_1164 : Cond.codeWith ⟨"PrivateViewsLaw", "refresh", "(LPrivateViews;I[J)I"⟩ method_20_code 4 (some .int) [(0, 9, 12, 21)] ∈ jTB := jtb (List.mem_of_getElem? (i := 1164) (by decide +kernel)) (by decide +kernel)
theorem ky_1163 : Cond.static ⟨"PrivateViewsLaw", "refresh", "(LPrivateViews;I[J)I"⟩ ∈ jTB := jtb (List.mem_of_getElem? (i := 1163) (by decide +kernel)) (by decide +kernel)
theorem ky_1162 : Cond.methodLink "PrivateViewsLaw" 222 ⟨"PrivateViewsLaw", "refresh", "(LPrivateViews;I[J)I"⟩ ∈ jTB := jtb (List.mem_of_getElem? (i := 1162) (by decide +kernel)) (by decide +kernel)
theorem ky_1782 : Cond.methodLink "PrivateViewsLaw" 224 ⟨"PrivateViewsModel", "refresh", "(I)I"⟩ ∈ jTB := jtb (List.mem_of_getElem? (i := 1782) (by decide +kernel)) (by decide +kernel)
theorem ky_1180 : Cond.codeWith ⟨"PrivateViewsLaw", "undo", "(LPrivateViews;I[J)I"⟩ method_21_code 4 (some .int) [(0, 9, 12, 21), (0, 9, 15, 48)] ∈ jTB := jtb (List.mem_of_getElem? (i := 1180) (by decide +kernel)) (by decide +kernel)
theorem ky_1179 : Cond.static ⟨"PrivateViewsLaw", "undo", "(LPrivateViews;I[J)I"⟩ ∈ jTB := jtb (List.mem_of_getElem? (i := 1179) (by decide +kernel)) (by decide +kernel)
theorem ky_1178 : Cond.methodLink "PrivateViewsLaw" 225 ⟨"PrivateViewsLaw", "undo", "(LPrivateViews;I[J)I"⟩ ∈ jTB := jtb (List.mem_of_getElem? (i := 1178) (by decide +kernel)) (by decide +kernel)
theorem ky_1884 : Cond.methodLink "PrivateViewsLaw" 227 ⟨"PrivateViewsModel", "undo", "(I)I"⟩ ∈ jTB := jtb (List.mem_of_getElem? (i := 1884) (by decide +kernel)) (by decide +kernel)
theorem ky_1207 : Cond.codeWith ⟨"PrivateViewsLaw", "fits", "(LPrivateViews;II[J)I"⟩ method_22_code 5 (some .int) [(0, 17, 20, 21)] ∈ jTB := jtb (List.mem_of_getElem? (i := 1207) (by decide +kernel)) (by decide +kernel)
theorem ky_1206 : Cond.static ⟨"PrivateViewsLaw", "fits", "(LPrivateViews;II[J)I"⟩ ∈ jTB := jtb (List.mem_of_getElem? (i := 1206) (by decide +kernel)) (by decide +kernel)
theorem ky_1205 : Cond.methodLink "PrivateViewsLaw" 228 ⟨"PrivateViewsLaw", "fits", "(LPrivateViews;II[J)I"⟩ ∈ jTB := jtb (List.mem_of_getElem? (i := 1205) (by decide +kernel)) (by decide +kernel)
theorem ky_1936 : Cond.methodLink "PrivateViewsLaw" 230 ⟨"PrivateViewsModel", "fits", "(II)Z"⟩ ∈ jTB := jtb (List.mem_of_getElem? (i := 1936) (by decide +kernel)) (by decide +kernel)
theorem ky_1219 : Cond.codeWith ⟨"PrivateViewsLaw", "why", "(LPrivateViews;II[J)I"⟩ method_23_code 5 (some .int) [(0, 10, 13, 21)] ∈ jTB := jtb (List.mem_of_getElem? (i := 1219) (by decide +kernel)) (by decide +kernel)
theorem ky_1218 : Cond.static ⟨"PrivateViewsLaw", "why", "(LPrivateViews;II[J)I"⟩ ∈ jTB := jtb (List.mem_of_getElem? (i := 1218) (by decide +kernel)) (by decide +kernel)
theorem ky_1217 : Cond.methodLink "PrivateViewsLaw" 231 ⟨"PrivateViewsLaw", "why", "(LPrivateViews;II[J)I"⟩ ∈ jTB := jtb (List.mem_of_getElem? (i := 1217) (by decide +kernel)) (by decide +kernel)
theorem ky_1940 : Cond.methodLink "PrivateViewsLaw" 233 ⟨"PrivateViewsModel", "why", "(II)I"⟩ ∈ jTB := jtb (List.mem_of_getElem? (i := 1940) (by decide +kernel)) (by decide +kernel)
theorem ky_1227 : Cond.codeWith ⟨"PrivateViewsLaw", "stale", "(LPrivateViews;I[J)I"⟩ method_24_code 4 (some .int) [(0, 9, 12, 21)] ∈ jTB := jtb (List.mem_of_getElem? (i := 1227) (by decide +kernel)) (by decide +kernel)
theorem ky_1226 : Cond.static ⟨"PrivateViewsLaw", "stale", "(LPrivateViews;I[J)I"⟩ ∈ jTB := jtb (List.mem_of_getElem? (i := 1226) (by decide +kernel)) (by decide +kernel)
theorem ky_1225 : Cond.methodLink "PrivateViewsLaw" 234 ⟨"PrivateViewsLaw", "stale", "(LPrivateViews;I[J)I"⟩ ∈ jTB := jtb (List.mem_of_getElem? (i := 1225) (by decide +kernel)) (by decide +kernel)
theorem ky_1944 : Cond.methodLink "PrivateViewsLaw" 236 ⟨"PrivateViewsModel", "stale", "(I)I"⟩ ∈ jTB := jtb (List.mem_of_getElem? (i := 1944) (by decide +kernel)) (by decide +kernel)
theorem ky_1239 : Cond.codeWith ⟨"PrivateViewsLaw", "pending", "(LPrivateViews;I[J)I"⟩ method_25_code 4 (some .int) [(0, 9, 12, 21)] ∈ jTB := jtb (List.mem_of_getElem? (i := 1239) (by decide +kernel)) (by decide +kernel)
theorem ky_1238 : Cond.static ⟨"PrivateViewsLaw", "pending", "(LPrivateViews;I[J)I"⟩ ∈ jTB := jtb (List.mem_of_getElem? (i := 1238) (by decide +kernel)) (by decide +kernel)
theorem ky_1237 : Cond.methodLink "PrivateViewsLaw" 237 ⟨"PrivateViewsLaw", "pending", "(LPrivateViews;I[J)I"⟩ ∈ jTB := jtb (List.mem_of_getElem? (i := 1237) (by decide +kernel)) (by decide +kernel)
theorem ky_1948 : Cond.methodLink "PrivateViewsLaw" 239 ⟨"PrivateViewsModel", "pending", "(I)I"⟩ ∈ jTB := jtb (List.mem_of_getElem? (i := 1948) (by decide +kernel)) (by decide +kernel)
theorem ky_1250 : Cond.codeWith ⟨"PrivateViewsLaw", "rank", "(LPrivateViews;II[J)I"⟩ method_26_code 5 (some .int) [(0, 10, 13, 21)] ∈ jTB := jtb (List.mem_of_getElem? (i := 1250) (by decide +kernel)) (by decide +kernel)
theorem ky_1249 : Cond.static ⟨"PrivateViewsLaw", "rank", "(LPrivateViews;II[J)I"⟩ ∈ jTB := jtb (List.mem_of_getElem? (i := 1249) (by decide +kernel)) (by decide +kernel)
theorem ky_1248 : Cond.methodLink "PrivateViewsLaw" 240 ⟨"PrivateViewsLaw", "rank", "(LPrivateViews;II[J)I"⟩ ∈ jTB := jtb (List.mem_of_getElem? (i := 1248) (by decide +kernel)) (by decide +kernel)
theorem ky_1952 : Cond.methodLink "PrivateViewsLaw" 242 ⟨"PrivateViewsModel", "rank", "(II)I"⟩ ∈ jTB := jtb (List.mem_of_getElem? (i := 1952) (by decide +kernel)) (by decide +kernel)
theorem ky_1262 : Cond.codeWith ⟨"PrivateViewsLaw", "moves", "(LPrivateViews;I[J)I"⟩ method_27_code 4 (some .int) [(0, 9, 12, 21)] ∈ jTB := jtb (List.mem_of_getElem? (i := 1262) (by decide +kernel)) (by decide +kernel)
theorem ky_1261 : Cond.static ⟨"PrivateViewsLaw", "moves", "(LPrivateViews;I[J)I"⟩ ∈ jTB := jtb (List.mem_of_getElem? (i := 1261) (by decide +kernel)) (by decide +kernel)
theorem ky_1260 : Cond.methodLink "PrivateViewsLaw" 243 ⟨"PrivateViewsLaw", "moves", "(LPrivateViews;I[J)I"⟩ ∈ jTB := jtb (List.mem_of_getElem? (i := 1260) (by decide +kernel)) (by decide +kernel)
theorem ky_1960 : Cond.methodLink "PrivateViewsLaw" 245 ⟨"PrivateViewsModel", "moves", "(I)I"⟩ ∈ jTB := jtb (List.mem_of_getElem? (i := 1960) (by decide +kernel)) (by decide +kernel)
theorem ky_1278 : Cond.codeWith ⟨"PrivateViewsLaw", "unlike", "(LPrivateViews;II[J)I"⟩ method_28_code 5 (some .int) [(0, 10, 13, 21), (0, 10, 17, 13)] ∈ jTB := jtb (List.mem_of_getElem? (i := 1278) (by decide +kernel)) (by decide +kernel)
theorem ky_1277 : Cond.static ⟨"PrivateViewsLaw", "unlike", "(LPrivateViews;II[J)I"⟩ ∈ jTB := jtb (List.mem_of_getElem? (i := 1277) (by decide +kernel)) (by decide +kernel)
theorem ky_1276 : Cond.methodLink "PrivateViewsLaw" 246 ⟨"PrivateViewsLaw", "unlike", "(LPrivateViews;II[J)I"⟩ ∈ jTB := jtb (List.mem_of_getElem? (i := 1276) (by decide +kernel)) (by decide +kernel)
theorem ky_1964 : Cond.methodLink "PrivateViewsLaw" 248 ⟨"PrivateViewsModel", "unlike", "(II)I"⟩ ∈ jTB := jtb (List.mem_of_getElem? (i := 1964) (by decide +kernel)) (by decide +kernel)
theorem ky_1289 : Cond.codeWith ⟨"PrivateViewsLaw", "told", "(LPrivateViews;II[J)I"⟩ method_29_code 5 (some .int) [(0, 10, 13, 21)] ∈ jTB := jtb (List.mem_of_getElem? (i := 1289) (by decide +kernel)) (by decide +kernel)
theorem ky_1288 : Cond.static ⟨"PrivateViewsLaw", "told", "(LPrivateViews;II[J)I"⟩ ∈ jTB := jtb (List.mem_of_getElem? (i := 1288) (by decide +kernel)) (by decide +kernel)
theorem ky_1287 : Cond.methodLink "PrivateViewsLaw" 249 ⟨"PrivateViewsLaw", "told", "(LPrivateViews;II[J)I"⟩ ∈ jTB := jtb (List.mem_of_getElem? (i := 1287) (by decide +kernel)) (by decide +kernel)
theorem ky_1968 : Cond.methodLink "PrivateViewsLaw" 251 ⟨"PrivateViewsModel", "told", "(II)I"⟩ ∈ jTB := jtb (List.mem_of_getElem? (i := 1968) (by decide +kernel)) (by decide +kernel)
theorem ky_1317 : Cond.codeWith ⟨"PrivateViewsLaw", "between", "(LPrivateViews;III[J)I"⟩ method_30_code 6 (some .int) [(0, 12, 15, 21), (0, 12, 19, 13)] ∈ jTB := jtb (List.mem_of_getElem? (i := 1317) (by decide +kernel)) (by decide +kernel)
theorem ky_1316 : Cond.static ⟨"PrivateViewsLaw", "between", "(LPrivateViews;III[J)I"⟩ ∈ jTB := jtb (List.mem_of_getElem? (i := 1316) (by decide +kernel)) (by decide +kernel)
theorem ky_1315 : Cond.methodLink "PrivateViewsLaw" 252 ⟨"PrivateViewsLaw", "between", "(LPrivateViews;III[J)I"⟩ ∈ jTB := jtb (List.mem_of_getElem? (i := 1315) (by decide +kernel)) (by decide +kernel)
theorem ky_1984 : Cond.methodLink "PrivateViewsLaw" 254 ⟨"PrivateViewsModel", "between", "(III)I"⟩ ∈ jTB := jtb (List.mem_of_getElem? (i := 1984) (by decide +kernel)) (by decide +kernel)
theorem ky_1329 : Cond.codeWith ⟨"PrivateViewsLaw", "sum", "(LPrivateViews;II[J)I"⟩ method_31_code 5 (some .int) [(0, 10, 13, 21), (0, 10, 17, 48)] ∈ jTB := jtb (List.mem_of_getElem? (i := 1329) (by decide +kernel)) (by decide +kernel)
theorem ky_1328 : Cond.static ⟨"PrivateViewsLaw", "sum", "(LPrivateViews;II[J)I"⟩ ∈ jTB := jtb (List.mem_of_getElem? (i := 1328) (by decide +kernel)) (by decide +kernel)
theorem ky_1327 : Cond.methodLink "PrivateViewsLaw" 255 ⟨"PrivateViewsLaw", "sum", "(LPrivateViews;II[J)I"⟩ ∈ jTB := jtb (List.mem_of_getElem? (i := 1327) (by decide +kernel)) (by decide +kernel)
theorem ky_1988 : Cond.methodLink "PrivateViewsLaw" 257 ⟨"PrivateViewsModel", "sum", "(II)I"⟩ ∈ jTB := jtb (List.mem_of_getElem? (i := 1988) (by decide +kernel)) (by decide +kernel)
theorem ky_1346 : Cond.codeWith ⟨"PrivateViewsLaw", "kinds", "(LPrivateViews;II[J)I"⟩ method_32_code 5 (some .int) [(0, 10, 13, 21)] ∈ jTB := jtb (List.mem_of_getElem? (i := 1346) (by decide +kernel)) (by decide +kernel)
theorem ky_1345 : Cond.static ⟨"PrivateViewsLaw", "kinds", "(LPrivateViews;II[J)I"⟩ ∈ jTB := jtb (List.mem_of_getElem? (i := 1345) (by decide +kernel)) (by decide +kernel)
theorem ky_1344 : Cond.methodLink "PrivateViewsLaw" 258 ⟨"PrivateViewsLaw", "kinds", "(LPrivateViews;II[J)I"⟩ ∈ jTB := jtb (List.mem_of_getElem? (i := 1344) (by decide +kernel)) (by decide +kernel)
theorem ky_1992 : Cond.methodLink "PrivateViewsLaw" 260 ⟨"PrivateViewsModel", "kinds", "(II)I"⟩ ∈ jTB := jtb (List.mem_of_getElem? (i := 1992) (by decide +kernel)) (by decide +kernel)
theorem ky_1365 : Cond.codeWith ⟨"PrivateViewsLaw", "by", "(LPrivateViews;II[J)I"⟩ method_33_code 5 (some .int) [(0, 10, 13, 21)] ∈ jTB := jtb (List.mem_of_getElem? (i := 1365) (by decide +kernel)) (by decide +kernel)
theorem ky_1364 : Cond.static ⟨"PrivateViewsLaw", "by", "(LPrivateViews;II[J)I"⟩ ∈ jTB := jtb (List.mem_of_getElem? (i := 1364) (by decide +kernel)) (by decide +kernel)
theorem ky_1363 : Cond.methodLink "PrivateViewsLaw" 261 ⟨"PrivateViewsLaw", "by", "(LPrivateViews;II[J)I"⟩ ∈ jTB := jtb (List.mem_of_getElem? (i := 1363) (by decide +kernel)) (by decide +kernel)
theorem ky_2000 : Cond.methodLink "PrivateViewsLaw" 263 ⟨"PrivateViewsModel", "by", "(II)I"⟩ ∈ jTB := jtb (List.mem_of_getElem? (i := 2000) (by decide +kernel)) (by decide +kernel)
theorem ky_1376 : Cond.codeWith ⟨"PrivateViewsLaw", "group", "(LPrivateViews;IIII[J)I"⟩ method_34_code 7 (some .int) [(0, 14, 17, 21), (0, 14, 21, 39), (0, 14, 25, 13)] ∈ jTB := jtb (List.mem_of_getElem? (i := 1376) (by decide +kernel)) (by decide +kernel)
theorem ky_1375 : Cond.static ⟨"PrivateViewsLaw", "group", "(LPrivateViews;IIII[J)I"⟩ ∈ jTB := jtb (List.mem_of_getElem? (i := 1375) (by decide +kernel)) (by decide +kernel)
theorem ky_1374 : Cond.methodLink "PrivateViewsLaw" 264 ⟨"PrivateViewsLaw", "group", "(LPrivateViews;IIII[J)I"⟩ ∈ jTB := jtb (List.mem_of_getElem? (i := 1374) (by decide +kernel)) (by decide +kernel)
theorem ky_2004 : Cond.methodLink "PrivateViewsLaw" 266 ⟨"PrivateViewsModel", "group", "(IIII)I"⟩ ∈ jTB := jtb (List.mem_of_getElem? (i := 2004) (by decide +kernel)) (by decide +kernel)
theorem ky_1399 : Cond.codeWith ⟨"PrivateViewsLaw", "total", "(LPrivateViews;IIII[J)I"⟩ method_35_code 7 (some .int) [(0, 14, 17, 21), (0, 14, 21, 48), (0, 14, 25, 13)] ∈ jTB := jtb (List.mem_of_getElem? (i := 1399) (by decide +kernel)) (by decide +kernel)
theorem ky_1398 : Cond.static ⟨"PrivateViewsLaw", "total", "(LPrivateViews;IIII[J)I"⟩ ∈ jTB := jtb (List.mem_of_getElem? (i := 1398) (by decide +kernel)) (by decide +kernel)
theorem ky_1397 : Cond.methodLink "PrivateViewsLaw" 267 ⟨"PrivateViewsLaw", "total", "(LPrivateViews;IIII[J)I"⟩ ∈ jTB := jtb (List.mem_of_getElem? (i := 1397) (by decide +kernel)) (by decide +kernel)
theorem ky_2016 : Cond.methodLink "PrivateViewsLaw" 269 ⟨"PrivateViewsModel", "total", "(IIII)I"⟩ ∈ jTB := jtb (List.mem_of_getElem? (i := 2016) (by decide +kernel)) (by decide +kernel)
theorem ky_1410 : Cond.codeWith ⟨"PrivateViewsLaw", "middle", "(LPrivateViews;II[J)I"⟩ method_36_code 5 (some .int) [(0, 10, 13, 21)] ∈ jTB := jtb (List.mem_of_getElem? (i := 1410) (by decide +kernel)) (by decide +kernel)
theorem ky_1409 : Cond.static ⟨"PrivateViewsLaw", "middle", "(LPrivateViews;II[J)I"⟩ ∈ jTB := jtb (List.mem_of_getElem? (i := 1409) (by decide +kernel)) (by decide +kernel)
theorem ky_1408 : Cond.methodLink "PrivateViewsLaw" 270 ⟨"PrivateViewsLaw", "middle", "(LPrivateViews;II[J)I"⟩ ∈ jTB := jtb (List.mem_of_getElem? (i := 1408) (by decide +kernel)) (by decide +kernel)
theorem ky_2020 : Cond.methodLink "PrivateViewsLaw" 272 ⟨"PrivateViewsModel", "middle", "(II)I"⟩ ∈ jTB := jtb (List.mem_of_getElem? (i := 2020) (by decide +kernel)) (by decide +kernel)
theorem ky_1421 : Cond.codeWith ⟨"PrivateViewsLaw", "twice", "(LPrivateViews;I[J)I"⟩ method_37_code 4 (some .int) [(0, 9, 12, 21)] ∈ jTB := jtb (List.mem_of_getElem? (i := 1421) (by decide +kernel)) (by decide +kernel)
theorem ky_1420 : Cond.static ⟨"PrivateViewsLaw", "twice", "(LPrivateViews;I[J)I"⟩ ∈ jTB := jtb (List.mem_of_getElem? (i := 1420) (by decide +kernel)) (by decide +kernel)
theorem ky_1419 : Cond.methodLink "PrivateViewsLaw" 273 ⟨"PrivateViewsLaw", "twice", "(LPrivateViews;I[J)I"⟩ ∈ jTB := jtb (List.mem_of_getElem? (i := 1419) (by decide +kernel)) (by decide +kernel)
theorem ky_2028 : Cond.methodLink "PrivateViewsLaw" 275 ⟨"PrivateViewsModel", "twice", "(I)I"⟩ ∈ jTB := jtb (List.mem_of_getElem? (i := 2028) (by decide +kernel)) (by decide +kernel)
theorem ky_1437 : Cond.codeWith ⟨"PrivateViewsLaw", "barred", "(LPrivateViews;I[J)I"⟩ method_38_code 4 (some .int) [(0, 9, 12, 21)] ∈ jTB := jtb (List.mem_of_getElem? (i := 1437) (by decide +kernel)) (by decide +kernel)
theorem ky_1436 : Cond.static ⟨"PrivateViewsLaw", "barred", "(LPrivateViews;I[J)I"⟩ ∈ jTB := jtb (List.mem_of_getElem? (i := 1436) (by decide +kernel)) (by decide +kernel)
theorem ky_1435 : Cond.methodLink "PrivateViewsLaw" 276 ⟨"PrivateViewsLaw", "barred", "(LPrivateViews;I[J)I"⟩ ∈ jTB := jtb (List.mem_of_getElem? (i := 1435) (by decide +kernel)) (by decide +kernel)
theorem ky_1872 : Cond.methodLink "PrivateViewsLaw" 278 ⟨"PrivateViewsModel", "barred", "(I)I"⟩ ∈ jTB := jtb (List.mem_of_getElem? (i := 1872) (by decide +kernel)) (by decide +kernel)
theorem ky_1444 : Cond.codeWith ⟨"PrivateViewsLaw", "find", "(LPrivateViews;IIII[J)I"⟩ method_39_code 7 (some .int) [(0, 14, 17, 21), (0, 14, 21, 13)] ∈ jTB := jtb (List.mem_of_getElem? (i := 1444) (by decide +kernel)) (by decide +kernel)
theorem ky_1443 : Cond.static ⟨"PrivateViewsLaw", "find", "(LPrivateViews;IIII[J)I"⟩ ∈ jTB := jtb (List.mem_of_getElem? (i := 1443) (by decide +kernel)) (by decide +kernel)
theorem ky_1442 : Cond.methodLink "PrivateViewsLaw" 279 ⟨"PrivateViewsLaw", "find", "(LPrivateViews;IIII[J)I"⟩ ∈ jTB := jtb (List.mem_of_getElem? (i := 1442) (by decide +kernel)) (by decide +kernel)
theorem ky_2036 : Cond.methodLink "PrivateViewsLaw" 281 ⟨"PrivateViewsModel", "find", "(IIII)I"⟩ ∈ jTB := jtb (List.mem_of_getElem? (i := 2036) (by decide +kernel)) (by decide +kernel)
theorem ky_1451 : Cond.codeWith ⟨"PrivateViewsLaw", "log", "(LPrivateViews;II[J)I"⟩ method_40_code 5 (some .int) [(0, 10, 13, 39)] ∈ jTB := jtb (List.mem_of_getElem? (i := 1451) (by decide +kernel)) (by decide +kernel)
theorem ky_1450 : Cond.static ⟨"PrivateViewsLaw", "log", "(LPrivateViews;II[J)I"⟩ ∈ jTB := jtb (List.mem_of_getElem? (i := 1450) (by decide +kernel)) (by decide +kernel)
theorem ky_1449 : Cond.methodLink "PrivateViewsLaw" 282 ⟨"PrivateViewsLaw", "log", "(LPrivateViews;II[J)I"⟩ ∈ jTB := jtb (List.mem_of_getElem? (i := 1449) (by decide +kernel)) (by decide +kernel)
theorem ky_2040 : Cond.methodLink "PrivateViewsLaw" 284 ⟨"PrivateViewsModel", "log", "(II)I"⟩ ∈ jTB := jtb (List.mem_of_getElem? (i := 2040) (by decide +kernel)) (by decide +kernel)
theorem ky_384 : Cond.methodLink "PrivateViewsLaw" 285 ⟨"PrivateViews", "image", "()V"⟩ ∈ jTB := jtb (List.mem_of_getElem? (i := 384) (by decide +kernel)) (by decide +kernel)
theorem ky_1531 : Cond.methodLink "PrivateViewsLaw" 288 ⟨"PrivateViewsModel", "image", "()V"⟩ ∈ jTB := jtb (List.mem_of_getElem? (i := 1531) (by decide +kernel)) (by decide +kernel)
theorem ky_432 : Cond.methodLink "PrivateViewsLaw" 289 ⟨"PrivateViews", "back", "()Z"⟩ ∈ jTB := jtb (List.mem_of_getElem? (i := 432) (by decide +kernel)) (by decide +kernel)
theorem ky_1535 : Cond.methodLink "PrivateViewsLaw" 293 ⟨"PrivateViewsModel", "back", "()Z"⟩ ∈ jTB := jtb (List.mem_of_getElem? (i := 1535) (by decide +kernel)) (by decide +kernel)
theorem ky_436 : Cond.methodLink "PrivateViewsLaw" 294 ⟨"PrivateViews", "count", "(I)I"⟩ ∈ jTB := jtb (List.mem_of_getElem? (i := 436) (by decide +kernel)) (by decide +kernel)
theorem ky_2044 : Cond.methodLink "PrivateViewsLaw" 297 ⟨"PrivateViewsModel", "count", "(I)I"⟩ ∈ jTB := jtb (List.mem_of_getElem? (i := 2044) (by decide +kernel)) (by decide +kernel)
theorem d_W_0 : decode code 0 = .ok (.new 8, 3) := by decide +kernel
theorem d_W_3 : decode code 3 = .ok (.dup, 1) := by decide +kernel
theorem d_W_4 : decode code 4 = .ok (.invokespecial 139, 3) := by decide +kernel
theorem d_W_7 : decode code 7 = .ok (.astore_n 1, 1) := by decide +kernel
theorem d_W_8 : decode code 8 = .ok (.new 140, 3) := by decide +kernel
theorem d_W_11 : decode code 11 = .ok (.dup, 1) := by decide +kernel
theorem d_W_12 : decode code 12 = .ok (.invokespecial 142, 3) := by decide +kernel
theorem d_W_15 : decode code 15 = .ok (.astore_n 2, 1) := by decide +kernel
theorem d_W_16 : decode code 16 = .ok (.iconst 1, 1) := by decide +kernel
theorem d_W_17 : decode code 17 = .ok (.newarray .long, 2) := by decide +kernel
theorem d_W_19 : decode code 19 = .ok (.astore_n 3, 1) := by decide +kernel
theorem d_W_20 : decode code 20 = .ok (.iconst 0, 1) := by decide +kernel
theorem d_W_21 : decode code 21 = .ok (.istore 4, 2) := by decide +kernel
theorem d_W_23 : decode code 23 = .ok (.iload 4, 2) := by decide +kernel
theorem d_W_25 : decode code 25 = .ok (.aload_n 0, 1) := by decide +kernel
theorem d_W_26 : decode code 26 = .ok (.arraylength, 1) := by decide +kernel
theorem d_W_27 : decode code 27 = .ok (.bipush 6, 2) := by decide +kernel
theorem d_W_29 : decode code 29 = .ok (.isub, 1) := by decide +kernel
theorem d_W_30 : decode code 30 = .ok (.if_icmp .gt 3072, 3) := by decide +kernel
theorem d_W_33 : decode code 33 = .ok (.aload_n 0, 1) := by decide +kernel
theorem d_W_34 : decode code 34 = .ok (.iload 4, 2) := by decide +kernel
theorem d_W_36 : decode code 36 = .ok (.iaload, 1) := by decide +kernel
theorem d_W_37 : decode code 37 = .ok (.bipush 63, 2) := by decide +kernel
theorem d_W_39 : decode code 39 = .ok (.iand, 1) := by decide +kernel
theorem d_W_40 : decode code 40 = .ok (.tableswitch 3056 0 44 #[196, 269, 294, 338, 394, 407, 463, 531, 556, 624, 692, 760, 828, 920, 1000, 1092, 1184, 1276, 1356, 1424, 1492, 1572, 1628, 1684, 1759, 1827, 1883, 1939, 2007, 2063, 2131, 2199, 2279, 2347, 2415, 2483, 2575, 2667, 2735, 2791, 2847, 2939, 3007, 3018, 3031], 196) := by decide +kernel
theorem d_W_236 : decode code 236 = .ok (.aload_n 1, 1) := by decide +kernel
theorem l_W_237 : jwLd code 237 1 := ⟨by decide +kernel, by decide +kernel, by decide +kernel, by decide +kernel, by decide +kernel⟩
theorem l_W_243 : jwLd code 243 2 := ⟨by decide +kernel, by decide +kernel, by decide +kernel, by decide +kernel, by decide +kernel⟩
theorem l_W_249 : jwLd code 249 3 := ⟨by decide +kernel, by decide +kernel, by decide +kernel, by decide +kernel, by decide +kernel⟩
theorem l_W_255 : jwLd code 255 4 := ⟨by decide +kernel, by decide +kernel, by decide +kernel, by decide +kernel, by decide +kernel⟩
theorem l_W_261 : jwLd code 261 5 := ⟨by decide +kernel, by decide +kernel, by decide +kernel, by decide +kernel, by decide +kernel⟩
theorem d_W_267 : decode code 267 = .ok (.invokevirtual 143, 3) := by decide +kernel
theorem d_W_270 : decode code 270 = .ok (.aload_n 2, 1) := by decide +kernel
theorem l_W_271 : jwLd code 271 1 := ⟨by decide +kernel, by decide +kernel, by decide +kernel, by decide +kernel, by decide +kernel⟩
theorem l_W_277 : jwLd code 277 2 := ⟨by decide +kernel, by decide +kernel, by decide +kernel, by decide +kernel, by decide +kernel⟩
theorem l_W_283 : jwLd code 283 3 := ⟨by decide +kernel, by decide +kernel, by decide +kernel, by decide +kernel, by decide +kernel⟩
theorem l_W_289 : jwLd code 289 4 := ⟨by decide +kernel, by decide +kernel, by decide +kernel, by decide +kernel, by decide +kernel⟩
theorem l_W_295 : jwLd code 295 5 := ⟨by decide +kernel, by decide +kernel, by decide +kernel, by decide +kernel, by decide +kernel⟩
theorem d_W_301 : decode code 301 = .ok (.invokevirtual 147, 3) := by decide +kernel
theorem d_W_304 : decode code 304 = .ok (.if_icmp .eq 2792, 3) := by decide +kernel
theorem d_W_309 : decode code 309 = .ok (.aload_n 1, 1) := by decide +kernel
theorem l_W_310 : jwLd code 310 1 := ⟨by decide +kernel, by decide +kernel, by decide +kernel, by decide +kernel, by decide +kernel⟩
theorem d_W_316 : decode code 316 = .ok (.invokevirtual 148, 3) := by decide +kernel
theorem d_W_319 : decode code 319 = .ok (.aload_n 2, 1) := by decide +kernel
theorem l_W_320 : jwLd code 320 1 := ⟨by decide +kernel, by decide +kernel, by decide +kernel, by decide +kernel, by decide +kernel⟩
theorem d_W_326 : decode code 326 = .ok (.invokevirtual 152, 3) := by decide +kernel
theorem d_W_329 : decode code 329 = .ok (.if_icmp .eq 2767, 3) := by decide +kernel
theorem d_W_334 : decode code 334 = .ok (.aload_n 1, 1) := by decide +kernel
theorem d_W_335 : decode code 335 = .ok (.aload_n 3, 1) := by decide +kernel
theorem d_W_336 : decode code 336 = .ok (.invokestatic 153, 3) := by decide +kernel
theorem d_W_339 : decode code 339 = .ok (.istore 5, 2) := by decide +kernel
theorem d_W_341 : decode code 341 = .ok (.aload_n 2, 1) := by decide +kernel
theorem t_W_342 : jwTl code 342 158 15 := ⟨by decide +kernel, by decide +kernel, by decide +kernel, by decide +kernel, by decide +kernel, by decide +kernel, by decide +kernel, by decide +kernel⟩
theorem u_W_342 : jwTi code 342 2721 := ⟨by decide +kernel, by decide +kernel, by decide +kernel, by decide +kernel, by decide +kernel, by decide +kernel, by decide +kernel, by decide +kernel⟩
theorem d_W_378 : decode code 378 = .ok (.aload_n 1, 1) := by decide +kernel
theorem l_W_379 : jwLd code 379 1 := ⟨by decide +kernel, by decide +kernel, by decide +kernel, by decide +kernel, by decide +kernel⟩
theorem d_W_385 : decode code 385 = .ok (.aload_n 3, 1) := by decide +kernel
theorem d_W_386 : decode code 386 = .ok (.invokestatic 162, 3) := by decide +kernel
theorem d_W_389 : decode code 389 = .ok (.istore 5, 2) := by decide +kernel
theorem d_W_391 : decode code 391 = .ok (.aload_n 2, 1) := by decide +kernel
theorem l_W_392 : jwLd code 392 1 := ⟨by decide +kernel, by decide +kernel, by decide +kernel, by decide +kernel, by decide +kernel⟩
theorem t_W_398 : jwTl code 398 165 15 := ⟨by decide +kernel, by decide +kernel, by decide +kernel, by decide +kernel, by decide +kernel, by decide +kernel, by decide +kernel, by decide +kernel⟩
theorem u_W_398 : jwTi code 398 2665 := ⟨by decide +kernel, by decide +kernel, by decide +kernel, by decide +kernel, by decide +kernel, by decide +kernel, by decide +kernel, by decide +kernel⟩
theorem d_W_434 : decode code 434 = .ok (.aload_n 1, 1) := by decide +kernel
theorem d_W_435 : decode code 435 = .ok (.invokevirtual 166, 3) := by decide +kernel
theorem d_W_438 : decode code 438 = .ok (.aload_n 2, 1) := by decide +kernel
theorem d_W_439 : decode code 439 = .ok (.invokevirtual 169, 3) := by decide +kernel
theorem d_W_442 : decode code 442 = .ok (.if_icmp .eq 2654, 3) := by decide +kernel
theorem d_W_447 : decode code 447 = .ok (.aload_n 1, 1) := by decide +kernel
theorem l_W_448 : jwLd code 448 1 := ⟨by decide +kernel, by decide +kernel, by decide +kernel, by decide +kernel, by decide +kernel⟩
theorem d_W_454 : decode code 454 = .ok (.aload_n 3, 1) := by decide +kernel
theorem d_W_455 : decode code 455 = .ok (.invokestatic 170, 3) := by decide +kernel
theorem d_W_458 : decode code 458 = .ok (.istore 5, 2) := by decide +kernel
theorem d_W_460 : decode code 460 = .ok (.aload_n 2, 1) := by decide +kernel
theorem l_W_461 : jwLd code 461 1 := ⟨by decide +kernel, by decide +kernel, by decide +kernel, by decide +kernel, by decide +kernel⟩
theorem t_W_467 : jwTl code 467 172 15 := ⟨by decide +kernel, by decide +kernel, by decide +kernel, by decide +kernel, by decide +kernel, by decide +kernel, by decide +kernel, by decide +kernel⟩
theorem u_W_467 : jwTi code 467 2596 := ⟨by decide +kernel, by decide +kernel, by decide +kernel, by decide +kernel, by decide +kernel, by decide +kernel, by decide +kernel, by decide +kernel⟩
theorem d_W_503 : decode code 503 = .ok (.aload_n 1, 1) := by decide +kernel
theorem l_W_504 : jwLd code 504 1 := ⟨by decide +kernel, by decide +kernel, by decide +kernel, by decide +kernel, by decide +kernel⟩
theorem l_W_510 : jwLd code 510 2 := ⟨by decide +kernel, by decide +kernel, by decide +kernel, by decide +kernel, by decide +kernel⟩
theorem d_W_516 : decode code 516 = .ok (.aload_n 3, 1) := by decide +kernel
theorem d_W_517 : decode code 517 = .ok (.invokestatic 173, 3) := by decide +kernel
theorem d_W_520 : decode code 520 = .ok (.istore 5, 2) := by decide +kernel
theorem d_W_522 : decode code 522 = .ok (.aload_n 2, 1) := by decide +kernel
theorem l_W_523 : jwLd code 523 1 := ⟨by decide +kernel, by decide +kernel, by decide +kernel, by decide +kernel, by decide +kernel⟩
theorem l_W_529 : jwLd code 529 2 := ⟨by decide +kernel, by decide +kernel, by decide +kernel, by decide +kernel, by decide +kernel⟩
theorem t_W_535 : jwTl code 535 176 15 := ⟨by decide +kernel, by decide +kernel, by decide +kernel, by decide +kernel, by decide +kernel, by decide +kernel, by decide +kernel, by decide +kernel⟩
theorem u_W_535 : jwTi code 535 2528 := ⟨by decide +kernel, by decide +kernel, by decide +kernel, by decide +kernel, by decide +kernel, by decide +kernel, by decide +kernel, by decide +kernel⟩
theorem d_W_571 : decode code 571 = .ok (.aload_n 1, 1) := by decide +kernel
theorem l_W_572 : jwLd code 572 1 := ⟨by decide +kernel, by decide +kernel, by decide +kernel, by decide +kernel, by decide +kernel⟩
theorem d_W_578 : decode code 578 = .ok (.invokevirtual 177, 3) := by decide +kernel
theorem d_W_581 : decode code 581 = .ok (.aload_n 2, 1) := by decide +kernel
theorem l_W_582 : jwLd code 582 1 := ⟨by decide +kernel, by decide +kernel, by decide +kernel, by decide +kernel, by decide +kernel⟩
theorem d_W_588 : decode code 588 = .ok (.invokevirtual 180, 3) := by decide +kernel
theorem d_W_591 : decode code 591 = .ok (.if_icmp .eq 2505, 3) := by decide +kernel
theorem d_W_596 : decode code 596 = .ok (.aload_n 1, 1) := by decide +kernel
theorem l_W_597 : jwLd code 597 1 := ⟨by decide +kernel, by decide +kernel, by decide +kernel, by decide +kernel, by decide +kernel⟩
theorem l_W_603 : jwLd code 603 2 := ⟨by decide +kernel, by decide +kernel, by decide +kernel, by decide +kernel, by decide +kernel⟩
theorem d_W_609 : decode code 609 = .ok (.aload_n 3, 1) := by decide +kernel
theorem d_W_610 : decode code 610 = .ok (.invokestatic 181, 3) := by decide +kernel
theorem d_W_613 : decode code 613 = .ok (.istore 5, 2) := by decide +kernel
theorem d_W_615 : decode code 615 = .ok (.aload_n 2, 1) := by decide +kernel
theorem l_W_616 : jwLd code 616 1 := ⟨by decide +kernel, by decide +kernel, by decide +kernel, by decide +kernel, by decide +kernel⟩
theorem l_W_622 : jwLd code 622 2 := ⟨by decide +kernel, by decide +kernel, by decide +kernel, by decide +kernel, by decide +kernel⟩
theorem t_W_628 : jwTl code 628 183 15 := ⟨by decide +kernel, by decide +kernel, by decide +kernel, by decide +kernel, by decide +kernel, by decide +kernel, by decide +kernel, by decide +kernel⟩
theorem u_W_628 : jwTi code 628 2435 := ⟨by decide +kernel, by decide +kernel, by decide +kernel, by decide +kernel, by decide +kernel, by decide +kernel, by decide +kernel, by decide +kernel⟩
theorem d_W_664 : decode code 664 = .ok (.aload_n 1, 1) := by decide +kernel
theorem l_W_665 : jwLd code 665 1 := ⟨by decide +kernel, by decide +kernel, by decide +kernel, by decide +kernel, by decide +kernel⟩
theorem l_W_671 : jwLd code 671 2 := ⟨by decide +kernel, by decide +kernel, by decide +kernel, by decide +kernel, by decide +kernel⟩
theorem d_W_677 : decode code 677 = .ok (.aload_n 3, 1) := by decide +kernel
theorem d_W_678 : decode code 678 = .ok (.invokestatic 184, 3) := by decide +kernel
theorem d_W_681 : decode code 681 = .ok (.istore 5, 2) := by decide +kernel
theorem d_W_683 : decode code 683 = .ok (.aload_n 2, 1) := by decide +kernel
theorem l_W_684 : jwLd code 684 1 := ⟨by decide +kernel, by decide +kernel, by decide +kernel, by decide +kernel, by decide +kernel⟩
theorem l_W_690 : jwLd code 690 2 := ⟨by decide +kernel, by decide +kernel, by decide +kernel, by decide +kernel, by decide +kernel⟩
theorem t_W_696 : jwTl code 696 186 15 := ⟨by decide +kernel, by decide +kernel, by decide +kernel, by decide +kernel, by decide +kernel, by decide +kernel, by decide +kernel, by decide +kernel⟩
theorem u_W_696 : jwTi code 696 2367 := ⟨by decide +kernel, by decide +kernel, by decide +kernel, by decide +kernel, by decide +kernel, by decide +kernel, by decide +kernel, by decide +kernel⟩
theorem d_W_732 : decode code 732 = .ok (.aload_n 1, 1) := by decide +kernel
theorem l_W_733 : jwLd code 733 1 := ⟨by decide +kernel, by decide +kernel, by decide +kernel, by decide +kernel, by decide +kernel⟩
theorem l_W_739 : jwLd code 739 2 := ⟨by decide +kernel, by decide +kernel, by decide +kernel, by decide +kernel, by decide +kernel⟩
theorem d_W_745 : decode code 745 = .ok (.aload_n 3, 1) := by decide +kernel
theorem d_W_746 : decode code 746 = .ok (.invokestatic 187, 3) := by decide +kernel
theorem d_W_749 : decode code 749 = .ok (.istore 5, 2) := by decide +kernel
theorem d_W_751 : decode code 751 = .ok (.aload_n 2, 1) := by decide +kernel
theorem l_W_752 : jwLd code 752 1 := ⟨by decide +kernel, by decide +kernel, by decide +kernel, by decide +kernel, by decide +kernel⟩
theorem l_W_758 : jwLd code 758 2 := ⟨by decide +kernel, by decide +kernel, by decide +kernel, by decide +kernel, by decide +kernel⟩
theorem t_W_764 : jwTl code 764 189 15 := ⟨by decide +kernel, by decide +kernel, by decide +kernel, by decide +kernel, by decide +kernel, by decide +kernel, by decide +kernel, by decide +kernel⟩
theorem u_W_764 : jwTi code 764 2299 := ⟨by decide +kernel, by decide +kernel, by decide +kernel, by decide +kernel, by decide +kernel, by decide +kernel, by decide +kernel, by decide +kernel⟩
theorem d_W_800 : decode code 800 = .ok (.aload_n 1, 1) := by decide +kernel
theorem l_W_801 : jwLd code 801 1 := ⟨by decide +kernel, by decide +kernel, by decide +kernel, by decide +kernel, by decide +kernel⟩
theorem l_W_807 : jwLd code 807 2 := ⟨by decide +kernel, by decide +kernel, by decide +kernel, by decide +kernel, by decide +kernel⟩
theorem d_W_813 : decode code 813 = .ok (.aload_n 3, 1) := by decide +kernel
theorem d_W_814 : decode code 814 = .ok (.invokestatic 190, 3) := by decide +kernel
theorem d_W_817 : decode code 817 = .ok (.istore 5, 2) := by decide +kernel
theorem d_W_819 : decode code 819 = .ok (.aload_n 2, 1) := by decide +kernel
theorem l_W_820 : jwLd code 820 1 := ⟨by decide +kernel, by decide +kernel, by decide +kernel, by decide +kernel, by decide +kernel⟩
theorem l_W_826 : jwLd code 826 2 := ⟨by decide +kernel, by decide +kernel, by decide +kernel, by decide +kernel, by decide +kernel⟩
theorem t_W_832 : jwTl code 832 192 15 := ⟨by decide +kernel, by decide +kernel, by decide +kernel, by decide +kernel, by decide +kernel, by decide +kernel, by decide +kernel, by decide +kernel⟩
theorem u_W_832 : jwTi code 832 2231 := ⟨by decide +kernel, by decide +kernel, by decide +kernel, by decide +kernel, by decide +kernel, by decide +kernel, by decide +kernel, by decide +kernel⟩
theorem d_W_868 : decode code 868 = .ok (.aload_n 1, 1) := by decide +kernel
theorem l_W_869 : jwLd code 869 1 := ⟨by decide +kernel, by decide +kernel, by decide +kernel, by decide +kernel, by decide +kernel⟩
theorem l_W_875 : jwLd code 875 2 := ⟨by decide +kernel, by decide +kernel, by decide +kernel, by decide +kernel, by decide +kernel⟩
theorem l_W_881 : jwLd code 881 3 := ⟨by decide +kernel, by decide +kernel, by decide +kernel, by decide +kernel, by decide +kernel⟩
theorem l_W_887 : jwLd code 887 4 := ⟨by decide +kernel, by decide +kernel, by decide +kernel, by decide +kernel, by decide +kernel⟩
theorem d_W_893 : decode code 893 = .ok (.aload_n 3, 1) := by decide +kernel
theorem d_W_894 : decode code 894 = .ok (.invokestatic 193, 3) := by decide +kernel
theorem d_W_897 : decode code 897 = .ok (.istore 5, 2) := by decide +kernel
theorem d_W_899 : decode code 899 = .ok (.aload_n 2, 1) := by decide +kernel
theorem l_W_900 : jwLd code 900 1 := ⟨by decide +kernel, by decide +kernel, by decide +kernel, by decide +kernel, by decide +kernel⟩
theorem l_W_906 : jwLd code 906 2 := ⟨by decide +kernel, by decide +kernel, by decide +kernel, by decide +kernel, by decide +kernel⟩
theorem l_W_912 : jwLd code 912 3 := ⟨by decide +kernel, by decide +kernel, by decide +kernel, by decide +kernel, by decide +kernel⟩
theorem l_W_918 : jwLd code 918 4 := ⟨by decide +kernel, by decide +kernel, by decide +kernel, by decide +kernel, by decide +kernel⟩
theorem t_W_924 : jwTl code 924 196 15 := ⟨by decide +kernel, by decide +kernel, by decide +kernel, by decide +kernel, by decide +kernel, by decide +kernel, by decide +kernel, by decide +kernel⟩
theorem u_W_924 : jwTi code 924 2139 := ⟨by decide +kernel, by decide +kernel, by decide +kernel, by decide +kernel, by decide +kernel, by decide +kernel, by decide +kernel, by decide +kernel⟩
theorem d_W_960 : decode code 960 = .ok (.aload_n 1, 1) := by decide +kernel
theorem l_W_961 : jwLd code 961 1 := ⟨by decide +kernel, by decide +kernel, by decide +kernel, by decide +kernel, by decide +kernel⟩
theorem l_W_967 : jwLd code 967 2 := ⟨by decide +kernel, by decide +kernel, by decide +kernel, by decide +kernel, by decide +kernel⟩
theorem l_W_973 : jwLd code 973 3 := ⟨by decide +kernel, by decide +kernel, by decide +kernel, by decide +kernel, by decide +kernel⟩
theorem d_W_979 : decode code 979 = .ok (.aload_n 3, 1) := by decide +kernel
theorem d_W_980 : decode code 980 = .ok (.invokestatic 197, 3) := by decide +kernel
theorem d_W_983 : decode code 983 = .ok (.istore 5, 2) := by decide +kernel
theorem d_W_985 : decode code 985 = .ok (.aload_n 2, 1) := by decide +kernel
theorem l_W_986 : jwLd code 986 1 := ⟨by decide +kernel, by decide +kernel, by decide +kernel, by decide +kernel, by decide +kernel⟩
theorem l_W_992 : jwLd code 992 2 := ⟨by decide +kernel, by decide +kernel, by decide +kernel, by decide +kernel, by decide +kernel⟩
theorem l_W_998 : jwLd code 998 3 := ⟨by decide +kernel, by decide +kernel, by decide +kernel, by decide +kernel, by decide +kernel⟩
theorem t_W_1004 : jwTl code 1004 200 15 := ⟨by decide +kernel, by decide +kernel, by decide +kernel, by decide +kernel, by decide +kernel, by decide +kernel, by decide +kernel, by decide +kernel⟩
theorem u_W_1004 : jwTi code 1004 2059 := ⟨by decide +kernel, by decide +kernel, by decide +kernel, by decide +kernel, by decide +kernel, by decide +kernel, by decide +kernel, by decide +kernel⟩
theorem d_W_1040 : decode code 1040 = .ok (.aload_n 1, 1) := by decide +kernel
theorem l_W_1041 : jwLd code 1041 1 := ⟨by decide +kernel, by decide +kernel, by decide +kernel, by decide +kernel, by decide +kernel⟩
theorem l_W_1047 : jwLd code 1047 2 := ⟨by decide +kernel, by decide +kernel, by decide +kernel, by decide +kernel, by decide +kernel⟩
theorem l_W_1053 : jwLd code 1053 3 := ⟨by decide +kernel, by decide +kernel, by decide +kernel, by decide +kernel, by decide +kernel⟩

def y_5_takeIn : MethodName := ⟨"PrivateViews$Reader", "takeIn", "(I)V"⟩
def y_11_feed : MethodName := ⟨"PrivateViews", "feed", "(IIIII)I"⟩
def y_11_end : MethodName := ⟨"PrivateViews", "end", "(I)Z"⟩
def y_11_fault : MethodName := ⟨"PrivateViews", "fault", "()I"⟩
def y_6_at : MethodName := ⟨"PrivateViews$RowList", "at", "(I)I"⟩
def y_7_isSeat : MethodName := ⟨"PrivateViews$Sheet", "isSeat", "(I)Z"⟩
def y_7_keyAt : MethodName := ⟨"PrivateViews$Sheet", "keyAt", "(I)I"⟩
def y_11_order : MethodName := ⟨"PrivateViews", "order", "(I)I"⟩
def y_6_copyFrom : MethodName := ⟨"PrivateViews$RowList", "copyFrom", "(LPrivateViews$RowList;)V"⟩
def y_7_copyFrom : MethodName := ⟨"PrivateViews$Sheet", "copyFrom", "(LPrivateViews$Sheet;)V"⟩
def y_1_copyFrom : MethodName := ⟨"PrivateViews$Filter", "copyFrom", "(LPrivateViews$Filter;)V"⟩
def y_2_copyFrom : MethodName := ⟨"PrivateViews$Lens", "copyFrom", "(LPrivateViews$Lens;)V"⟩
def y_0_copyFrom : MethodName := ⟨"PrivateViews$Edit", "copyFrom", "(LPrivateViews$Edit;)V"⟩
def y_10_copyFrom : MethodName := ⟨"PrivateViews$View", "copyFrom", "(LPrivateViews$View;)V"⟩
def y_3_copyFrom : MethodName := ⟨"PrivateViews$Log", "copyFrom", "(LPrivateViews$Log;)V"⟩
def y_8_copyFrom : MethodName := ⟨"PrivateViews$State", "copyFrom", "(LPrivateViews$State;)V"⟩
def y_11_back : MethodName := ⟨"PrivateViews", "back", "()Z"⟩
def y_6_length : MethodName := ⟨"PrivateViews$RowList", "length", "()I"⟩
def y_7_rowsNow : MethodName := ⟨"PrivateViews$Sheet", "rowsNow", "()I"⟩
def y_11_count : MethodName := ⟨"PrivateViews", "count", "(I)I"⟩
def y_5_useUp : MethodName := ⟨"PrivateViews$Reader", "useUp", "()V"⟩
def y_5_openUsedText : MethodName := ⟨"PrivateViews$Reader", "openUsedText", "()V"⟩
def y_5_openText : MethodName := ⟨"PrivateViews$Reader", "openText", "()V"⟩
def y_9_knowColumns : MethodName := ⟨"PrivateViews$Texts", "knowColumns", "(LPrivateViews$Sheet;)V"⟩
def y_5_skipBlanks : MethodName := ⟨"PrivateViews$Reader", "skipBlanks", "()V"⟩
def y_5_isOver : MethodName := ⟨"PrivateViews$Reader", "isOver", "()Z"⟩
def y_5_isWordHere : MethodName := ⟨"PrivateViews$Reader", "isWordHere", "(Ljava/lang/String;)Z"⟩
def y_5_takeWord : MethodName := ⟨"PrivateViews$Reader", "takeWord", "(Ljava/lang/String;)Z"⟩
def y_5_failHere : MethodName := ⟨"PrivateViews$Reader", "failHere", "()Z"⟩
def y_9_readKinds : MethodName := ⟨"PrivateViews$Texts", "readKinds", "(LPrivateViews$Reader;)Z"⟩
def y_5_failAt : MethodName := ⟨"PrivateViews$Reader", "failAt", "(I)Z"⟩
def y_9_beginRow : MethodName := ⟨"PrivateViews$Texts", "beginRow", "()V"⟩
def y_9_kindAsked : MethodName := ⟨"PrivateViews$Texts", "kindAsked", "(I)I"⟩
def y_5_byteAt : MethodName := ⟨"PrivateViews$Reader", "byteAt", "(I)I"⟩
def y_5_takeSign : MethodName := ⟨"PrivateViews$Reader", "takeSign", "(C)Z"⟩
def y_5_isDigitAt : MethodName := ⟨"PrivateViews$Reader", "isDigitAt", "(I)Z"⟩
def y_5_takeNumber : MethodName := ⟨"PrivateViews$Reader", "takeNumber", "(Z)Z"⟩
def y_5_isLetterAt : MethodName := ⟨"PrivateViews$Reader", "isLetterAt", "(I)Z"⟩
def y_5_takeLetters : MethodName := ⟨"PrivateViews$Reader", "takeLetters", "()Z"⟩
def y_5_takeCell : MethodName := ⟨"PrivateViews$Reader", "takeCell", "(I)Z"⟩
def y_9_takeValue : MethodName := ⟨"PrivateViews$Texts", "takeValue", "(I)V"⟩
def y_9_readCells : MethodName := ⟨"PrivateViews$Texts", "readCells", "(LPrivateViews$Reader;)Z"⟩
def y_9_readLine : MethodName := ⟨"PrivateViews$Texts", "readLine", "(LPrivateViews$Reader;I)Z"⟩
def y_9_readSheet : MethodName := ⟨"PrivateViews$Texts", "readSheet", "(LPrivateViews$Reader;LPrivateViews$Sheet;)Z"⟩
def y_6_placeOf : MethodName := ⟨"PrivateViews$RowList", "placeOf", "(I)I"⟩
def y_6_holds : MethodName := ⟨"PrivateViews$RowList", "holds", "(I)Z"⟩
def y_7_isColumn : MethodName := ⟨"PrivateViews$Sheet", "isColumn", "(I)Z"⟩
def y_7_write : MethodName := ⟨"PrivateViews$Sheet", "write", "(IIII)V"⟩
def y_7_seatNewRow : MethodName := ⟨"PrivateViews$Sheet", "seatNewRow", "()I"⟩
def y_9_widthOf : MethodName := ⟨"PrivateViews$Texts", "widthOf", "(I)I"⟩
def y_9_toldAt : MethodName := ⟨"PrivateViews$Texts", "toldAt", "(II)I"⟩
def y_6_putAt : MethodName := ⟨"PrivateViews$RowList", "putAt", "(II)V"⟩
def y_6_putLast : MethodName := ⟨"PrivateViews$RowList", "putLast", "(I)V"⟩
def y_7_valueAt : MethodName := ⟨"PrivateViews$Sheet", "valueAt", "(II)I"⟩
def y_1_matches : MethodName := ⟨"PrivateViews$Filter", "matches", "(IZI)Z"⟩
def y_1_isAs : MethodName := ⟨"PrivateViews$Filter", "isAs", "(II)Z"⟩
def y_1_accepts : MethodName := ⟨"PrivateViews$Filter", "accepts", "(I)Z"⟩
def y_2_firstUnlike : MethodName := ⟨"PrivateViews$Lens", "firstUnlike", "(LPrivateViews$Sheet;I)I"⟩
def y_8_joinOthers : MethodName := ⟨"PrivateViews$State", "joinOthers", "(II)V"⟩
def y_8_takeSheetText : MethodName := ⟨"PrivateViews$State", "takeSheetText", "(LPrivateViews$Texts;)V"⟩
def y_11_sheet : MethodName := ⟨"PrivateViews", "sheet", "()I"⟩
def y_11_viewNumbered : MethodName := ⟨"PrivateViews", "viewNumbered", "(I)LPrivateViews$View;"⟩
def y_2_forget : MethodName := ⟨"PrivateViews$Lens", "forget", "()V"⟩
def y_9_readColumn : MethodName := ⟨"PrivateViews$Texts", "readColumn", "(LPrivateViews$Reader;)Z"⟩
def y_2_filterOf : MethodName := ⟨"PrivateViews$Lens", "filterOf", "(I)LPrivateViews$Filter;"⟩
def y_9_takeNots : MethodName := ⟨"PrivateViews$Texts", "takeNots", "(LPrivateViews$Reader;)I"⟩
def y_1_takeTest : MethodName := ⟨"PrivateViews$Filter", "takeTest", "(IIII)V"⟩
def y_9_readRange : MethodName := ⟨"PrivateViews$Texts", "readRange", "(LPrivateViews$Reader;LPrivateViews$Filter;I)Z"⟩
def y_9_isPatternSign : MethodName := ⟨"PrivateViews$Texts", "isPatternSign", "(LPrivateViews$Reader;I)Z"⟩
def y_1_withSign : MethodName := ⟨"PrivateViews$Filter", "withSign", "(III)I"⟩
def y_9_readPattern : MethodName := ⟨"PrivateViews$Texts", "readPattern", "(LPrivateViews$Reader;LPrivateViews$Filter;I)Z"⟩
def y_9_readFilter : MethodName := ⟨"PrivateViews$Texts", "readFilter", "(LPrivateViews$Reader;)Z"⟩
def y_2_sortAt : MethodName := ⟨"PrivateViews$Lens", "sortAt", "(I)I"⟩
def y_2_sortsBy : MethodName := ⟨"PrivateViews$Lens", "sortsBy", "(I)Z"⟩
def y_2_takeSort : MethodName := ⟨"PrivateViews$Lens", "takeSort", "(I)V"⟩
def y_9_readSort : MethodName := ⟨"PrivateViews$Texts", "readSort", "(LPrivateViews$Reader;II)Z"⟩
def y_2_hides : MethodName := ⟨"PrivateViews$Lens", "hides", "(I)Z"⟩
def y_9_readHide : MethodName := ⟨"PrivateViews$Texts", "readHide", "(LPrivateViews$Reader;)Z"⟩
def y_9_readPart : MethodName := ⟨"PrivateViews$Texts", "readPart", "(LPrivateViews$Reader;)Z"⟩
def y_9_readView : MethodName := ⟨"PrivateViews$Texts", "readView", "(LPrivateViews$Reader;LPrivateViews$Sheet;)Z"⟩
def y_6_takeAllOut : MethodName := ⟨"PrivateViews$RowList", "takeAllOut", "()V"⟩
def y_7_compareBy : MethodName := ⟨"PrivateViews$Sheet", "compareBy", "(III)I"⟩
def y_2_isAhead : MethodName := ⟨"PrivateViews$Lens", "isAhead", "(LPrivateViews$Sheet;II)Z"⟩
def y_8_freshInto : MethodName := ⟨"PrivateViews$State", "freshInto", "(LPrivateViews$Lens;LPrivateViews$RowList;)V"⟩
def y_11_view : MethodName := ⟨"PrivateViews", "view", "(I)I"⟩
def y_11_needColumn : MethodName := ⟨"PrivateViews", "needColumn", "(I)V"⟩
def y_7_kindOf : MethodName := ⟨"PrivateViews$Sheet", "kindOf", "(I)I"⟩
def y_11_kind : MethodName := ⟨"PrivateViews", "kind", "(I)I"⟩
def y_7_seatOf : MethodName := ⟨"PrivateViews$Sheet", "seatOf", "(I)I"⟩
def y_11_seatOfKey : MethodName := ⟨"PrivateViews", "seatOfKey", "(I)I"⟩
def y_11_cell : MethodName := ⟨"PrivateViews", "cell", "(II)I"⟩
def y_11_row : MethodName := ⟨"PrivateViews", "row", "(II)I"⟩
def y_11_place : MethodName := ⟨"PrivateViews", "place", "(II)I"⟩
def y_2_filteredBits : MethodName := ⟨"PrivateViews$Lens", "filteredBits", "()I"⟩
def y_11_about : MethodName := ⟨"PrivateViews", "about", "(II)I"⟩
def y_11_sorts : MethodName := ⟨"PrivateViews", "sorts", "(II)I"⟩
def y_11_seatAtPlace : MethodName := ⟨"PrivateViews", "seatAtPlace", "(LPrivateViews$View;I)I"⟩
def y_11_needShown : MethodName := ⟨"PrivateViews", "needShown", "(LPrivateViews$View;I)V"⟩
def y_1_isWord : MethodName := ⟨"PrivateViews$Filter", "isWord", "(I)Z"⟩
def y_7_mayHold : MethodName := ⟨"PrivateViews$Sheet", "mayHold", "(II)Z"⟩
def y_8_beginEdit : MethodName := ⟨"PrivateViews$State", "beginEdit", "()V"⟩
def y_0_takeChange : MethodName := ⟨"PrivateViews$Edit", "takeChange", "(IIII)V"⟩
def y_3_takeChange : MethodName := ⟨"PrivateViews$Log", "takeChange", "(IIIII)V"⟩
def y_8_changeCell : MethodName := ⟨"PrivateViews$State", "changeCell", "(IIII)V"⟩
def y_10_forgetOldest : MethodName := ⟨"PrivateViews$View", "forgetOldest", "()V"⟩
def y_10_remember : MethodName := ⟨"PrivateViews$View", "remember", "(LPrivateViews$Edit;)V"⟩
def y_8_finishEdit : MethodName := ⟨"PrivateViews$State", "finishEdit", "(I)I"⟩
def y_11_changeOne : MethodName := ⟨"PrivateViews", "changeOne", "(IIII)I"⟩
def y_11_set : MethodName := ⟨"PrivateViews", "set", "(IIII)I"⟩
def y_11_clear : MethodName := ⟨"PrivateViews", "clear", "(III)I"⟩
def y_11_fill : MethodName := ⟨"PrivateViews", "fill", "(IIII)I"⟩
def y_7_mayHoldOrBlank : MethodName := ⟨"PrivateViews$Sheet", "mayHoldOrBlank", "(II)Z"⟩
def y_11_replace : MethodName := ⟨"PrivateViews", "replace", "(IIII)I"⟩
def y_11_swap : MethodName := ⟨"PrivateViews", "swap", "(IIII)I"⟩
def y_9_readGrid : MethodName := ⟨"PrivateViews$Texts", "readGrid", "(LPrivateViews$Reader;LPrivateViews$Lens;I)Z"⟩
def y_9_readGrids : MethodName := ⟨"PrivateViews$Texts", "readGrids", "(LPrivateViews$Reader;LPrivateViews$Sheet;LPrivateViews$Lens;I)Z"⟩
def y_8_pasteGrid : MethodName := ⟨"PrivateViews$State", "pasteGrid", "(LPrivateViews$Texts;IIII)V"⟩
def y_8_pasteGrids : MethodName := ⟨"PrivateViews$State", "pasteGrids", "(LPrivateViews$Texts;III)I"⟩
def y_11_paste : MethodName := ⟨"PrivateViews", "paste", "(III)I"⟩
def y_11_add : MethodName := ⟨"PrivateViews", "add", "(II)I"⟩
def y_6_takeOut : MethodName := ⟨"PrivateViews$RowList", "takeOut", "(I)V"⟩
def y_8_removeRow : MethodName := ⟨"PrivateViews$State", "removeRow", "(I)V"⟩
def y_11_drop : MethodName := ⟨"PrivateViews", "drop", "(II)I"⟩
def y_7_followList : MethodName := ⟨"PrivateViews$Sheet", "followList", "(LPrivateViews$RowList;I)V"⟩
def y_11_drag : MethodName := ⟨"PrivateViews", "drag", "(III)I"⟩
def y_4_takeFresh : MethodName := ⟨"PrivateViews$Questions", "takeFresh", "(LPrivateViews$State;LPrivateViews$View;)I"⟩
def y_11_refresh : MethodName := ⟨"PrivateViews", "refresh", "(I)I"⟩
def y_10_latestEdit : MethodName := ⟨"PrivateViews$View", "latestEdit", "()LPrivateViews$Edit;"⟩
def y_0_firstBarred : MethodName := ⟨"PrivateViews$Edit", "firstBarred", "(LPrivateViews$Sheet;)I"⟩
def y_10_forgetLatest : MethodName := ⟨"PrivateViews$View", "forgetLatest", "()V"⟩
def y_8_takeBack : MethodName := ⟨"PrivateViews$State", "takeBack", "(ILPrivateViews$Edit;)I"⟩
def y_11_undo : MethodName := ⟨"PrivateViews", "undo", "(I)I"⟩
def y_2_suits : MethodName := ⟨"PrivateViews$Lens", "suits", "(LPrivateViews$Sheet;I)Z"⟩
def y_11_fits : MethodName := ⟨"PrivateViews", "fits", "(II)Z"⟩
def y_11_why : MethodName := ⟨"PrivateViews", "why", "(II)I"⟩
def y_4_staleBits : MethodName := ⟨"PrivateViews$Questions", "staleBits", "(LPrivateViews$State;LPrivateViews$View;)I"⟩
def y_11_stale : MethodName := ⟨"PrivateViews", "stale", "(I)I"⟩
def y_4_pendingBits : MethodName := ⟨"PrivateViews$Questions", "pendingBits", "(LPrivateViews$State;LPrivateViews$View;)I"⟩
def y_11_pending : MethodName := ⟨"PrivateViews", "pending", "(I)I"⟩
def y_4_freshPlace : MethodName := ⟨"PrivateViews$Questions", "freshPlace", "(LPrivateViews$State;LPrivateViews$View;I)I"⟩
def y_11_rank : MethodName := ⟨"PrivateViews", "rank", "(II)I"⟩
def y_4_longestBelow : MethodName := ⟨"PrivateViews$Questions", "longestBelow", "(I)I"⟩
def y_4_fewestMoves : MethodName := ⟨"PrivateViews$Questions", "fewestMoves", "(LPrivateViews$State;LPrivateViews$View;)I"⟩
def y_11_moves : MethodName := ⟨"PrivateViews", "moves", "(I)I"⟩
def y_4_pairsTurned : MethodName := ⟨"PrivateViews$Questions", "pairsTurned", "(LPrivateViews$RowList;LPrivateViews$RowList;)I"⟩
def y_11_unlike : MethodName := ⟨"PrivateViews", "unlike", "(II)I"⟩
def y_4_isTold : MethodName := ⟨"PrivateViews$Questions", "isTold", "(LPrivateViews$Sheet;LPrivateViews$RowList;II)Z"⟩
def y_4_tellOneSort : MethodName := ⟨"PrivateViews$Questions", "tellOneSort", "(LPrivateViews$Sheet;LPrivateViews$RowList;)Z"⟩
def y_4_tellTwoSorts : MethodName := ⟨"PrivateViews$Questions", "tellTwoSorts", "(LPrivateViews$Sheet;LPrivateViews$RowList;)Z"⟩
def y_4_tellSorts : MethodName := ⟨"PrivateViews$Questions", "tellSorts", "(LPrivateViews$Sheet;LPrivateViews$RowList;)V"⟩
def y_4_sortNeeded : MethodName := ⟨"PrivateViews$Questions", "sortNeeded", "(I)I"⟩
def y_11_told : MethodName := ⟨"PrivateViews", "told", "(II)I"⟩
def y_4_unseenBetween : MethodName := ⟨"PrivateViews$Questions", "unseenBetween", "(LPrivateViews$RowList;LPrivateViews$RowList;II)I"⟩
def y_11_between : MethodName := ⟨"PrivateViews", "between", "(III)I"⟩
def y_11_needNumbers : MethodName := ⟨"PrivateViews", "needNumbers", "(I)V"⟩
def y_4_sumOf : MethodName := ⟨"PrivateViews$Questions", "sumOf", "(LPrivateViews$Sheet;LPrivateViews$RowList;I)I"⟩
def y_11_sum : MethodName := ⟨"PrivateViews", "sum", "(II)I"⟩
def y_4_isAlike : MethodName := ⟨"PrivateViews$Questions", "isAlike", "(LPrivateViews$Sheet;LPrivateViews$RowList;III)Z"⟩
def y_4_isFirstLike : MethodName := ⟨"PrivateViews$Questions", "isFirstLike", "(LPrivateViews$Sheet;LPrivateViews$RowList;II)Z"⟩
def y_4_groupsOf : MethodName := ⟨"PrivateViews$Questions", "groupsOf", "(LPrivateViews$Sheet;LPrivateViews$RowList;I)I"⟩
def y_11_kinds : MethodName := ⟨"PrivateViews", "kinds", "(II)I"⟩
def y_7_writerAt : MethodName := ⟨"PrivateViews$Sheet", "writerAt", "(II)I"⟩
def y_11_by : MethodName := ⟨"PrivateViews", "by", "(II)I"⟩
def y_4_groupStart : MethodName := ⟨"PrivateViews$Questions", "groupStart", "(LPrivateViews$Sheet;LPrivateViews$RowList;II)I"⟩
def y_11_firstOfGroup : MethodName := ⟨"PrivateViews", "firstOfGroup", "(LPrivateViews$View;II)I"⟩
def y_4_rowsLike : MethodName := ⟨"PrivateViews$Questions", "rowsLike", "(LPrivateViews$Sheet;LPrivateViews$RowList;II)I"⟩
def y_4_lastLike : MethodName := ⟨"PrivateViews$Questions", "lastLike", "(LPrivateViews$Sheet;LPrivateViews$RowList;II)I"⟩
def y_11_group : MethodName := ⟨"PrivateViews", "group", "(IIII)I"⟩
def y_4_sumLike : MethodName := ⟨"PrivateViews$Questions", "sumLike", "(LPrivateViews$Sheet;LPrivateViews$RowList;III)I"⟩
def y_11_total : MethodName := ⟨"PrivateViews", "total", "(IIII)I"⟩
def y_4_middleOf : MethodName := ⟨"PrivateViews$Questions", "middleOf", "(LPrivateViews$Sheet;LPrivateViews$RowList;I)I"⟩
def y_11_middle : MethodName := ⟨"PrivateViews", "middle", "(II)I"⟩
def y_4_isSeenAlike : MethodName := ⟨"PrivateViews$Questions", "isSeenAlike", "(LPrivateViews$Sheet;LPrivateViews$View;II)Z"⟩
def y_4_repeatedBits : MethodName := ⟨"PrivateViews$Questions", "repeatedBits", "(LPrivateViews$Sheet;LPrivateViews$View;)I"⟩
def y_11_twice : MethodName := ⟨"PrivateViews", "twice", "(I)I"⟩
def y_11_barred : MethodName := ⟨"PrivateViews", "barred", "(I)I"⟩
def y_11_find : MethodName := ⟨"PrivateViews", "find", "(IIII)I"⟩
def y_3_partOf : MethodName := ⟨"PrivateViews$Log", "partOf", "(II)I"⟩
def y_11_log : MethodName := ⟨"PrivateViews", "log", "(II)I"⟩
def y_12_thrown : MethodName := ⟨"PrivateViewsModel", "thrown", "()I"⟩
def y_12_image : MethodName := ⟨"PrivateViewsModel", "image", "()V"⟩
def y_12_back : MethodName := ⟨"PrivateViewsModel", "back", "()Z"⟩
def y_12_feed : MethodName := ⟨"PrivateViewsModel", "feed", "(IIIII)I"⟩
def y_12_end : MethodName := ⟨"PrivateViewsModel", "end", "(I)Z"⟩
def y_12_fault : MethodName := ⟨"PrivateViewsModel", "fault", "()I"⟩
def y_12_uses : MethodName := ⟨"PrivateViewsModel", "uses", "()V"⟩
def y_12_keepsAll : MethodName := ⟨"PrivateViewsModel", "keepsAll", "()V"⟩
def y_12_isAt : MethodName := ⟨"PrivateViewsModel", "isAt", "(II)Z"⟩
def y_12_blanks : MethodName := ⟨"PrivateViewsModel", "blanks", "()V"⟩
def y_12_letters : MethodName := ⟨"PrivateViewsModel", "letters", "()V"⟩
def y_12_isWord : MethodName := ⟨"PrivateViewsModel", "isWord", "(Ljava/lang/String;)Z"⟩
def y_12_columns : MethodName := ⟨"PrivateViewsModel", "columns", "()I"⟩
def y_12_isLetter : MethodName := ⟨"PrivateViewsModel", "isLetter", "()Z"⟩
def y_12_readColumns : MethodName := ⟨"PrivateViewsModel", "readColumns", "()Z"⟩
def y_12_size : MethodName := ⟨"PrivateViewsModel", "size", "(I)I"⟩
def y_12_rows : MethodName := ⟨"PrivateViewsModel", "rows", "()I"⟩
def y_12_comes : MethodName := ⟨"PrivateViewsModel", "comes", "()I"⟩
def y_12_sign : MethodName := ⟨"PrivateViewsModel", "sign", "(I)Z"⟩
def y_12_isWords : MethodName := ⟨"PrivateViewsModel", "isWords", "(I)Z"⟩
def y_12_in : MethodName := ⟨"PrivateViewsModel", "in", "(III)Z"⟩
def y_12_figures : MethodName := ⟨"PrivateViewsModel", "figures", "(III)Z"⟩
def y_12_signed : MethodName := ⟨"PrivateViewsModel", "signed", "(I)Z"⟩
def y_12_aValue : MethodName := ⟨"PrivateViewsModel", "aValue", "(I)Z"⟩
def y_12_rowOf : MethodName := ⟨"PrivateViewsModel", "rowOf", "(I)I"⟩
def y_12_puts : MethodName := ⟨"PrivateViewsModel", "puts", "(III)V"⟩
def y_12_putsLast : MethodName := ⟨"PrivateViewsModel", "putsLast", "(II)V"⟩
def y_12_viewAt : MethodName := ⟨"PrivateViewsModel", "viewAt", "(II)I"⟩
def y_12_filterAt : MethodName := ⟨"PrivateViewsModel", "filterAt", "(II)I"⟩
def y_12_cellOf : MethodName := ⟨"PrivateViewsModel", "cellOf", "(II)I"⟩
def y_12_testAt : MethodName := ⟨"PrivateViewsModel", "testAt", "(III)I"⟩
def y_12_isPattern : MethodName := ⟨"PrivateViewsModel", "isPattern", "(II)Z"⟩
def y_12_isAsTest : MethodName := ⟨"PrivateViewsModel", "isAsTest", "(II)Z"⟩
def y_12_isAsFilter : MethodName := ⟨"PrivateViewsModel", "isAsFilter", "(III)Z"⟩
def y_12_whyNot : MethodName := ⟨"PrivateViewsModel", "whyNot", "(II)I"⟩
def y_12_isFit : MethodName := ⟨"PrivateViewsModel", "isFit", "(II)Z"⟩
def y_12_listOf : MethodName := ⟨"PrivateViewsModel", "listOf", "(I)I"⟩
def y_12_readRow : MethodName := ⟨"PrivateViewsModel", "readRow", "()Z"⟩
def y_12_readSheet : MethodName := ⟨"PrivateViewsModel", "readSheet", "()Z"⟩
def y_12_bringsBack : MethodName := ⟨"PrivateViewsModel", "bringsBack", "()V"⟩
def y_12_isRight : MethodName := ⟨"PrivateViewsModel", "isRight", "(Z)Z"⟩
def y_12_throwsIf : MethodName := ⟨"PrivateViewsModel", "throwsIf", "(ZI)Z"⟩
def y_12_sheet : MethodName := ⟨"PrivateViewsModel", "sheet", "()I"⟩
def y_12_noView : MethodName := ⟨"PrivateViewsModel", "noView", "(I)Z"⟩
def y_12_passes : MethodName := ⟨"PrivateViewsModel", "passes", "(Ljava/lang/String;)Z"⟩
def y_12_number : MethodName := ⟨"PrivateViewsModel", "number", "(II)Z"⟩
def y_12_readSort : MethodName := ⟨"PrivateViewsModel", "readSort", "(II)Z"⟩
def y_12_has : MethodName := ⟨"PrivateViewsModel", "has", "(II)Z"⟩
def y_12_readHide : MethodName := ⟨"PrivateViewsModel", "readHide", "(I)Z"⟩
def y_12_isAWord : MethodName := ⟨"PrivateViewsModel", "isAWord", "()Z"⟩
def y_12_readPattern : MethodName := ⟨"PrivateViewsModel", "readPattern", "(I)Z"⟩
def y_12_readTest : MethodName := ⟨"PrivateViewsModel", "readTest", "(II)Z"⟩
def y_12_readFilter : MethodName := ⟨"PrivateViewsModel", "readFilter", "(I)Z"⟩
def y_12_readPart : MethodName := ⟨"PrivateViewsModel", "readPart", "(I)Z"⟩
def y_12_readView : MethodName := ⟨"PrivateViewsModel", "readView", "(I)Z"⟩
def y_12_keyAt : MethodName := ⟨"PrivateViewsModel", "keyAt", "(II)I"⟩
def y_12_bySort : MethodName := ⟨"PrivateViewsModel", "bySort", "(III)I"⟩
def y_12_placeIn : MethodName := ⟨"PrivateViewsModel", "placeIn", "(II)I"⟩
def y_12_bySorts : MethodName := ⟨"PrivateViewsModel", "bySorts", "(IIII)I"⟩
def y_12_laysFresh : MethodName := ⟨"PrivateViewsModel", "laysFresh", "(I)I"⟩
def y_12_isRefreshed : MethodName := ⟨"PrivateViewsModel", "isRefreshed", "(I)I"⟩
def y_12_view : MethodName := ⟨"PrivateViewsModel", "view", "(I)I"⟩
def y_12_refresh : MethodName := ⟨"PrivateViewsModel", "refresh", "(I)I"⟩
def y_12_noPlace : MethodName := ⟨"PrivateViewsModel", "noPlace", "(II)Z"⟩
def y_12_noColumn : MethodName := ⟨"PrivateViewsModel", "noColumn", "(I)Z"⟩
def y_12_noCell : MethodName := ⟨"PrivateViewsModel", "noCell", "(III)Z"⟩
def y_12_isHidden : MethodName := ⟨"PrivateViewsModel", "isHidden", "(II)Z"⟩
def y_12_isValue : MethodName := ⟨"PrivateViewsModel", "isValue", "(II)Z"⟩
def y_12_isTold : MethodName := ⟨"PrivateViewsModel", "isTold", "(IIIII)V"⟩
def y_12_alters : MethodName := ⟨"PrivateViewsModel", "alters", "(IIII)V"⟩
def y_12_editAt : MethodName := ⟨"PrivateViewsModel", "editAt", "(II)I"⟩
def y_12_isEdit : MethodName := ⟨"PrivateViewsModel", "isEdit", "(I)I"⟩
def y_12_set : MethodName := ⟨"PrivateViewsModel", "set", "(IIII)I"⟩
def y_12_clear : MethodName := ⟨"PrivateViewsModel", "clear", "(III)I"⟩
def y_12_fill : MethodName := ⟨"PrivateViewsModel", "fill", "(IIII)I"⟩
def y_12_isNone : MethodName := ⟨"PrivateViewsModel", "isNone", "(II)Z"⟩
def y_12_valueAt : MethodName := ⟨"PrivateViewsModel", "valueAt", "(III)I"⟩
def y_12_replace : MethodName := ⟨"PrivateViewsModel", "replace", "(IIII)I"⟩
def y_12_swap : MethodName := ⟨"PrivateViewsModel", "swap", "(IIII)I"⟩
def y_12_seenFrom : MethodName := ⟨"PrivateViewsModel", "seenFrom", "(II)I"⟩
def y_12_readGrid : MethodName := ⟨"PrivateViewsModel", "readGrid", "(II)Z"⟩
def y_12_readGrids : MethodName := ⟨"PrivateViewsModel", "readGrids", "(II)Z"⟩
def y_12_isPasted : MethodName := ⟨"PrivateViewsModel", "isPasted", "(IIII)V"⟩
def y_12_paste : MethodName := ⟨"PrivateViewsModel", "paste", "(III)I"⟩
def y_12_stands : MethodName := ⟨"PrivateViewsModel", "stands", "(I)Z"⟩
def y_12_firstBar : MethodName := ⟨"PrivateViewsModel", "firstBar", "(I)I"⟩
def y_12_barred : MethodName := ⟨"PrivateViewsModel", "barred", "(I)I"⟩
def y_12_undo : MethodName := ⟨"PrivateViewsModel", "undo", "(I)I"⟩
def y_12_add : MethodName := ⟨"PrivateViewsModel", "add", "(II)I"⟩
def y_12_takes : MethodName := ⟨"PrivateViewsModel", "takes", "(II)V"⟩
def y_12_drop : MethodName := ⟨"PrivateViewsModel", "drop", "(II)I"⟩
def y_12_drag : MethodName := ⟨"PrivateViewsModel", "drag", "(III)I"⟩
def y_12_kind : MethodName := ⟨"PrivateViewsModel", "kind", "(I)I"⟩
def y_12_cell : MethodName := ⟨"PrivateViewsModel", "cell", "(II)I"⟩
def y_12_order : MethodName := ⟨"PrivateViewsModel", "order", "(I)I"⟩
def y_12_row : MethodName := ⟨"PrivateViewsModel", "row", "(II)I"⟩
def y_12_noKey : MethodName := ⟨"PrivateViewsModel", "noKey", "(II)Z"⟩
def y_12_place : MethodName := ⟨"PrivateViewsModel", "place", "(II)I"⟩
def y_12_about : MethodName := ⟨"PrivateViewsModel", "about", "(II)I"⟩
def y_12_sorts : MethodName := ⟨"PrivateViewsModel", "sorts", "(II)I"⟩
def y_12_fits : MethodName := ⟨"PrivateViewsModel", "fits", "(II)Z"⟩
def y_12_why : MethodName := ⟨"PrivateViewsModel", "why", "(II)I"⟩
def y_12_stale : MethodName := ⟨"PrivateViewsModel", "stale", "(I)I"⟩
def y_12_pending : MethodName := ⟨"PrivateViewsModel", "pending", "(I)I"⟩
def y_12_rankOf : MethodName := ⟨"PrivateViewsModel", "rankOf", "(II)I"⟩
def y_12_rank : MethodName := ⟨"PrivateViewsModel", "rank", "(II)I"⟩
def y_12_moves : MethodName := ⟨"PrivateViewsModel", "moves", "(I)I"⟩
def y_12_unlike : MethodName := ⟨"PrivateViewsModel", "unlike", "(II)I"⟩
def y_12_byTried : MethodName := ⟨"PrivateViewsModel", "byTried", "(III)I"⟩
def y_12_isSorted : MethodName := ⟨"PrivateViewsModel", "isSorted", "(II)Z"⟩
def y_12_sortsTelling : MethodName := ⟨"PrivateViewsModel", "sortsTelling", "(I)I"⟩
def y_12_told : MethodName := ⟨"PrivateViewsModel", "told", "(II)I"⟩
def y_12_between : MethodName := ⟨"PrivateViewsModel", "between", "(III)I"⟩
def y_12_sum : MethodName := ⟨"PrivateViewsModel", "sum", "(II)I"⟩
def y_12_firstPlace : MethodName := ⟨"PrivateViewsModel", "firstPlace", "(IIII)I"⟩
def y_12_kinds : MethodName := ⟨"PrivateViewsModel", "kinds", "(II)I"⟩
def y_12_by : MethodName := ⟨"PrivateViewsModel", "by", "(II)I"⟩
def y_12_isFirst : MethodName := ⟨"PrivateViewsModel", "isFirst", "(III)Z"⟩
def y_12_groupAt : MethodName := ⟨"PrivateViewsModel", "groupAt", "(III)I"⟩
def y_12_group : MethodName := ⟨"PrivateViewsModel", "group", "(IIII)I"⟩
def y_12_total : MethodName := ⟨"PrivateViewsModel", "total", "(IIII)I"⟩
def y_12_upTo : MethodName := ⟨"PrivateViewsModel", "upTo", "(IIIZ)I"⟩
def y_12_middle : MethodName := ⟨"PrivateViewsModel", "middle", "(II)I"⟩
def y_12_areTwins : MethodName := ⟨"PrivateViewsModel", "areTwins", "(III)Z"⟩
def y_12_twice : MethodName := ⟨"PrivateViewsModel", "twice", "(I)I"⟩
def y_12_find : MethodName := ⟨"PrivateViewsModel", "find", "(IIII)I"⟩
def y_12_log : MethodName := ⟨"PrivateViewsModel", "log", "(II)I"⟩
def y_12_count : MethodName := ⟨"PrivateViewsModel", "count", "(I)I"⟩
theorem kw_1 : Cond.initialized "PrivateViews" ∈ jTB := jtb (List.mem_of_getElem? (i := 1) (by decide +kernel)) (by decide +kernel)
theorem kw_2 : Cond.initialized "PrivateViews$Reader" ∈ jTB := jtb (List.mem_of_getElem? (i := 2) (by decide +kernel)) (by decide +kernel)
theorem kw_3 : Cond.initialized "PrivateViews$Texts" ∈ jTB := jtb (List.mem_of_getElem? (i := 3) (by decide +kernel)) (by decide +kernel)
theorem kw_4 : Cond.initialized "PrivateViews$Lens" ∈ jTB := jtb (List.mem_of_getElem? (i := 4) (by decide +kernel)) (by decide +kernel)
theorem kw_5 : Cond.initialized "PrivateViews$Filter" ∈ jTB := jtb (List.mem_of_getElem? (i := 5) (by decide +kernel)) (by decide +kernel)
theorem kw_6 : Cond.initialized "PrivateViews$State" ∈ jTB := jtb (List.mem_of_getElem? (i := 6) (by decide +kernel)) (by decide +kernel)
theorem kw_7 : Cond.initialized "PrivateViews$Sheet" ∈ jTB := jtb (List.mem_of_getElem? (i := 7) (by decide +kernel)) (by decide +kernel)
theorem kw_8 : Cond.initialized "PrivateViews$RowList" ∈ jTB := jtb (List.mem_of_getElem? (i := 8) (by decide +kernel)) (by decide +kernel)
theorem kw_9 : Cond.initialized "PrivateViews$Log" ∈ jTB := jtb (List.mem_of_getElem? (i := 9) (by decide +kernel)) (by decide +kernel)
theorem kw_10 : Cond.initialized "PrivateViews$Edit" ∈ jTB := jtb (List.mem_of_getElem? (i := 10) (by decide +kernel)) (by decide +kernel)
theorem kw_11 : Cond.initialized "PrivateViews$View" ∈ jTB := jtb (List.mem_of_getElem? (i := 11) (by decide +kernel)) (by decide +kernel)
theorem kw_12 : Cond.initialized "PrivateViews$Questions" ∈ jTB := jtb (List.mem_of_getElem? (i := 12) (by decide +kernel)) (by decide +kernel)
theorem kw_13 : Cond.initialized "PrivateViewsModel" ∈ jTB := jtb (List.mem_of_getElem? (i := 13) (by decide +kernel)) (by decide +kernel)
theorem kw_22 : Cond.initialized "java/lang/IllegalArgumentException" ∈ jTB := jtb (List.mem_of_getElem? (i := 22) (by decide +kernel)) (by decide +kernel)
theorem kw_23 : Cond.initialized "java/lang/UnsupportedOperationException" ∈ jTB := jtb (List.mem_of_getElem? (i := 23) (by decide +kernel)) (by decide +kernel)
theorem kw_24 : Cond.initialized "java/lang/IndexOutOfBoundsException" ∈ jTB := jtb (List.mem_of_getElem? (i := 24) (by decide +kernel)) (by decide +kernel)
theorem kw_25 : Cond.initialized "java/util/NoSuchElementException" ∈ jTB := jtb (List.mem_of_getElem? (i := 25) (by decide +kernel)) (by decide +kernel)
theorem kw_26 : Cond.initialized "java/lang/IllegalStateException" ∈ jTB := jtb (List.mem_of_getElem? (i := 26) (by decide +kernel)) (by decide +kernel)
theorem kw_42 : Cond.fieldLink "PrivateViews$Reader" 9 "PrivateViews$Reader" "tape" "[I" ∈ jTB := jtb (List.mem_of_getElem? (i := 42) (by decide +kernel)) (by decide +kernel)
theorem kw_44 : Cond.fieldLink "PrivateViews$Reader" 19 "PrivateViews$Reader" "fed" "I" ∈ jTB := jtb (List.mem_of_getElem? (i := 44) (by decide +kernel)) (by decide +kernel)
theorem kw_45 : Cond.fieldLink "PrivateViews$Reader" 22 "PrivateViews$Reader" "length" "I" ∈ jTB := jtb (List.mem_of_getElem? (i := 45) (by decide +kernel)) (by decide +kernel)
theorem kw_46 : Cond.fieldLink "PrivateViews$Reader" 25 "PrivateViews$Reader" "at" "I" ∈ jTB := jtb (List.mem_of_getElem? (i := 46) (by decide +kernel)) (by decide +kernel)
theorem kw_48 : Cond.fieldLink "PrivateViews$Reader" 15 "PrivateViews$Reader" "wrong" "I" ∈ jTB := jtb (List.mem_of_getElem? (i := 48) (by decide +kernel)) (by decide +kernel)
theorem kw_51 : Cond.fieldLink "PrivateViews$Reader" 64 "PrivateViews$Reader" "value" "I" ∈ jTB := jtb (List.mem_of_getElem? (i := 51) (by decide +kernel)) (by decide +kernel)
theorem kw_53 : Cond.fieldLink "PrivateViews$Reader" 54 "PrivateViews$Reader" "began" "I" ∈ jTB := jtb (List.mem_of_getElem? (i := 53) (by decide +kernel)) (by decide +kernel)
theorem kw_89 : Cond.fieldLink "PrivateViews$Filter" 24 "PrivateViews$Filter" "tests" "I" ∈ jTB := jtb (List.mem_of_getElem? (i := 89) (by decide +kernel)) (by decide +kernel)
theorem kw_92 : Cond.fieldLink "PrivateViews$Filter" 9 "PrivateViews$Filter" "forms" "[I" ∈ jTB := jtb (List.mem_of_getElem? (i := 92) (by decide +kernel)) (by decide +kernel)
theorem kw_93 : Cond.fieldLink "PrivateViews$Filter" 15 "PrivateViews$Filter" "lows" "[I" ∈ jTB := jtb (List.mem_of_getElem? (i := 93) (by decide +kernel)) (by decide +kernel)
theorem kw_94 : Cond.fieldLink "PrivateViews$Filter" 18 "PrivateViews$Filter" "highs" "[I" ∈ jTB := jtb (List.mem_of_getElem? (i := 94) (by decide +kernel)) (by decide +kernel)
theorem kw_95 : Cond.fieldLink "PrivateViews$Filter" 21 "PrivateViews$Filter" "turns" "[I" ∈ jTB := jtb (List.mem_of_getElem? (i := 95) (by decide +kernel)) (by decide +kernel)
theorem kw_107 : Cond.fieldLink "PrivateViews$Lens" 11 "PrivateViews$Lens" "filters" "[LPrivateViews$Filter;" ∈ jTB := jtb (List.mem_of_getElem? (i := 107) (by decide +kernel)) (by decide +kernel)
theorem kw_108 : Cond.fieldLink "PrivateViews$Lens" 17 "PrivateViews$Lens" "sortCodes" "[I" ∈ jTB := jtb (List.mem_of_getElem? (i := 108) (by decide +kernel)) (by decide +kernel)
theorem kw_109 : Cond.fieldLink "PrivateViews$Lens" 26 "PrivateViews$Lens" "sortsTold" "I" ∈ jTB := jtb (List.mem_of_getElem? (i := 109) (by decide +kernel)) (by decide +kernel)
theorem kw_112 : Cond.fieldLink "PrivateViews$Lens" 29 "PrivateViews$Lens" "hidden" "I" ∈ jTB := jtb (List.mem_of_getElem? (i := 112) (by decide +kernel)) (by decide +kernel)
theorem kw_125 : Cond.fieldLink "PrivateViews$Texts" 42 "PrivateViews$Texts" "columns" "I" ∈ jTB := jtb (List.mem_of_getElem? (i := 125) (by decide +kernel)) (by decide +kernel)
theorem kw_126 : Cond.fieldLink "PrivateViews$Texts" 9 "PrivateViews$Texts" "kindsTold" "[I" ∈ jTB := jtb (List.mem_of_getElem? (i := 126) (by decide +kernel)) (by decide +kernel)
theorem kw_128 : Cond.fieldLink "PrivateViews$Texts" 28 "PrivateViews$Texts" "rowsTold" "I" ∈ jTB := jtb (List.mem_of_getElem? (i := 128) (by decide +kernel)) (by decide +kernel)
theorem kw_131 : Cond.fieldLink "PrivateViews$Texts" 15 "PrivateViews$Texts" "widths" "[I" ∈ jTB := jtb (List.mem_of_getElem? (i := 131) (by decide +kernel)) (by decide +kernel)
theorem kw_132 : Cond.fieldLink "PrivateViews$Texts" 18 "PrivateViews$Texts" "values" "[I" ∈ jTB := jtb (List.mem_of_getElem? (i := 132) (by decide +kernel)) (by decide +kernel)
theorem kw_133 : Cond.fieldLink "PrivateViews$Texts" 24 "PrivateViews$Texts" "lens" "LPrivateViews$Lens;" ∈ jTB := jtb (List.mem_of_getElem? (i := 133) (by decide +kernel)) (by decide +kernel)
theorem kw_166 : Cond.fieldLink "PrivateViews$RowList" 9 "PrivateViews$RowList" "seats" "[I" ∈ jTB := jtb (List.mem_of_getElem? (i := 166) (by decide +kernel)) (by decide +kernel)
theorem kw_167 : Cond.fieldLink "PrivateViews$RowList" 15 "PrivateViews$RowList" "size" "I" ∈ jTB := jtb (List.mem_of_getElem? (i := 167) (by decide +kernel)) (by decide +kernel)
theorem kw_174 : Cond.fieldLink "PrivateViews$Sheet" 35 "PrivateViews$Sheet" "columns" "I" ∈ jTB := jtb (List.mem_of_getElem? (i := 174) (by decide +kernel)) (by decide +kernel)
theorem kw_178 : Cond.fieldLink "PrivateViews$Sheet" 9 "PrivateViews$Sheet" "kindsTold" "[I" ∈ jTB := jtb (List.mem_of_getElem? (i := 178) (by decide +kernel)) (by decide +kernel)
theorem kw_181 : Cond.fieldLink "PrivateViews$Sheet" 15 "PrivateViews$Sheet" "keys" "[I" ∈ jTB := jtb (List.mem_of_getElem? (i := 181) (by decide +kernel)) (by decide +kernel)
theorem kw_182 : Cond.fieldLink "PrivateViews$Sheet" 18 "PrivateViews$Sheet" "values" "[I" ∈ jTB := jtb (List.mem_of_getElem? (i := 182) (by decide +kernel)) (by decide +kernel)
theorem kw_183 : Cond.fieldLink "PrivateViews$Sheet" 21 "PrivateViews$Sheet" "writers" "[I" ∈ jTB := jtb (List.mem_of_getElem? (i := 183) (by decide +kernel)) (by decide +kernel)
theorem kw_184 : Cond.fieldLink "PrivateViews$Sheet" 27 "PrivateViews$Sheet" "ordered" "LPrivateViews$RowList;" ∈ jTB := jtb (List.mem_of_getElem? (i := 184) (by decide +kernel)) (by decide +kernel)
theorem kw_190 : Cond.fieldLink "PrivateViews$Sheet" 106 "PrivateViews$Sheet" "texts" "I" ∈ jTB := jtb (List.mem_of_getElem? (i := 190) (by decide +kernel)) (by decide +kernel)
theorem kw_191 : Cond.fieldLink "PrivateViews$Sheet" 69 "PrivateViews$Sheet" "keysSoFar" "I" ∈ jTB := jtb (List.mem_of_getElem? (i := 191) (by decide +kernel)) (by decide +kernel)
theorem kw_218 : Cond.fieldLink "PrivateViews$Log" 11 "PrivateViews$Log" "parts" "[I" ∈ jTB := jtb (List.mem_of_getElem? (i := 218) (by decide +kernel)) (by decide +kernel)
theorem kw_219 : Cond.fieldLink "PrivateViews$Log" 15 "PrivateViews$Log" "next" "I" ∈ jTB := jtb (List.mem_of_getElem? (i := 219) (by decide +kernel)) (by decide +kernel)
theorem kw_220 : Cond.fieldLink "PrivateViews$Log" 19 "PrivateViews$Log" "size" "I" ∈ jTB := jtb (List.mem_of_getElem? (i := 220) (by decide +kernel)) (by decide +kernel)
theorem kw_235 : Cond.fieldLink "PrivateViews$Edit" 24 "PrivateViews$Edit" "changes" "I" ∈ jTB := jtb (List.mem_of_getElem? (i := 235) (by decide +kernel)) (by decide +kernel)
theorem kw_237 : Cond.fieldLink "PrivateViews$Edit" 9 "PrivateViews$Edit" "keys" "[I" ∈ jTB := jtb (List.mem_of_getElem? (i := 237) (by decide +kernel)) (by decide +kernel)
theorem kw_239 : Cond.fieldLink "PrivateViews$Edit" 15 "PrivateViews$Edit" "columns" "[I" ∈ jTB := jtb (List.mem_of_getElem? (i := 239) (by decide +kernel)) (by decide +kernel)
theorem kw_241 : Cond.fieldLink "PrivateViews$Edit" 18 "PrivateViews$Edit" "were" "[I" ∈ jTB := jtb (List.mem_of_getElem? (i := 241) (by decide +kernel)) (by decide +kernel)
theorem kw_243 : Cond.fieldLink "PrivateViews$Edit" 21 "PrivateViews$Edit" "became" "[I" ∈ jTB := jtb (List.mem_of_getElem? (i := 243) (by decide +kernel)) (by decide +kernel)
theorem kw_268 : Cond.fieldLink "PrivateViews$View" 12 "PrivateViews$View" "lens" "LPrivateViews$Lens;" ∈ jTB := jtb (List.mem_of_getElem? (i := 268) (by decide +kernel)) (by decide +kernel)
theorem kw_272 : Cond.fieldLink "PrivateViews$View" 21 "PrivateViews$View" "list" "LPrivateViews$RowList;" ∈ jTB := jtb (List.mem_of_getElem? (i := 272) (by decide +kernel)) (by decide +kernel)
theorem kw_276 : Cond.fieldLink "PrivateViews$View" 27 "PrivateViews$View" "edits" "[LPrivateViews$Edit;" ∈ jTB := jtb (List.mem_of_getElem? (i := 276) (by decide +kernel)) (by decide +kernel)
theorem kw_277 : Cond.fieldLink "PrivateViews$View" 32 "PrivateViews$View" "remembered" "I" ∈ jTB := jtb (List.mem_of_getElem? (i := 277) (by decide +kernel)) (by decide +kernel)
theorem kw_288 : Cond.fieldLink "PrivateViews$State" 12 "PrivateViews$State" "sheet" "LPrivateViews$Sheet;" ∈ jTB := jtb (List.mem_of_getElem? (i := 288) (by decide +kernel)) (by decide +kernel)
theorem kw_291 : Cond.fieldLink "PrivateViews$State" 20 "PrivateViews$State" "views" "[LPrivateViews$View;" ∈ jTB := jtb (List.mem_of_getElem? (i := 291) (by decide +kernel)) (by decide +kernel)
theorem kw_293 : Cond.fieldLink "PrivateViews$State" 27 "PrivateViews$State" "log" "LPrivateViews$Log;" ∈ jTB := jtb (List.mem_of_getElem? (i := 293) (by decide +kernel)) (by decide +kernel)
theorem kw_295 : Cond.fieldLink "PrivateViews$State" 34 "PrivateViews$State" "draft" "LPrivateViews$Edit;" ∈ jTB := jtb (List.mem_of_getElem? (i := 295) (by decide +kernel)) (by decide +kernel)
theorem kw_313 : Cond.fieldLink "PrivateViews$Questions" 12 "PrivateViews$Questions" "fresh" "LPrivateViews$RowList;" ∈ jTB := jtb (List.mem_of_getElem? (i := 313) (by decide +kernel)) (by decide +kernel)
theorem kw_314 : Cond.fieldLink "PrivateViews$Questions" 18 "PrivateViews$Questions" "ranks" "[I" ∈ jTB := jtb (List.mem_of_getElem? (i := 314) (by decide +kernel)) (by decide +kernel)
theorem kw_315 : Cond.fieldLink "PrivateViews$Questions" 22 "PrivateViews$Questions" "longest" "[I" ∈ jTB := jtb (List.mem_of_getElem? (i := 315) (by decide +kernel)) (by decide +kernel)
theorem kw_316 : Cond.fieldLink "PrivateViews$Questions" 25 "PrivateViews$Questions" "sorted" "[I" ∈ jTB := jtb (List.mem_of_getElem? (i := 316) (by decide +kernel)) (by decide +kernel)
theorem kw_317 : Cond.fieldLink "PrivateViews$Questions" 97 "PrivateViews$Questions" "sortsNeeded" "I" ∈ jTB := jtb (List.mem_of_getElem? (i := 317) (by decide +kernel)) (by decide +kernel)
theorem kw_319 : Cond.fieldLink "PrivateViews$Questions" 86 "PrivateViews$Questions" "firstSort" "I" ∈ jTB := jtb (List.mem_of_getElem? (i := 319) (by decide +kernel)) (by decide +kernel)
theorem kw_320 : Cond.fieldLink "PrivateViews$Questions" 90 "PrivateViews$Questions" "secondSort" "I" ∈ jTB := jtb (List.mem_of_getElem? (i := 320) (by decide +kernel)) (by decide +kernel)
theorem kw_336 : Cond.fieldLink "PrivateViews" 10 "PrivateViews" "reader" "LPrivateViews$Reader;" ∈ jTB := jtb (List.mem_of_getElem? (i := 336) (by decide +kernel)) (by decide +kernel)
theorem kw_337 : Cond.fieldLink "PrivateViews" 19 "PrivateViews" "texts" "LPrivateViews$Texts;" ∈ jTB := jtb (List.mem_of_getElem? (i := 337) (by decide +kernel)) (by decide +kernel)
theorem kw_338 : Cond.fieldLink "PrivateViews" 26 "PrivateViews" "now" "LPrivateViews$State;" ∈ jTB := jtb (List.mem_of_getElem? (i := 338) (by decide +kernel)) (by decide +kernel)
theorem kw_339 : Cond.fieldLink "PrivateViews" 33 "PrivateViews" "questions" "LPrivateViews$Questions;" ∈ jTB := jtb (List.mem_of_getElem? (i := 339) (by decide +kernel)) (by decide +kernel)
theorem kw_340 : Cond.fieldLink "PrivateViews" 333 "PrivateViews" "kept" "LPrivateViews$State;" ∈ jTB := jtb (List.mem_of_getElem? (i := 340) (by decide +kernel)) (by decide +kernel)
theorem kw_353 : Cond.instanceMethod ⟨"PrivateViews", "feed", "(IIIII)I"⟩ ∈ jTB := jtb (List.mem_of_getElem? (i := 353) (by decide +kernel)) (by decide +kernel)
theorem kw_354 : Cond.selects "PrivateViews" ⟨"PrivateViews", "feed", "(IIIII)I"⟩ ⟨"PrivateViews", "feed", "(IIIII)I"⟩ ∈ jTB := jtb (List.mem_of_getElem? (i := 354) (by decide +kernel)) (by decide +kernel)
theorem kw_355 : Cond.code ⟨"PrivateViews", "feed", "(IIIII)I"⟩ prog_1_method_2_code 6 (some .int) ∈ jTB := jtb (List.mem_of_getElem? (i := 355) (by decide +kernel)) (by decide +kernel)
theorem kw_356 : Cond.methodLink "PrivateViews" 41 ⟨"PrivateViews$Reader", "takeIn", "(I)V"⟩ ∈ jTB := jtb (List.mem_of_getElem? (i := 356) (by decide +kernel)) (by decide +kernel)
theorem kw_357 : Cond.instanceMethod ⟨"PrivateViews$Reader", "takeIn", "(I)V"⟩ ∈ jTB := jtb (List.mem_of_getElem? (i := 357) (by decide +kernel)) (by decide +kernel)
theorem kw_358 : Cond.selects "PrivateViews$Reader" ⟨"PrivateViews$Reader", "takeIn", "(I)V"⟩ ⟨"PrivateViews$Reader", "takeIn", "(I)V"⟩ ∈ jTB := jtb (List.mem_of_getElem? (i := 358) (by decide +kernel)) (by decide +kernel)
theorem kw_359 : Cond.code ⟨"PrivateViews$Reader", "takeIn", "(I)V"⟩ prog_7_method_2_code 3 none ∈ jTB := jtb (List.mem_of_getElem? (i := 359) (by decide +kernel)) (by decide +kernel)
theorem kw_361 : Cond.instanceMethod ⟨"PrivateViews", "end", "(I)Z"⟩ ∈ jTB := jtb (List.mem_of_getElem? (i := 361) (by decide +kernel)) (by decide +kernel)
theorem kw_362 : Cond.selects "PrivateViews" ⟨"PrivateViews", "end", "(I)Z"⟩ ⟨"PrivateViews", "end", "(I)Z"⟩ ∈ jTB := jtb (List.mem_of_getElem? (i := 362) (by decide +kernel)) (by decide +kernel)
theorem kw_363 : Cond.code ⟨"PrivateViews", "end", "(I)Z"⟩ prog_1_method_3_code 2 (some .boolean) ∈ jTB := jtb (List.mem_of_getElem? (i := 363) (by decide +kernel)) (by decide +kernel)
theorem kw_365 : Cond.instanceMethod ⟨"PrivateViews", "fault", "()I"⟩ ∈ jTB := jtb (List.mem_of_getElem? (i := 365) (by decide +kernel)) (by decide +kernel)
theorem kw_366 : Cond.selects "PrivateViews" ⟨"PrivateViews", "fault", "()I"⟩ ⟨"PrivateViews", "fault", "()I"⟩ ∈ jTB := jtb (List.mem_of_getElem? (i := 366) (by decide +kernel)) (by decide +kernel)
theorem kw_367 : Cond.code ⟨"PrivateViews", "fault", "()I"⟩ prog_1_method_6_code 1 (some .int) ∈ jTB := jtb (List.mem_of_getElem? (i := 367) (by decide +kernel)) (by decide +kernel)
theorem kw_369 : Cond.instanceMethod ⟨"PrivateViews", "order", "(I)I"⟩ ∈ jTB := jtb (List.mem_of_getElem? (i := 369) (by decide +kernel)) (by decide +kernel)
theorem kw_370 : Cond.selects "PrivateViews" ⟨"PrivateViews", "order", "(I)I"⟩ ⟨"PrivateViews", "order", "(I)I"⟩ ∈ jTB := jtb (List.mem_of_getElem? (i := 370) (by decide +kernel)) (by decide +kernel)
theorem kw_371 : Cond.code ⟨"PrivateViews", "order", "(I)I"⟩ prog_1_method_9_code 2 (some .int) ∈ jTB := jtb (List.mem_of_getElem? (i := 371) (by decide +kernel)) (by decide +kernel)
theorem kw_372 : Cond.methodLink "PrivateViews" 130 ⟨"PrivateViews$RowList", "at", "(I)I"⟩ ∈ jTB := jtb (List.mem_of_getElem? (i := 372) (by decide +kernel)) (by decide +kernel)
theorem kw_373 : Cond.instanceMethod ⟨"PrivateViews$RowList", "at", "(I)I"⟩ ∈ jTB := jtb (List.mem_of_getElem? (i := 373) (by decide +kernel)) (by decide +kernel)
theorem kw_374 : Cond.selects "PrivateViews$RowList" ⟨"PrivateViews$RowList", "at", "(I)I"⟩ ⟨"PrivateViews$RowList", "at", "(I)I"⟩ ∈ jTB := jtb (List.mem_of_getElem? (i := 374) (by decide +kernel)) (by decide +kernel)
theorem kw_375 : Cond.code ⟨"PrivateViews$RowList", "at", "(I)I"⟩ prog_8_method_3_code 2 (some .int) ∈ jTB := jtb (List.mem_of_getElem? (i := 375) (by decide +kernel)) (by decide +kernel)
theorem kw_376 : Cond.methodLink "PrivateViews" 133 ⟨"PrivateViews$Sheet", "keyAt", "(I)I"⟩ ∈ jTB := jtb (List.mem_of_getElem? (i := 376) (by decide +kernel)) (by decide +kernel)
theorem kw_377 : Cond.instanceMethod ⟨"PrivateViews$Sheet", "keyAt", "(I)I"⟩ ∈ jTB := jtb (List.mem_of_getElem? (i := 377) (by decide +kernel)) (by decide +kernel)
theorem kw_378 : Cond.selects "PrivateViews$Sheet" ⟨"PrivateViews$Sheet", "keyAt", "(I)I"⟩ ⟨"PrivateViews$Sheet", "keyAt", "(I)I"⟩ ∈ jTB := jtb (List.mem_of_getElem? (i := 378) (by decide +kernel)) (by decide +kernel)
theorem kw_379 : Cond.code ⟨"PrivateViews$Sheet", "keyAt", "(I)I"⟩ prog_9_method_6_code 2 (some .int) ∈ jTB := jtb (List.mem_of_getElem? (i := 379) (by decide +kernel)) (by decide +kernel)
theorem kw_380 : Cond.methodLink "PrivateViews$Sheet" 43 ⟨"PrivateViews$Sheet", "isSeat", "(I)Z"⟩ ∈ jTB := jtb (List.mem_of_getElem? (i := 380) (by decide +kernel)) (by decide +kernel)
theorem kw_382 : Cond.instanceMethod ⟨"PrivateViews$Sheet", "isSeat", "(I)Z"⟩ ∈ jTB := jtb (List.mem_of_getElem? (i := 382) (by decide +kernel)) (by decide +kernel)
theorem kw_383 : Cond.code ⟨"PrivateViews$Sheet", "isSeat", "(I)Z"⟩ prog_9_method_4_code 2 (some .boolean) ∈ jTB := jtb (List.mem_of_getElem? (i := 383) (by decide +kernel)) (by decide +kernel)
theorem kw_388 : Cond.methodLink "PrivateViews" 336 ⟨"PrivateViews$State", "copyFrom", "(LPrivateViews$State;)V"⟩ ∈ jTB := jtb (List.mem_of_getElem? (i := 388) (by decide +kernel)) (by decide +kernel)
theorem kw_389 : Cond.instanceMethod ⟨"PrivateViews$State", "copyFrom", "(LPrivateViews$State;)V"⟩ ∈ jTB := jtb (List.mem_of_getElem? (i := 389) (by decide +kernel)) (by decide +kernel)
theorem kw_390 : Cond.selects "PrivateViews$State" ⟨"PrivateViews$State", "copyFrom", "(LPrivateViews$State;)V"⟩ ⟨"PrivateViews$State", "copyFrom", "(LPrivateViews$State;)V"⟩ ∈ jTB := jtb (List.mem_of_getElem? (i := 390) (by decide +kernel)) (by decide +kernel)
theorem kw_391 : Cond.code ⟨"PrivateViews$State", "copyFrom", "(LPrivateViews$State;)V"⟩ prog_10_method_12_code 3 none ∈ jTB := jtb (List.mem_of_getElem? (i := 391) (by decide +kernel)) (by decide +kernel)
theorem kw_392 : Cond.methodLink "PrivateViews$State" 178 ⟨"PrivateViews$Sheet", "copyFrom", "(LPrivateViews$Sheet;)V"⟩ ∈ jTB := jtb (List.mem_of_getElem? (i := 392) (by decide +kernel)) (by decide +kernel)
theorem kw_393 : Cond.instanceMethod ⟨"PrivateViews$Sheet", "copyFrom", "(LPrivateViews$Sheet;)V"⟩ ∈ jTB := jtb (List.mem_of_getElem? (i := 393) (by decide +kernel)) (by decide +kernel)
theorem kw_394 : Cond.selects "PrivateViews$Sheet" ⟨"PrivateViews$Sheet", "copyFrom", "(LPrivateViews$Sheet;)V"⟩ ⟨"PrivateViews$Sheet", "copyFrom", "(LPrivateViews$Sheet;)V"⟩ ∈ jTB := jtb (List.mem_of_getElem? (i := 394) (by decide +kernel)) (by decide +kernel)
theorem kw_395 : Cond.code ⟨"PrivateViews$Sheet", "copyFrom", "(LPrivateViews$Sheet;)V"⟩ prog_9_method_16_code 2 none ∈ jTB := jtb (List.mem_of_getElem? (i := 395) (by decide +kernel)) (by decide +kernel)
theorem kw_396 : Cond.methodLink "PrivateViews$Sheet" 96 ⟨"java/lang/System", "arraycopy", "(Ljava/lang/Object;ILjava/lang/Object;II)V"⟩ ∈ jTB := jtb (List.mem_of_getElem? (i := 396) (by decide +kernel)) (by decide +kernel)
theorem kw_399 : Cond.methodLink "PrivateViews$Sheet" 102 ⟨"PrivateViews$RowList", "copyFrom", "(LPrivateViews$RowList;)V"⟩ ∈ jTB := jtb (List.mem_of_getElem? (i := 399) (by decide +kernel)) (by decide +kernel)
theorem kw_400 : Cond.instanceMethod ⟨"PrivateViews$RowList", "copyFrom", "(LPrivateViews$RowList;)V"⟩ ∈ jTB := jtb (List.mem_of_getElem? (i := 400) (by decide +kernel)) (by decide +kernel)
theorem kw_401 : Cond.selects "PrivateViews$RowList" ⟨"PrivateViews$RowList", "copyFrom", "(LPrivateViews$RowList;)V"⟩ ⟨"PrivateViews$RowList", "copyFrom", "(LPrivateViews$RowList;)V"⟩ ∈ jTB := jtb (List.mem_of_getElem? (i := 401) (by decide +kernel)) (by decide +kernel)
theorem kw_402 : Cond.code ⟨"PrivateViews$RowList", "copyFrom", "(LPrivateViews$RowList;)V"⟩ prog_8_method_10_code 2 none ∈ jTB := jtb (List.mem_of_getElem? (i := 402) (by decide +kernel)) (by decide +kernel)
theorem kw_403 : Cond.methodLink "PrivateViews$RowList" 30 ⟨"java/lang/System", "arraycopy", "(Ljava/lang/Object;ILjava/lang/Object;II)V"⟩ ∈ jTB := jtb (List.mem_of_getElem? (i := 403) (by decide +kernel)) (by decide +kernel)
theorem kw_404 : Cond.methodLink "PrivateViews$State" 182 ⟨"PrivateViews$View", "copyFrom", "(LPrivateViews$View;)V"⟩ ∈ jTB := jtb (List.mem_of_getElem? (i := 404) (by decide +kernel)) (by decide +kernel)
theorem kw_405 : Cond.instanceMethod ⟨"PrivateViews$View", "copyFrom", "(LPrivateViews$View;)V"⟩ ∈ jTB := jtb (List.mem_of_getElem? (i := 405) (by decide +kernel)) (by decide +kernel)
theorem kw_406 : Cond.selects "PrivateViews$View" ⟨"PrivateViews$View", "copyFrom", "(LPrivateViews$View;)V"⟩ ⟨"PrivateViews$View", "copyFrom", "(LPrivateViews$View;)V"⟩ ∈ jTB := jtb (List.mem_of_getElem? (i := 406) (by decide +kernel)) (by decide +kernel)
theorem kw_407 : Cond.code ⟨"PrivateViews$View", "copyFrom", "(LPrivateViews$View;)V"⟩ prog_12_method_6_code 3 none ∈ jTB := jtb (List.mem_of_getElem? (i := 407) (by decide +kernel)) (by decide +kernel)
theorem kw_408 : Cond.methodLink "PrivateViews$View" 49 ⟨"PrivateViews$Lens", "copyFrom", "(LPrivateViews$Lens;)V"⟩ ∈ jTB := jtb (List.mem_of_getElem? (i := 408) (by decide +kernel)) (by decide +kernel)
theorem kw_409 : Cond.instanceMethod ⟨"PrivateViews$Lens", "copyFrom", "(LPrivateViews$Lens;)V"⟩ ∈ jTB := jtb (List.mem_of_getElem? (i := 409) (by decide +kernel)) (by decide +kernel)
theorem kw_410 : Cond.selects "PrivateViews$Lens" ⟨"PrivateViews$Lens", "copyFrom", "(LPrivateViews$Lens;)V"⟩ ⟨"PrivateViews$Lens", "copyFrom", "(LPrivateViews$Lens;)V"⟩ ∈ jTB := jtb (List.mem_of_getElem? (i := 410) (by decide +kernel)) (by decide +kernel)
theorem kw_411 : Cond.code ⟨"PrivateViews$Lens", "copyFrom", "(LPrivateViews$Lens;)V"⟩ prog_4_method_12_code 3 none ∈ jTB := jtb (List.mem_of_getElem? (i := 411) (by decide +kernel)) (by decide +kernel)
theorem kw_412 : Cond.methodLink "PrivateViews$Lens" 54 ⟨"PrivateViews$Filter", "copyFrom", "(LPrivateViews$Filter;)V"⟩ ∈ jTB := jtb (List.mem_of_getElem? (i := 412) (by decide +kernel)) (by decide +kernel)
theorem kw_413 : Cond.instanceMethod ⟨"PrivateViews$Filter", "copyFrom", "(LPrivateViews$Filter;)V"⟩ ∈ jTB := jtb (List.mem_of_getElem? (i := 413) (by decide +kernel)) (by decide +kernel)
theorem kw_414 : Cond.selects "PrivateViews$Filter" ⟨"PrivateViews$Filter", "copyFrom", "(LPrivateViews$Filter;)V"⟩ ⟨"PrivateViews$Filter", "copyFrom", "(LPrivateViews$Filter;)V"⟩ ∈ jTB := jtb (List.mem_of_getElem? (i := 414) (by decide +kernel)) (by decide +kernel)
theorem kw_415 : Cond.code ⟨"PrivateViews$Filter", "copyFrom", "(LPrivateViews$Filter;)V"⟩ prog_3_method_8_code 2 none ∈ jTB := jtb (List.mem_of_getElem? (i := 415) (by decide +kernel)) (by decide +kernel)
theorem kw_416 : Cond.methodLink "PrivateViews$Filter" 38 ⟨"java/lang/System", "arraycopy", "(Ljava/lang/Object;ILjava/lang/Object;II)V"⟩ ∈ jTB := jtb (List.mem_of_getElem? (i := 416) (by decide +kernel)) (by decide +kernel)
theorem kw_417 : Cond.methodLink "PrivateViews$Lens" 58 ⟨"java/lang/System", "arraycopy", "(Ljava/lang/Object;ILjava/lang/Object;II)V"⟩ ∈ jTB := jtb (List.mem_of_getElem? (i := 417) (by decide +kernel)) (by decide +kernel)
theorem kw_418 : Cond.methodLink "PrivateViews$View" 52 ⟨"PrivateViews$RowList", "copyFrom", "(LPrivateViews$RowList;)V"⟩ ∈ jTB := jtb (List.mem_of_getElem? (i := 418) (by decide +kernel)) (by decide +kernel)
theorem kw_419 : Cond.methodLink "PrivateViews$View" 39 ⟨"PrivateViews$Edit", "copyFrom", "(LPrivateViews$Edit;)V"⟩ ∈ jTB := jtb (List.mem_of_getElem? (i := 419) (by decide +kernel)) (by decide +kernel)
theorem kw_420 : Cond.instanceMethod ⟨"PrivateViews$Edit", "copyFrom", "(LPrivateViews$Edit;)V"⟩ ∈ jTB := jtb (List.mem_of_getElem? (i := 420) (by decide +kernel)) (by decide +kernel)
theorem kw_421 : Cond.selects "PrivateViews$Edit" ⟨"PrivateViews$Edit", "copyFrom", "(LPrivateViews$Edit;)V"⟩ ⟨"PrivateViews$Edit", "copyFrom", "(LPrivateViews$Edit;)V"⟩ ∈ jTB := jtb (List.mem_of_getElem? (i := 421) (by decide +kernel)) (by decide +kernel)
theorem kw_422 : Cond.code ⟨"PrivateViews$Edit", "copyFrom", "(LPrivateViews$Edit;)V"⟩ prog_2_method_4_code 2 none ∈ jTB := jtb (List.mem_of_getElem? (i := 422) (by decide +kernel)) (by decide +kernel)
theorem kw_423 : Cond.methodLink "PrivateViews$Edit" 38 ⟨"java/lang/Math", "min", "(II)I"⟩ ∈ jTB := jtb (List.mem_of_getElem? (i := 423) (by decide +kernel)) (by decide +kernel)
theorem kw_426 : Cond.methodLink "PrivateViews$Edit" 43 ⟨"java/lang/System", "arraycopy", "(Ljava/lang/Object;ILjava/lang/Object;II)V"⟩ ∈ jTB := jtb (List.mem_of_getElem? (i := 426) (by decide +kernel)) (by decide +kernel)
theorem kw_427 : Cond.methodLink "PrivateViews$State" 185 ⟨"PrivateViews$Log", "copyFrom", "(LPrivateViews$Log;)V"⟩ ∈ jTB := jtb (List.mem_of_getElem? (i := 427) (by decide +kernel)) (by decide +kernel)
theorem kw_428 : Cond.instanceMethod ⟨"PrivateViews$Log", "copyFrom", "(LPrivateViews$Log;)V"⟩ ∈ jTB := jtb (List.mem_of_getElem? (i := 428) (by decide +kernel)) (by decide +kernel)
theorem kw_429 : Cond.selects "PrivateViews$Log" ⟨"PrivateViews$Log", "copyFrom", "(LPrivateViews$Log;)V"⟩ ⟨"PrivateViews$Log", "copyFrom", "(LPrivateViews$Log;)V"⟩ ∈ jTB := jtb (List.mem_of_getElem? (i := 429) (by decide +kernel)) (by decide +kernel)
theorem kw_430 : Cond.code ⟨"PrivateViews$Log", "copyFrom", "(LPrivateViews$Log;)V"⟩ prog_5_method_4_code 2 none ∈ jTB := jtb (List.mem_of_getElem? (i := 430) (by decide +kernel)) (by decide +kernel)
theorem kw_431 : Cond.methodLink "PrivateViews$Log" 31 ⟨"java/lang/System", "arraycopy", "(Ljava/lang/Object;ILjava/lang/Object;II)V"⟩ ∈ jTB := jtb (List.mem_of_getElem? (i := 431) (by decide +kernel)) (by decide +kernel)
theorem kw_433 : Cond.instanceMethod ⟨"PrivateViews", "back", "()Z"⟩ ∈ jTB := jtb (List.mem_of_getElem? (i := 433) (by decide +kernel)) (by decide +kernel)
theorem kw_434 : Cond.selects "PrivateViews" ⟨"PrivateViews", "back", "()Z"⟩ ⟨"PrivateViews", "back", "()Z"⟩ ∈ jTB := jtb (List.mem_of_getElem? (i := 434) (by decide +kernel)) (by decide +kernel)
theorem kw_435 : Cond.code ⟨"PrivateViews", "back", "()Z"⟩ prog_1_method_45_code 1 (some .boolean) ∈ jTB := jtb (List.mem_of_getElem? (i := 435) (by decide +kernel)) (by decide +kernel)
theorem kw_437 : Cond.instanceMethod ⟨"PrivateViews", "count", "(I)I"⟩ ∈ jTB := jtb (List.mem_of_getElem? (i := 437) (by decide +kernel)) (by decide +kernel)
theorem kw_438 : Cond.selects "PrivateViews" ⟨"PrivateViews", "count", "(I)I"⟩ ⟨"PrivateViews", "count", "(I)I"⟩ ∈ jTB := jtb (List.mem_of_getElem? (i := 438) (by decide +kernel)) (by decide +kernel)
theorem kw_439 : Cond.code ⟨"PrivateViews", "count", "(I)I"⟩ prog_1_method_46_code 2 (some .int) ∈ jTB := jtb (List.mem_of_getElem? (i := 439) (by decide +kernel)) (by decide +kernel)
theorem kw_440 : Cond.methodLink "PrivateViews" 199 ⟨"PrivateViews$Sheet", "rowsNow", "()I"⟩ ∈ jTB := jtb (List.mem_of_getElem? (i := 440) (by decide +kernel)) (by decide +kernel)
theorem kw_441 : Cond.instanceMethod ⟨"PrivateViews$Sheet", "rowsNow", "()I"⟩ ∈ jTB := jtb (List.mem_of_getElem? (i := 441) (by decide +kernel)) (by decide +kernel)
theorem kw_442 : Cond.selects "PrivateViews$Sheet" ⟨"PrivateViews$Sheet", "rowsNow", "()I"⟩ ⟨"PrivateViews$Sheet", "rowsNow", "()I"⟩ ∈ jTB := jtb (List.mem_of_getElem? (i := 442) (by decide +kernel)) (by decide +kernel)
theorem kw_443 : Cond.code ⟨"PrivateViews$Sheet", "rowsNow", "()I"⟩ prog_9_method_2_code 1 (some .int) ∈ jTB := jtb (List.mem_of_getElem? (i := 443) (by decide +kernel)) (by decide +kernel)
theorem kw_444 : Cond.methodLink "PrivateViews$Sheet" 31 ⟨"PrivateViews$RowList", "length", "()I"⟩ ∈ jTB := jtb (List.mem_of_getElem? (i := 444) (by decide +kernel)) (by decide +kernel)
theorem kw_445 : Cond.instanceMethod ⟨"PrivateViews$RowList", "length", "()I"⟩ ∈ jTB := jtb (List.mem_of_getElem? (i := 445) (by decide +kernel)) (by decide +kernel)
theorem kw_446 : Cond.selects "PrivateViews$RowList" ⟨"PrivateViews$RowList", "length", "()I"⟩ ⟨"PrivateViews$RowList", "length", "()I"⟩ ∈ jTB := jtb (List.mem_of_getElem? (i := 446) (by decide +kernel)) (by decide +kernel)
theorem kw_447 : Cond.code ⟨"PrivateViews$RowList", "length", "()I"⟩ prog_8_method_2_code 1 (some .int) ∈ jTB := jtb (List.mem_of_getElem? (i := 447) (by decide +kernel)) (by decide +kernel)
theorem kw_454 : Cond.instanceMethod ⟨"PrivateViews", "sheet", "()I"⟩ ∈ jTB := jtb (List.mem_of_getElem? (i := 454) (by decide +kernel)) (by decide +kernel)
theorem kw_455 : Cond.selects "PrivateViews" ⟨"PrivateViews", "sheet", "()I"⟩ ⟨"PrivateViews", "sheet", "()I"⟩ ∈ jTB := jtb (List.mem_of_getElem? (i := 455) (by decide +kernel)) (by decide +kernel)
theorem kw_456 : Cond.code ⟨"PrivateViews", "sheet", "()I"⟩ prog_1_method_4_code 1 (some .int) ∈ jTB := jtb (List.mem_of_getElem? (i := 456) (by decide +kernel)) (by decide +kernel)
theorem kw_457 : Cond.methodLink "PrivateViews" 45 ⟨"PrivateViews$Reader", "openText", "()V"⟩ ∈ jTB := jtb (List.mem_of_getElem? (i := 457) (by decide +kernel)) (by decide +kernel)
theorem kw_458 : Cond.instanceMethod ⟨"PrivateViews$Reader", "openText", "()V"⟩ ∈ jTB := jtb (List.mem_of_getElem? (i := 458) (by decide +kernel)) (by decide +kernel)
theorem kw_459 : Cond.selects "PrivateViews$Reader" ⟨"PrivateViews$Reader", "openText", "()V"⟩ ⟨"PrivateViews$Reader", "openText", "()V"⟩ ∈ jTB := jtb (List.mem_of_getElem? (i := 459) (by decide +kernel)) (by decide +kernel)
theorem kw_460 : Cond.code ⟨"PrivateViews$Reader", "openText", "()V"⟩ prog_7_method_5_code 1 none ∈ jTB := jtb (List.mem_of_getElem? (i := 460) (by decide +kernel)) (by decide +kernel)
theorem kw_461 : Cond.methodLink "PrivateViews$Reader" 28 ⟨"PrivateViews$Reader", "useUp", "()V"⟩ ∈ jTB := jtb (List.mem_of_getElem? (i := 461) (by decide +kernel)) (by decide +kernel)
theorem kw_462 : Cond.instanceMethod ⟨"PrivateViews$Reader", "useUp", "()V"⟩ ∈ jTB := jtb (List.mem_of_getElem? (i := 462) (by decide +kernel)) (by decide +kernel)
theorem kw_463 : Cond.selects "PrivateViews$Reader" ⟨"PrivateViews$Reader", "useUp", "()V"⟩ ⟨"PrivateViews$Reader", "useUp", "()V"⟩ ∈ jTB := jtb (List.mem_of_getElem? (i := 463) (by decide +kernel)) (by decide +kernel)
theorem kw_464 : Cond.code ⟨"PrivateViews$Reader", "useUp", "()V"⟩ prog_7_method_3_code 1 none ∈ jTB := jtb (List.mem_of_getElem? (i := 464) (by decide +kernel)) (by decide +kernel)
theorem kw_465 : Cond.methodLink "PrivateViews$Reader" 31 ⟨"PrivateViews$Reader", "openUsedText", "()V"⟩ ∈ jTB := jtb (List.mem_of_getElem? (i := 465) (by decide +kernel)) (by decide +kernel)
theorem kw_466 : Cond.instanceMethod ⟨"PrivateViews$Reader", "openUsedText", "()V"⟩ ∈ jTB := jtb (List.mem_of_getElem? (i := 466) (by decide +kernel)) (by decide +kernel)
theorem kw_467 : Cond.selects "PrivateViews$Reader" ⟨"PrivateViews$Reader", "openUsedText", "()V"⟩ ⟨"PrivateViews$Reader", "openUsedText", "()V"⟩ ∈ jTB := jtb (List.mem_of_getElem? (i := 467) (by decide +kernel)) (by decide +kernel)
theorem kw_468 : Cond.code ⟨"PrivateViews$Reader", "openUsedText", "()V"⟩ prog_7_method_4_code 1 none ∈ jTB := jtb (List.mem_of_getElem? (i := 468) (by decide +kernel)) (by decide +kernel)
theorem kw_469 : Cond.methodLink "PrivateViews" 52 ⟨"PrivateViews$Texts", "readSheet", "(LPrivateViews$Reader;LPrivateViews$Sheet;)Z"⟩ ∈ jTB := jtb (List.mem_of_getElem? (i := 469) (by decide +kernel)) (by decide +kernel)
theorem kw_470 : Cond.instanceMethod ⟨"PrivateViews$Texts", "readSheet", "(LPrivateViews$Reader;LPrivateViews$Sheet;)Z"⟩ ∈ jTB := jtb (List.mem_of_getElem? (i := 470) (by decide +kernel)) (by decide +kernel)
theorem kw_471 : Cond.selects "PrivateViews$Texts" ⟨"PrivateViews$Texts", "readSheet", "(LPrivateViews$Reader;LPrivateViews$Sheet;)Z"⟩ ⟨"PrivateViews$Texts", "readSheet", "(LPrivateViews$Reader;LPrivateViews$Sheet;)Z"⟩ ∈ jTB := jtb (List.mem_of_getElem? (i := 471) (by decide +kernel)) (by decide +kernel)
theorem kw_472 : Cond.code ⟨"PrivateViews$Texts", "readSheet", "(LPrivateViews$Reader;LPrivateViews$Sheet;)Z"⟩ prog_11_method_8_code 4 (some .boolean) ∈ jTB := jtb (List.mem_of_getElem? (i := 472) (by decide +kernel)) (by decide +kernel)
theorem kw_473 : Cond.methodLink "PrivateViews$Texts" 50 ⟨"PrivateViews$Texts", "knowColumns", "(LPrivateViews$Sheet;)V"⟩ ∈ jTB := jtb (List.mem_of_getElem? (i := 473) (by decide +kernel)) (by decide +kernel)
theorem kw_475 : Cond.instanceMethod ⟨"PrivateViews$Texts", "knowColumns", "(LPrivateViews$Sheet;)V"⟩ ∈ jTB := jtb (List.mem_of_getElem? (i := 475) (by decide +kernel)) (by decide +kernel)
theorem kw_476 : Cond.code ⟨"PrivateViews$Texts", "knowColumns", "(LPrivateViews$Sheet;)V"⟩ prog_11_method_4_code 2 none ∈ jTB := jtb (List.mem_of_getElem? (i := 476) (by decide +kernel)) (by decide +kernel)
theorem kw_477 : Cond.methodLink "PrivateViews$Texts" 44 ⟨"java/lang/System", "arraycopy", "(Ljava/lang/Object;ILjava/lang/Object;II)V"⟩ ∈ jTB := jtb (List.mem_of_getElem? (i := 477) (by decide +kernel)) (by decide +kernel)
theorem kw_478 : Cond.methodLink "PrivateViews$Texts" 54 ⟨"PrivateViews$Reader", "isOver", "()Z"⟩ ∈ jTB := jtb (List.mem_of_getElem? (i := 478) (by decide +kernel)) (by decide +kernel)
theorem kw_479 : Cond.instanceMethod ⟨"PrivateViews$Reader", "isOver", "()Z"⟩ ∈ jTB := jtb (List.mem_of_getElem? (i := 479) (by decide +kernel)) (by decide +kernel)
theorem kw_480 : Cond.selects "PrivateViews$Reader" ⟨"PrivateViews$Reader", "isOver", "()Z"⟩ ⟨"PrivateViews$Reader", "isOver", "()Z"⟩ ∈ jTB := jtb (List.mem_of_getElem? (i := 480) (by decide +kernel)) (by decide +kernel)
theorem kw_481 : Cond.code ⟨"PrivateViews$Reader", "isOver", "()Z"⟩ prog_7_method_12_code 1 (some .boolean) ∈ jTB := jtb (List.mem_of_getElem? (i := 481) (by decide +kernel)) (by decide +kernel)
theorem kw_482 : Cond.methodLink "PrivateViews$Reader" 34 ⟨"PrivateViews$Reader", "skipBlanks", "()V"⟩ ∈ jTB := jtb (List.mem_of_getElem? (i := 482) (by decide +kernel)) (by decide +kernel)
theorem kw_483 : Cond.instanceMethod ⟨"PrivateViews$Reader", "skipBlanks", "()V"⟩ ∈ jTB := jtb (List.mem_of_getElem? (i := 483) (by decide +kernel)) (by decide +kernel)
theorem kw_484 : Cond.selects "PrivateViews$Reader" ⟨"PrivateViews$Reader", "skipBlanks", "()V"⟩ ⟨"PrivateViews$Reader", "skipBlanks", "()V"⟩ ∈ jTB := jtb (List.mem_of_getElem? (i := 484) (by decide +kernel)) (by decide +kernel)
theorem kw_485 : Cond.code ⟨"PrivateViews$Reader", "skipBlanks", "()V"⟩ prog_7_method_11_code 1 none ∈ jTB := jtb (List.mem_of_getElem? (i := 485) (by decide +kernel)) (by decide +kernel)
theorem kw_486 : Cond.methodLink "PrivateViews$Texts" 60 ⟨"PrivateViews$Sheet", "rowsNow", "()I"⟩ ∈ jTB := jtb (List.mem_of_getElem? (i := 486) (by decide +kernel)) (by decide +kernel)
theorem kw_487 : Cond.methodLink "PrivateViews$Texts" 64 ⟨"PrivateViews$Texts", "readLine", "(LPrivateViews$Reader;I)Z"⟩ ∈ jTB := jtb (List.mem_of_getElem? (i := 487) (by decide +kernel)) (by decide +kernel)
theorem kw_489 : Cond.instanceMethod ⟨"PrivateViews$Texts", "readLine", "(LPrivateViews$Reader;I)Z"⟩ ∈ jTB := jtb (List.mem_of_getElem? (i := 489) (by decide +kernel)) (by decide +kernel)
theorem kw_490 : Cond.code ⟨"PrivateViews$Texts", "readLine", "(LPrivateViews$Reader;I)Z"⟩ prog_11_method_9_code 5 (some .boolean) ∈ jTB := jtb (List.mem_of_getElem? (i := 490) (by decide +kernel)) (by decide +kernel)
theorem kw_491 : Cond.methodLink "PrivateViews$Texts" 75 ⟨"PrivateViews$Reader", "skipBlanks", "()V"⟩ ∈ jTB := jtb (List.mem_of_getElem? (i := 491) (by decide +kernel)) (by decide +kernel)
theorem kw_493 : Cond.methodLink "PrivateViews$Texts" 82 ⟨"PrivateViews$Reader", "takeWord", "(Ljava/lang/String;)Z"⟩ ∈ jTB := jtb (List.mem_of_getElem? (i := 493) (by decide +kernel)) (by decide +kernel)
theorem kw_494 : Cond.instanceMethod ⟨"PrivateViews$Reader", "takeWord", "(Ljava/lang/String;)Z"⟩ ∈ jTB := jtb (List.mem_of_getElem? (i := 494) (by decide +kernel)) (by decide +kernel)
theorem kw_495 : Cond.selects "PrivateViews$Reader" ⟨"PrivateViews$Reader", "takeWord", "(Ljava/lang/String;)Z"⟩ ⟨"PrivateViews$Reader", "takeWord", "(Ljava/lang/String;)Z"⟩ ∈ jTB := jtb (List.mem_of_getElem? (i := 495) (by decide +kernel)) (by decide +kernel)
theorem kw_496 : Cond.code ⟨"PrivateViews$Reader", "takeWord", "(Ljava/lang/String;)Z"⟩ prog_7_method_15_code 2 (some .boolean) ∈ jTB := jtb (List.mem_of_getElem? (i := 496) (by decide +kernel)) (by decide +kernel)
theorem kw_497 : Cond.methodLink "PrivateViews$Reader" 50 ⟨"PrivateViews$Reader", "isWordHere", "(Ljava/lang/String;)Z"⟩ ∈ jTB := jtb (List.mem_of_getElem? (i := 497) (by decide +kernel)) (by decide +kernel)
theorem kw_498 : Cond.instanceMethod ⟨"PrivateViews$Reader", "isWordHere", "(Ljava/lang/String;)Z"⟩ ∈ jTB := jtb (List.mem_of_getElem? (i := 498) (by decide +kernel)) (by decide +kernel)
theorem kw_499 : Cond.selects "PrivateViews$Reader" ⟨"PrivateViews$Reader", "isWordHere", "(Ljava/lang/String;)Z"⟩ ⟨"PrivateViews$Reader", "isWordHere", "(Ljava/lang/String;)Z"⟩ ∈ jTB := jtb (List.mem_of_getElem? (i := 499) (by decide +kernel)) (by decide +kernel)
theorem kw_500 : Cond.code ⟨"PrivateViews$Reader", "isWordHere", "(Ljava/lang/String;)Z"⟩ prog_7_method_14_code 4 (some .boolean) ∈ jTB := jtb (List.mem_of_getElem? (i := 500) (by decide +kernel)) (by decide +kernel)
theorem kw_501 : Cond.methodLink "PrivateViews$Reader" 41 ⟨"java/lang/String", "length", "()I"⟩ ∈ jTB := jtb (List.mem_of_getElem? (i := 501) (by decide +kernel)) (by decide +kernel)
theorem kw_511 : Cond.methodLink "PrivateViews$Reader" 46 ⟨"java/lang/String", "charAt", "(I)C"⟩ ∈ jTB := jtb (List.mem_of_getElem? (i := 511) (by decide +kernel)) (by decide +kernel)
theorem kw_549 : Cond.methodLink "PrivateViews$Texts" 86 ⟨"PrivateViews$Texts", "readKinds", "(LPrivateViews$Reader;)Z"⟩ ∈ jTB := jtb (List.mem_of_getElem? (i := 549) (by decide +kernel)) (by decide +kernel)
theorem kw_551 : Cond.instanceMethod ⟨"PrivateViews$Texts", "readKinds", "(LPrivateViews$Reader;)Z"⟩ ∈ jTB := jtb (List.mem_of_getElem? (i := 551) (by decide +kernel)) (by decide +kernel)
theorem kw_552 : Cond.code ⟨"PrivateViews$Texts", "readKinds", "(LPrivateViews$Reader;)Z"⟩ prog_11_method_10_code 3 (some .boolean) ∈ jTB := jtb (List.mem_of_getElem? (i := 552) (by decide +kernel)) (by decide +kernel)
theorem kw_555 : Cond.methodLink "PrivateViews$Texts" 72 ⟨"PrivateViews$Reader", "failHere", "()Z"⟩ ∈ jTB := jtb (List.mem_of_getElem? (i := 555) (by decide +kernel)) (by decide +kernel)
theorem kw_556 : Cond.instanceMethod ⟨"PrivateViews$Reader", "failHere", "()Z"⟩ ∈ jTB := jtb (List.mem_of_getElem? (i := 556) (by decide +kernel)) (by decide +kernel)
theorem kw_557 : Cond.selects "PrivateViews$Reader" ⟨"PrivateViews$Reader", "failHere", "()Z"⟩ ⟨"PrivateViews$Reader", "failHere", "()Z"⟩ ∈ jTB := jtb (List.mem_of_getElem? (i := 557) (by decide +kernel)) (by decide +kernel)
theorem kw_558 : Cond.code ⟨"PrivateViews$Reader", "failHere", "()Z"⟩ prog_7_method_7_code 1 (some .boolean) ∈ jTB := jtb (List.mem_of_getElem? (i := 558) (by decide +kernel)) (by decide +kernel)
theorem kw_559 : Cond.methodLink "PrivateViews$Texts" 90 ⟨"PrivateViews$Reader", "failAt", "(I)Z"⟩ ∈ jTB := jtb (List.mem_of_getElem? (i := 559) (by decide +kernel)) (by decide +kernel)
theorem kw_560 : Cond.instanceMethod ⟨"PrivateViews$Reader", "failAt", "(I)Z"⟩ ∈ jTB := jtb (List.mem_of_getElem? (i := 560) (by decide +kernel)) (by decide +kernel)
theorem kw_561 : Cond.selects "PrivateViews$Reader" ⟨"PrivateViews$Reader", "failAt", "(I)Z"⟩ ⟨"PrivateViews$Reader", "failAt", "(I)Z"⟩ ∈ jTB := jtb (List.mem_of_getElem? (i := 561) (by decide +kernel)) (by decide +kernel)
theorem kw_562 : Cond.code ⟨"PrivateViews$Reader", "failAt", "(I)Z"⟩ prog_7_method_6_code 2 (some .boolean) ∈ jTB := jtb (List.mem_of_getElem? (i := 562) (by decide +kernel)) (by decide +kernel)
theorem kw_564 : Cond.methodLink "PrivateViews$Texts" 96 ⟨"PrivateViews$Texts", "readCells", "(LPrivateViews$Reader;)Z"⟩ ∈ jTB := jtb (List.mem_of_getElem? (i := 564) (by decide +kernel)) (by decide +kernel)
theorem kw_566 : Cond.instanceMethod ⟨"PrivateViews$Texts", "readCells", "(LPrivateViews$Reader;)Z"⟩ ∈ jTB := jtb (List.mem_of_getElem? (i := 566) (by decide +kernel)) (by decide +kernel)
theorem kw_567 : Cond.code ⟨"PrivateViews$Texts", "readCells", "(LPrivateViews$Reader;)Z"⟩ prog_11_method_11_code 3 (some .boolean) ∈ jTB := jtb (List.mem_of_getElem? (i := 567) (by decide +kernel)) (by decide +kernel)
theorem kw_568 : Cond.methodLink "PrivateViews$Texts" 103 ⟨"PrivateViews$Texts", "beginRow", "()V"⟩ ∈ jTB := jtb (List.mem_of_getElem? (i := 568) (by decide +kernel)) (by decide +kernel)
theorem kw_570 : Cond.instanceMethod ⟨"PrivateViews$Texts", "beginRow", "()V"⟩ ∈ jTB := jtb (List.mem_of_getElem? (i := 570) (by decide +kernel)) (by decide +kernel)
theorem kw_571 : Cond.code ⟨"PrivateViews$Texts", "beginRow", "()V"⟩ prog_11_method_6_code 1 none ∈ jTB := jtb (List.mem_of_getElem? (i := 571) (by decide +kernel)) (by decide +kernel)
theorem kw_572 : Cond.methodLink "PrivateViews$Texts" 106 ⟨"PrivateViews$Texts", "kindAsked", "(I)I"⟩ ∈ jTB := jtb (List.mem_of_getElem? (i := 572) (by decide +kernel)) (by decide +kernel)
theorem kw_574 : Cond.instanceMethod ⟨"PrivateViews$Texts", "kindAsked", "(I)I"⟩ ∈ jTB := jtb (List.mem_of_getElem? (i := 574) (by decide +kernel)) (by decide +kernel)
theorem kw_575 : Cond.code ⟨"PrivateViews$Texts", "kindAsked", "(I)I"⟩ prog_11_method_5_code 2 (some .int) ∈ jTB := jtb (List.mem_of_getElem? (i := 575) (by decide +kernel)) (by decide +kernel)
theorem kw_576 : Cond.methodLink "PrivateViews$Texts" 109 ⟨"PrivateViews$Reader", "takeCell", "(I)Z"⟩ ∈ jTB := jtb (List.mem_of_getElem? (i := 576) (by decide +kernel)) (by decide +kernel)
theorem kw_577 : Cond.instanceMethod ⟨"PrivateViews$Reader", "takeCell", "(I)Z"⟩ ∈ jTB := jtb (List.mem_of_getElem? (i := 577) (by decide +kernel)) (by decide +kernel)
theorem kw_578 : Cond.selects "PrivateViews$Reader" ⟨"PrivateViews$Reader", "takeCell", "(I)Z"⟩ ⟨"PrivateViews$Reader", "takeCell", "(I)Z"⟩ ∈ jTB := jtb (List.mem_of_getElem? (i := 578) (by decide +kernel)) (by decide +kernel)
theorem kw_579 : Cond.code ⟨"PrivateViews$Reader", "takeCell", "(I)Z"⟩ prog_7_method_17_code 2 (some .boolean) ∈ jTB := jtb (List.mem_of_getElem? (i := 579) (by decide +kernel)) (by decide +kernel)
theorem kw_580 : Cond.methodLink "PrivateViews$Reader" 67 ⟨"PrivateViews$Reader", "takeSign", "(C)Z"⟩ ∈ jTB := jtb (List.mem_of_getElem? (i := 580) (by decide +kernel)) (by decide +kernel)
theorem kw_581 : Cond.instanceMethod ⟨"PrivateViews$Reader", "takeSign", "(C)Z"⟩ ∈ jTB := jtb (List.mem_of_getElem? (i := 581) (by decide +kernel)) (by decide +kernel)
theorem kw_582 : Cond.selects "PrivateViews$Reader" ⟨"PrivateViews$Reader", "takeSign", "(C)Z"⟩ ⟨"PrivateViews$Reader", "takeSign", "(C)Z"⟩ ∈ jTB := jtb (List.mem_of_getElem? (i := 582) (by decide +kernel)) (by decide +kernel)
theorem kw_583 : Cond.code ⟨"PrivateViews$Reader", "takeSign", "(C)Z"⟩ prog_7_method_13_code 2 (some .boolean) ∈ jTB := jtb (List.mem_of_getElem? (i := 583) (by decide +kernel)) (by decide +kernel)
theorem kw_584 : Cond.methodLink "PrivateViews$Reader" 37 ⟨"PrivateViews$Reader", "byteAt", "(I)I"⟩ ∈ jTB := jtb (List.mem_of_getElem? (i := 584) (by decide +kernel)) (by decide +kernel)
theorem kw_585 : Cond.instanceMethod ⟨"PrivateViews$Reader", "byteAt", "(I)I"⟩ ∈ jTB := jtb (List.mem_of_getElem? (i := 585) (by decide +kernel)) (by decide +kernel)
theorem kw_586 : Cond.selects "PrivateViews$Reader" ⟨"PrivateViews$Reader", "byteAt", "(I)I"⟩ ⟨"PrivateViews$Reader", "byteAt", "(I)I"⟩ ∈ jTB := jtb (List.mem_of_getElem? (i := 586) (by decide +kernel)) (by decide +kernel)
theorem kw_587 : Cond.code ⟨"PrivateViews$Reader", "byteAt", "(I)I"⟩ prog_7_method_8_code 2 (some .int) ∈ jTB := jtb (List.mem_of_getElem? (i := 587) (by decide +kernel)) (by decide +kernel)
theorem kw_588 : Cond.constant "PrivateViews$Reader" 71 (-1000000) ∈ jTB := jtb (List.mem_of_getElem? (i := 588) (by decide +kernel)) (by decide +kernel)
theorem kw_589 : Cond.methodLink "PrivateViews$Reader" 72 ⟨"PrivateViews$Reader", "takeNumber", "(Z)Z"⟩ ∈ jTB := jtb (List.mem_of_getElem? (i := 589) (by decide +kernel)) (by decide +kernel)
theorem kw_590 : Cond.instanceMethod ⟨"PrivateViews$Reader", "takeNumber", "(Z)Z"⟩ ∈ jTB := jtb (List.mem_of_getElem? (i := 590) (by decide +kernel)) (by decide +kernel)
theorem kw_591 : Cond.selects "PrivateViews$Reader" ⟨"PrivateViews$Reader", "takeNumber", "(Z)Z"⟩ ⟨"PrivateViews$Reader", "takeNumber", "(Z)Z"⟩ ∈ jTB := jtb (List.mem_of_getElem? (i := 591) (by decide +kernel)) (by decide +kernel)
theorem kw_592 : Cond.code ⟨"PrivateViews$Reader", "takeNumber", "(Z)Z"⟩ prog_7_method_16_code 6 (some .boolean) ∈ jTB := jtb (List.mem_of_getElem? (i := 592) (by decide +kernel)) (by decide +kernel)
theorem kw_593 : Cond.methodLink "PrivateViews$Reader" 57 ⟨"PrivateViews$Reader", "isDigitAt", "(I)Z"⟩ ∈ jTB := jtb (List.mem_of_getElem? (i := 593) (by decide +kernel)) (by decide +kernel)
theorem kw_594 : Cond.instanceMethod ⟨"PrivateViews$Reader", "isDigitAt", "(I)Z"⟩ ∈ jTB := jtb (List.mem_of_getElem? (i := 594) (by decide +kernel)) (by decide +kernel)
theorem kw_595 : Cond.selects "PrivateViews$Reader" ⟨"PrivateViews$Reader", "isDigitAt", "(I)Z"⟩ ⟨"PrivateViews$Reader", "isDigitAt", "(I)Z"⟩ ∈ jTB := jtb (List.mem_of_getElem? (i := 595) (by decide +kernel)) (by decide +kernel)
theorem kw_596 : Cond.code ⟨"PrivateViews$Reader", "isDigitAt", "(I)Z"⟩ prog_7_method_10_code 2 (some .boolean) ∈ jTB := jtb (List.mem_of_getElem? (i := 596) (by decide +kernel)) (by decide +kernel)
theorem kw_597 : Cond.methodLink "PrivateViews$Reader" 61 ⟨"PrivateViews$Reader", "failAt", "(I)Z"⟩ ∈ jTB := jtb (List.mem_of_getElem? (i := 597) (by decide +kernel)) (by decide +kernel)
theorem kw_598 : Cond.methodLink "PrivateViews$Reader" 76 ⟨"PrivateViews$Reader", "takeLetters", "()Z"⟩ ∈ jTB := jtb (List.mem_of_getElem? (i := 598) (by decide +kernel)) (by decide +kernel)
theorem kw_600 : Cond.instanceMethod ⟨"PrivateViews$Reader", "takeLetters", "()Z"⟩ ∈ jTB := jtb (List.mem_of_getElem? (i := 600) (by decide +kernel)) (by decide +kernel)
theorem kw_601 : Cond.code ⟨"PrivateViews$Reader", "takeLetters", "()Z"⟩ prog_7_method_18_code 4 (some .boolean) ∈ jTB := jtb (List.mem_of_getElem? (i := 601) (by decide +kernel)) (by decide +kernel)
theorem kw_602 : Cond.methodLink "PrivateViews$Reader" 80 ⟨"PrivateViews$Reader", "isLetterAt", "(I)Z"⟩ ∈ jTB := jtb (List.mem_of_getElem? (i := 602) (by decide +kernel)) (by decide +kernel)
theorem kw_603 : Cond.instanceMethod ⟨"PrivateViews$Reader", "isLetterAt", "(I)Z"⟩ ∈ jTB := jtb (List.mem_of_getElem? (i := 603) (by decide +kernel)) (by decide +kernel)
theorem kw_604 : Cond.selects "PrivateViews$Reader" ⟨"PrivateViews$Reader", "isLetterAt", "(I)Z"⟩ ⟨"PrivateViews$Reader", "isLetterAt", "(I)Z"⟩ ∈ jTB := jtb (List.mem_of_getElem? (i := 604) (by decide +kernel)) (by decide +kernel)
theorem kw_605 : Cond.code ⟨"PrivateViews$Reader", "isLetterAt", "(I)Z"⟩ prog_7_method_9_code 2 (some .boolean) ∈ jTB := jtb (List.mem_of_getElem? (i := 605) (by decide +kernel)) (by decide +kernel)
theorem kw_606 : Cond.methodLink "PrivateViews$Reader" 83 ⟨"PrivateViews$Reader", "failHere", "()Z"⟩ ∈ jTB := jtb (List.mem_of_getElem? (i := 606) (by decide +kernel)) (by decide +kernel)
theorem kw_607 : Cond.methodLink "PrivateViews$Texts" 115 ⟨"PrivateViews$Texts", "takeValue", "(I)V"⟩ ∈ jTB := jtb (List.mem_of_getElem? (i := 607) (by decide +kernel)) (by decide +kernel)
theorem kw_609 : Cond.instanceMethod ⟨"PrivateViews$Texts", "takeValue", "(I)V"⟩ ∈ jTB := jtb (List.mem_of_getElem? (i := 609) (by decide +kernel)) (by decide +kernel)
theorem kw_610 : Cond.code ⟨"PrivateViews$Texts", "takeValue", "(I)V"⟩ prog_11_method_7_code 2 none ∈ jTB := jtb (List.mem_of_getElem? (i := 610) (by decide +kernel)) (by decide +kernel)
theorem kw_611 : Cond.methodLink "PrivateViews$Texts" 68 ⟨"PrivateViews$Reader", "takeSign", "(C)Z"⟩ ∈ jTB := jtb (List.mem_of_getElem? (i := 611) (by decide +kernel)) (by decide +kernel)
theorem kw_612 : Cond.classLink "PrivateViews" 56 "java/lang/IllegalArgumentException" ∈ jTB := jtb (List.mem_of_getElem? (i := 612) (by decide +kernel)) (by decide +kernel)
theorem kw_678 : Cond.classLink "PrivateViews" 63 "java/lang/UnsupportedOperationException" ∈ jTB := jtb (List.mem_of_getElem? (i := 678) (by decide +kernel)) (by decide +kernel)
theorem kw_693 : Cond.methodLink "PrivateViews" 66 ⟨"PrivateViews$State", "takeSheetText", "(LPrivateViews$Texts;)V"⟩ ∈ jTB := jtb (List.mem_of_getElem? (i := 693) (by decide +kernel)) (by decide +kernel)
theorem kw_694 : Cond.instanceMethod ⟨"PrivateViews$State", "takeSheetText", "(LPrivateViews$Texts;)V"⟩ ∈ jTB := jtb (List.mem_of_getElem? (i := 694) (by decide +kernel)) (by decide +kernel)
theorem kw_695 : Cond.selects "PrivateViews$State" ⟨"PrivateViews$State", "takeSheetText", "(LPrivateViews$Texts;)V"⟩ ⟨"PrivateViews$State", "takeSheetText", "(LPrivateViews$Texts;)V"⟩ ∈ jTB := jtb (List.mem_of_getElem? (i := 695) (by decide +kernel)) (by decide +kernel)
theorem kw_696 : Cond.code ⟨"PrivateViews$State", "takeSheetText", "(LPrivateViews$Texts;)V"⟩ prog_10_method_2_code 5 none ∈ jTB := jtb (List.mem_of_getElem? (i := 696) (by decide +kernel)) (by decide +kernel)
theorem kw_697 : Cond.methodLink "PrivateViews$State" 51 ⟨"java/lang/System", "arraycopy", "(Ljava/lang/Object;ILjava/lang/Object;II)V"⟩ ∈ jTB := jtb (List.mem_of_getElem? (i := 697) (by decide +kernel)) (by decide +kernel)
theorem kw_698 : Cond.methodLink "PrivateViews$State" 60 ⟨"PrivateViews$Sheet", "seatNewRow", "()I"⟩ ∈ jTB := jtb (List.mem_of_getElem? (i := 698) (by decide +kernel)) (by decide +kernel)
theorem kw_699 : Cond.instanceMethod ⟨"PrivateViews$Sheet", "seatNewRow", "()I"⟩ ∈ jTB := jtb (List.mem_of_getElem? (i := 699) (by decide +kernel)) (by decide +kernel)
theorem kw_700 : Cond.selects "PrivateViews$Sheet" ⟨"PrivateViews$Sheet", "seatNewRow", "()I"⟩ ⟨"PrivateViews$Sheet", "seatNewRow", "()I"⟩ ∈ jTB := jtb (List.mem_of_getElem? (i := 700) (by decide +kernel)) (by decide +kernel)
theorem kw_701 : Cond.code ⟨"PrivateViews$Sheet", "seatNewRow", "()I"⟩ prog_9_method_13_code 3 (some .int) ∈ jTB := jtb (List.mem_of_getElem? (i := 701) (by decide +kernel)) (by decide +kernel)
theorem kw_702 : Cond.methodLink "PrivateViews$Sheet" 66 ⟨"PrivateViews$RowList", "holds", "(I)Z"⟩ ∈ jTB := jtb (List.mem_of_getElem? (i := 702) (by decide +kernel)) (by decide +kernel)
theorem kw_703 : Cond.instanceMethod ⟨"PrivateViews$RowList", "holds", "(I)Z"⟩ ∈ jTB := jtb (List.mem_of_getElem? (i := 703) (by decide +kernel)) (by decide +kernel)
theorem kw_704 : Cond.selects "PrivateViews$RowList" ⟨"PrivateViews$RowList", "holds", "(I)Z"⟩ ⟨"PrivateViews$RowList", "holds", "(I)Z"⟩ ∈ jTB := jtb (List.mem_of_getElem? (i := 704) (by decide +kernel)) (by decide +kernel)
theorem kw_705 : Cond.code ⟨"PrivateViews$RowList", "holds", "(I)Z"⟩ prog_8_method_5_code 2 (some .boolean) ∈ jTB := jtb (List.mem_of_getElem? (i := 705) (by decide +kernel)) (by decide +kernel)
theorem kw_706 : Cond.methodLink "PrivateViews$RowList" 23 ⟨"PrivateViews$RowList", "placeOf", "(I)I"⟩ ∈ jTB := jtb (List.mem_of_getElem? (i := 706) (by decide +kernel)) (by decide +kernel)
theorem kw_707 : Cond.instanceMethod ⟨"PrivateViews$RowList", "placeOf", "(I)I"⟩ ∈ jTB := jtb (List.mem_of_getElem? (i := 707) (by decide +kernel)) (by decide +kernel)
theorem kw_708 : Cond.selects "PrivateViews$RowList" ⟨"PrivateViews$RowList", "placeOf", "(I)I"⟩ ⟨"PrivateViews$RowList", "placeOf", "(I)I"⟩ ∈ jTB := jtb (List.mem_of_getElem? (i := 708) (by decide +kernel)) (by decide +kernel)
theorem kw_709 : Cond.code ⟨"PrivateViews$RowList", "placeOf", "(I)I"⟩ prog_8_method_4_code 3 (some .int) ∈ jTB := jtb (List.mem_of_getElem? (i := 709) (by decide +kernel)) (by decide +kernel)
theorem kw_710 : Cond.methodLink "PrivateViews$RowList" 19 ⟨"PrivateViews$RowList", "at", "(I)I"⟩ ∈ jTB := jtb (List.mem_of_getElem? (i := 710) (by decide +kernel)) (by decide +kernel)
theorem kw_711 : Cond.constant "PrivateViews$Sheet" 53 (-1000000) ∈ jTB := jtb (List.mem_of_getElem? (i := 711) (by decide +kernel)) (by decide +kernel)
theorem kw_712 : Cond.methodLink "PrivateViews$Sheet" 72 ⟨"PrivateViews$Sheet", "write", "(IIII)V"⟩ ∈ jTB := jtb (List.mem_of_getElem? (i := 712) (by decide +kernel)) (by decide +kernel)
theorem kw_713 : Cond.instanceMethod ⟨"PrivateViews$Sheet", "write", "(IIII)V"⟩ ∈ jTB := jtb (List.mem_of_getElem? (i := 713) (by decide +kernel)) (by decide +kernel)
theorem kw_714 : Cond.selects "PrivateViews$Sheet" ⟨"PrivateViews$Sheet", "write", "(IIII)V"⟩ ⟨"PrivateViews$Sheet", "write", "(IIII)V"⟩ ∈ jTB := jtb (List.mem_of_getElem? (i := 714) (by decide +kernel)) (by decide +kernel)
theorem kw_715 : Cond.code ⟨"PrivateViews$Sheet", "write", "(IIII)V"⟩ prog_9_method_10_code 5 none ∈ jTB := jtb (List.mem_of_getElem? (i := 715) (by decide +kernel)) (by decide +kernel)
theorem kw_716 : Cond.methodLink "PrivateViews$Sheet" 39 ⟨"PrivateViews$Sheet", "isColumn", "(I)Z"⟩ ∈ jTB := jtb (List.mem_of_getElem? (i := 716) (by decide +kernel)) (by decide +kernel)
theorem kw_717 : Cond.instanceMethod ⟨"PrivateViews$Sheet", "isColumn", "(I)Z"⟩ ∈ jTB := jtb (List.mem_of_getElem? (i := 717) (by decide +kernel)) (by decide +kernel)
theorem kw_718 : Cond.selects "PrivateViews$Sheet" ⟨"PrivateViews$Sheet", "isColumn", "(I)Z"⟩ ⟨"PrivateViews$Sheet", "isColumn", "(I)Z"⟩ ∈ jTB := jtb (List.mem_of_getElem? (i := 718) (by decide +kernel)) (by decide +kernel)
theorem kw_719 : Cond.code ⟨"PrivateViews$Sheet", "isColumn", "(I)Z"⟩ prog_9_method_3_code 2 (some .boolean) ∈ jTB := jtb (List.mem_of_getElem? (i := 719) (by decide +kernel)) (by decide +kernel)
theorem kw_720 : Cond.methodLink "PrivateViews$State" 64 ⟨"PrivateViews$Texts", "widthOf", "(I)I"⟩ ∈ jTB := jtb (List.mem_of_getElem? (i := 720) (by decide +kernel)) (by decide +kernel)
theorem kw_721 : Cond.instanceMethod ⟨"PrivateViews$Texts", "widthOf", "(I)I"⟩ ∈ jTB := jtb (List.mem_of_getElem? (i := 721) (by decide +kernel)) (by decide +kernel)
theorem kw_722 : Cond.selects "PrivateViews$Texts" ⟨"PrivateViews$Texts", "widthOf", "(I)I"⟩ ⟨"PrivateViews$Texts", "widthOf", "(I)I"⟩ ∈ jTB := jtb (List.mem_of_getElem? (i := 722) (by decide +kernel)) (by decide +kernel)
theorem kw_723 : Cond.code ⟨"PrivateViews$Texts", "widthOf", "(I)I"⟩ prog_11_method_3_code 2 (some .int) ∈ jTB := jtb (List.mem_of_getElem? (i := 723) (by decide +kernel)) (by decide +kernel)
theorem kw_724 : Cond.methodLink "PrivateViews$State" 68 ⟨"PrivateViews$Texts", "toldAt", "(II)I"⟩ ∈ jTB := jtb (List.mem_of_getElem? (i := 724) (by decide +kernel)) (by decide +kernel)
theorem kw_725 : Cond.instanceMethod ⟨"PrivateViews$Texts", "toldAt", "(II)I"⟩ ∈ jTB := jtb (List.mem_of_getElem? (i := 725) (by decide +kernel)) (by decide +kernel)
theorem kw_726 : Cond.selects "PrivateViews$Texts" ⟨"PrivateViews$Texts", "toldAt", "(II)I"⟩ ⟨"PrivateViews$Texts", "toldAt", "(II)I"⟩ ∈ jTB := jtb (List.mem_of_getElem? (i := 726) (by decide +kernel)) (by decide +kernel)
theorem kw_727 : Cond.code ⟨"PrivateViews$Texts", "toldAt", "(II)I"⟩ prog_11_method_2_code 4 (some .int) ∈ jTB := jtb (List.mem_of_getElem? (i := 727) (by decide +kernel)) (by decide +kernel)
theorem kw_728 : Cond.methodLink "PrivateViews$Texts" 32 ⟨"PrivateViews$Texts", "widthOf", "(I)I"⟩ ∈ jTB := jtb (List.mem_of_getElem? (i := 728) (by decide +kernel)) (by decide +kernel)
theorem kw_729 : Cond.constant "PrivateViews$Texts" 36 (-1000000) ∈ jTB := jtb (List.mem_of_getElem? (i := 729) (by decide +kernel)) (by decide +kernel)
theorem kw_730 : Cond.methodLink "PrivateViews$State" 72 ⟨"PrivateViews$Sheet", "write", "(IIII)V"⟩ ∈ jTB := jtb (List.mem_of_getElem? (i := 730) (by decide +kernel)) (by decide +kernel)
theorem kw_731 : Cond.methodLink "PrivateViews$State" 80 ⟨"PrivateViews$RowList", "putLast", "(I)V"⟩ ∈ jTB := jtb (List.mem_of_getElem? (i := 731) (by decide +kernel)) (by decide +kernel)
theorem kw_732 : Cond.instanceMethod ⟨"PrivateViews$RowList", "putLast", "(I)V"⟩ ∈ jTB := jtb (List.mem_of_getElem? (i := 732) (by decide +kernel)) (by decide +kernel)
theorem kw_733 : Cond.selects "PrivateViews$RowList" ⟨"PrivateViews$RowList", "putLast", "(I)V"⟩ ⟨"PrivateViews$RowList", "putLast", "(I)V"⟩ ∈ jTB := jtb (List.mem_of_getElem? (i := 733) (by decide +kernel)) (by decide +kernel)
theorem kw_734 : Cond.code ⟨"PrivateViews$RowList", "putLast", "(I)V"⟩ prog_8_method_7_code 2 none ∈ jTB := jtb (List.mem_of_getElem? (i := 734) (by decide +kernel)) (by decide +kernel)
theorem kw_735 : Cond.methodLink "PrivateViews$RowList" 26 ⟨"PrivateViews$RowList", "putAt", "(II)V"⟩ ∈ jTB := jtb (List.mem_of_getElem? (i := 735) (by decide +kernel)) (by decide +kernel)
theorem kw_736 : Cond.instanceMethod ⟨"PrivateViews$RowList", "putAt", "(II)V"⟩ ∈ jTB := jtb (List.mem_of_getElem? (i := 736) (by decide +kernel)) (by decide +kernel)
theorem kw_737 : Cond.selects "PrivateViews$RowList" ⟨"PrivateViews$RowList", "putAt", "(II)V"⟩ ⟨"PrivateViews$RowList", "putAt", "(II)V"⟩ ∈ jTB := jtb (List.mem_of_getElem? (i := 737) (by decide +kernel)) (by decide +kernel)
theorem kw_738 : Cond.code ⟨"PrivateViews$RowList", "putAt", "(II)V"⟩ prog_8_method_6_code 4 none ∈ jTB := jtb (List.mem_of_getElem? (i := 738) (by decide +kernel)) (by decide +kernel)
theorem kw_739 : Cond.methodLink "PrivateViews$State" 86 ⟨"PrivateViews$State", "joinOthers", "(II)V"⟩ ∈ jTB := jtb (List.mem_of_getElem? (i := 739) (by decide +kernel)) (by decide +kernel)
theorem kw_740 : Cond.instanceMethod ⟨"PrivateViews$State", "joinOthers", "(II)V"⟩ ∈ jTB := jtb (List.mem_of_getElem? (i := 740) (by decide +kernel)) (by decide +kernel)
theorem kw_741 : Cond.selects "PrivateViews$State" ⟨"PrivateViews$State", "joinOthers", "(II)V"⟩ ⟨"PrivateViews$State", "joinOthers", "(II)V"⟩ ∈ jTB := jtb (List.mem_of_getElem? (i := 741) (by decide +kernel)) (by decide +kernel)
theorem kw_742 : Cond.code ⟨"PrivateViews$State", "joinOthers", "(II)V"⟩ prog_10_method_3_code 4 none ∈ jTB := jtb (List.mem_of_getElem? (i := 742) (by decide +kernel)) (by decide +kernel)
theorem kw_743 : Cond.methodLink "PrivateViews$State" 97 ⟨"PrivateViews$Lens", "firstUnlike", "(LPrivateViews$Sheet;I)I"⟩ ∈ jTB := jtb (List.mem_of_getElem? (i := 743) (by decide +kernel)) (by decide +kernel)
theorem kw_744 : Cond.instanceMethod ⟨"PrivateViews$Lens", "firstUnlike", "(LPrivateViews$Sheet;I)I"⟩ ∈ jTB := jtb (List.mem_of_getElem? (i := 744) (by decide +kernel)) (by decide +kernel)
theorem kw_745 : Cond.selects "PrivateViews$Lens" ⟨"PrivateViews$Lens", "firstUnlike", "(LPrivateViews$Sheet;I)I"⟩ ⟨"PrivateViews$Lens", "firstUnlike", "(LPrivateViews$Sheet;I)I"⟩ ∈ jTB := jtb (List.mem_of_getElem? (i := 745) (by decide +kernel)) (by decide +kernel)
theorem kw_746 : Cond.code ⟨"PrivateViews$Lens", "firstUnlike", "(LPrivateViews$Sheet;I)I"⟩ prog_4_method_9_code 4 (some .int) ∈ jTB := jtb (List.mem_of_getElem? (i := 746) (by decide +kernel)) (by decide +kernel)
theorem kw_747 : Cond.methodLink "PrivateViews$Lens" 36 ⟨"PrivateViews$Sheet", "valueAt", "(II)I"⟩ ∈ jTB := jtb (List.mem_of_getElem? (i := 747) (by decide +kernel)) (by decide +kernel)
theorem kw_748 : Cond.instanceMethod ⟨"PrivateViews$Sheet", "valueAt", "(II)I"⟩ ∈ jTB := jtb (List.mem_of_getElem? (i := 748) (by decide +kernel)) (by decide +kernel)
theorem kw_749 : Cond.selects "PrivateViews$Sheet" ⟨"PrivateViews$Sheet", "valueAt", "(II)I"⟩ ⟨"PrivateViews$Sheet", "valueAt", "(II)I"⟩ ∈ jTB := jtb (List.mem_of_getElem? (i := 749) (by decide +kernel)) (by decide +kernel)
theorem kw_750 : Cond.code ⟨"PrivateViews$Sheet", "valueAt", "(II)I"⟩ prog_9_method_8_code 3 (some .int) ∈ jTB := jtb (List.mem_of_getElem? (i := 750) (by decide +kernel)) (by decide +kernel)
theorem kw_751 : Cond.methodLink "PrivateViews$Lens" 42 ⟨"PrivateViews$Filter", "accepts", "(I)Z"⟩ ∈ jTB := jtb (List.mem_of_getElem? (i := 751) (by decide +kernel)) (by decide +kernel)
theorem kw_752 : Cond.instanceMethod ⟨"PrivateViews$Filter", "accepts", "(I)Z"⟩ ∈ jTB := jtb (List.mem_of_getElem? (i := 752) (by decide +kernel)) (by decide +kernel)
theorem kw_753 : Cond.selects "PrivateViews$Filter" ⟨"PrivateViews$Filter", "accepts", "(I)Z"⟩ ⟨"PrivateViews$Filter", "accepts", "(I)Z"⟩ ∈ jTB := jtb (List.mem_of_getElem? (i := 753) (by decide +kernel)) (by decide +kernel)
theorem kw_754 : Cond.code ⟨"PrivateViews$Filter", "accepts", "(I)Z"⟩ prog_3_method_3_code 4 (some .boolean) ∈ jTB := jtb (List.mem_of_getElem? (i := 754) (by decide +kernel)) (by decide +kernel)
theorem kw_755 : Cond.methodLink "PrivateViews$Filter" 28 ⟨"PrivateViews$Filter", "isAs", "(II)Z"⟩ ∈ jTB := jtb (List.mem_of_getElem? (i := 755) (by decide +kernel)) (by decide +kernel)
theorem kw_757 : Cond.instanceMethod ⟨"PrivateViews$Filter", "isAs", "(II)Z"⟩ ∈ jTB := jtb (List.mem_of_getElem? (i := 757) (by decide +kernel)) (by decide +kernel)
theorem kw_758 : Cond.code ⟨"PrivateViews$Filter", "isAs", "(II)Z"⟩ prog_3_method_4_code 3 (some .boolean) ∈ jTB := jtb (List.mem_of_getElem? (i := 758) (by decide +kernel)) (by decide +kernel)
theorem kw_759 : Cond.constant "PrivateViews$Filter" 32 (-1000000) ∈ jTB := jtb (List.mem_of_getElem? (i := 759) (by decide +kernel)) (by decide +kernel)
theorem kw_760 : Cond.methodLink "PrivateViews$Filter" 33 ⟨"PrivateViews$Filter", "matches", "(IZI)Z"⟩ ∈ jTB := jtb (List.mem_of_getElem? (i := 760) (by decide +kernel)) (by decide +kernel)
theorem kw_761 : Cond.static ⟨"PrivateViews$Filter", "matches", "(IZI)Z"⟩ ∈ jTB := jtb (List.mem_of_getElem? (i := 761) (by decide +kernel)) (by decide +kernel)
theorem kw_762 : Cond.code ⟨"PrivateViews$Filter", "matches", "(IZI)Z"⟩ prog_3_method_5_code 7 (some .boolean) ∈ jTB := jtb (List.mem_of_getElem? (i := 762) (by decide +kernel)) (by decide +kernel)
theorem kw_768 : Cond.instanceMethod ⟨"PrivateViews", "view", "(I)I"⟩ ∈ jTB := jtb (List.mem_of_getElem? (i := 768) (by decide +kernel)) (by decide +kernel)
theorem kw_769 : Cond.selects "PrivateViews" ⟨"PrivateViews", "view", "(I)I"⟩ ⟨"PrivateViews", "view", "(I)I"⟩ ∈ jTB := jtb (List.mem_of_getElem? (i := 769) (by decide +kernel)) (by decide +kernel)
theorem kw_770 : Cond.code ⟨"PrivateViews", "view", "(I)I"⟩ prog_1_method_5_code 3 (some .int) ∈ jTB := jtb (List.mem_of_getElem? (i := 770) (by decide +kernel)) (by decide +kernel)
theorem kw_771 : Cond.methodLink "PrivateViews" 70 ⟨"PrivateViews$Reader", "useUp", "()V"⟩ ∈ jTB := jtb (List.mem_of_getElem? (i := 771) (by decide +kernel)) (by decide +kernel)
theorem kw_772 : Cond.methodLink "PrivateViews" 73 ⟨"PrivateViews", "viewNumbered", "(I)LPrivateViews$View;"⟩ ∈ jTB := jtb (List.mem_of_getElem? (i := 772) (by decide +kernel)) (by decide +kernel)
theorem kw_774 : Cond.instanceMethod ⟨"PrivateViews", "viewNumbered", "(I)LPrivateViews$View;"⟩ ∈ jTB := jtb (List.mem_of_getElem? (i := 774) (by decide +kernel)) (by decide +kernel)
theorem kw_775 : Cond.code ⟨"PrivateViews", "viewNumbered", "(I)LPrivateViews$View;"⟩ prog_1_method_47_code 2 (some (.object "PrivateViews$View")) ∈ jTB := jtb (List.mem_of_getElem? (i := 775) (by decide +kernel)) (by decide +kernel)
theorem kw_776 : Cond.classLink "PrivateViews" 345 "java/lang/IndexOutOfBoundsException" ∈ jTB := jtb (List.mem_of_getElem? (i := 776) (by decide +kernel)) (by decide +kernel)
theorem kw_791 : Cond.methodLink "PrivateViews" 77 ⟨"PrivateViews$Reader", "openUsedText", "()V"⟩ ∈ jTB := jtb (List.mem_of_getElem? (i := 791) (by decide +kernel)) (by decide +kernel)
theorem kw_792 : Cond.methodLink "PrivateViews" 80 ⟨"PrivateViews$Texts", "readView", "(LPrivateViews$Reader;LPrivateViews$Sheet;)Z"⟩ ∈ jTB := jtb (List.mem_of_getElem? (i := 792) (by decide +kernel)) (by decide +kernel)
theorem kw_793 : Cond.instanceMethod ⟨"PrivateViews$Texts", "readView", "(LPrivateViews$Reader;LPrivateViews$Sheet;)Z"⟩ ∈ jTB := jtb (List.mem_of_getElem? (i := 793) (by decide +kernel)) (by decide +kernel)
theorem kw_794 : Cond.selects "PrivateViews$Texts" ⟨"PrivateViews$Texts", "readView", "(LPrivateViews$Reader;LPrivateViews$Sheet;)Z"⟩ ⟨"PrivateViews$Texts", "readView", "(LPrivateViews$Reader;LPrivateViews$Sheet;)Z"⟩ ∈ jTB := jtb (List.mem_of_getElem? (i := 794) (by decide +kernel)) (by decide +kernel)
theorem kw_795 : Cond.code ⟨"PrivateViews$Texts", "readView", "(LPrivateViews$Reader;LPrivateViews$Sheet;)Z"⟩ prog_11_method_12_code 4 (some .boolean) ∈ jTB := jtb (List.mem_of_getElem? (i := 795) (by decide +kernel)) (by decide +kernel)
theorem kw_796 : Cond.methodLink "PrivateViews$Texts" 119 ⟨"PrivateViews$Lens", "forget", "()V"⟩ ∈ jTB := jtb (List.mem_of_getElem? (i := 796) (by decide +kernel)) (by decide +kernel)
theorem kw_797 : Cond.instanceMethod ⟨"PrivateViews$Lens", "forget", "()V"⟩ ∈ jTB := jtb (List.mem_of_getElem? (i := 797) (by decide +kernel)) (by decide +kernel)
theorem kw_798 : Cond.selects "PrivateViews$Lens" ⟨"PrivateViews$Lens", "forget", "()V"⟩ ⟨"PrivateViews$Lens", "forget", "()V"⟩ ∈ jTB := jtb (List.mem_of_getElem? (i := 798) (by decide +kernel)) (by decide +kernel)
theorem kw_799 : Cond.code ⟨"PrivateViews$Lens", "forget", "()V"⟩ prog_4_method_2_code 2 none ∈ jTB := jtb (List.mem_of_getElem? (i := 799) (by decide +kernel)) (by decide +kernel)
theorem kw_800 : Cond.methodLink "PrivateViews$Texts" 122 ⟨"PrivateViews$Texts", "readPart", "(LPrivateViews$Reader;)Z"⟩ ∈ jTB := jtb (List.mem_of_getElem? (i := 800) (by decide +kernel)) (by decide +kernel)
theorem kw_802 : Cond.instanceMethod ⟨"PrivateViews$Texts", "readPart", "(LPrivateViews$Reader;)Z"⟩ ∈ jTB := jtb (List.mem_of_getElem? (i := 802) (by decide +kernel)) (by decide +kernel)
theorem kw_803 : Cond.code ⟨"PrivateViews$Texts", "readPart", "(LPrivateViews$Reader;)Z"⟩ prog_11_method_13_code 3 (some .boolean) ∈ jTB := jtb (List.mem_of_getElem? (i := 803) (by decide +kernel)) (by decide +kernel)
theorem kw_804 : Cond.methodLink "PrivateViews$Texts" 125 ⟨"PrivateViews$Reader", "isDigitAt", "(I)Z"⟩ ∈ jTB := jtb (List.mem_of_getElem? (i := 804) (by decide +kernel)) (by decide +kernel)
theorem kw_805 : Cond.methodLink "PrivateViews$Texts" 128 ⟨"PrivateViews$Texts", "readFilter", "(LPrivateViews$Reader;)Z"⟩ ∈ jTB := jtb (List.mem_of_getElem? (i := 805) (by decide +kernel)) (by decide +kernel)
theorem kw_807 : Cond.instanceMethod ⟨"PrivateViews$Texts", "readFilter", "(LPrivateViews$Reader;)Z"⟩ ∈ jTB := jtb (List.mem_of_getElem? (i := 807) (by decide +kernel)) (by decide +kernel)
theorem kw_808 : Cond.code ⟨"PrivateViews$Texts", "readFilter", "(LPrivateViews$Reader;)Z"⟩ prog_11_method_17_code 7 (some .boolean) ∈ jTB := jtb (List.mem_of_getElem? (i := 808) (by decide +kernel)) (by decide +kernel)
theorem kw_809 : Cond.methodLink "PrivateViews$Texts" 154 ⟨"PrivateViews$Texts", "readColumn", "(LPrivateViews$Reader;)Z"⟩ ∈ jTB := jtb (List.mem_of_getElem? (i := 809) (by decide +kernel)) (by decide +kernel)
theorem kw_811 : Cond.instanceMethod ⟨"PrivateViews$Texts", "readColumn", "(LPrivateViews$Reader;)Z"⟩ ∈ jTB := jtb (List.mem_of_getElem? (i := 811) (by decide +kernel)) (by decide +kernel)
theorem kw_812 : Cond.code ⟨"PrivateViews$Texts", "readColumn", "(LPrivateViews$Reader;)Z"⟩ prog_11_method_14_code 2 (some .boolean) ∈ jTB := jtb (List.mem_of_getElem? (i := 812) (by decide +kernel)) (by decide +kernel)
theorem kw_813 : Cond.methodLink "PrivateViews$Texts" 144 ⟨"PrivateViews$Reader", "takeNumber", "(Z)Z"⟩ ∈ jTB := jtb (List.mem_of_getElem? (i := 813) (by decide +kernel)) (by decide +kernel)
theorem kw_814 : Cond.methodLink "PrivateViews$Texts" 169 ⟨"PrivateViews$Lens", "filterOf", "(I)LPrivateViews$Filter;"⟩ ∈ jTB := jtb (List.mem_of_getElem? (i := 814) (by decide +kernel)) (by decide +kernel)
theorem kw_815 : Cond.instanceMethod ⟨"PrivateViews$Lens", "filterOf", "(I)LPrivateViews$Filter;"⟩ ∈ jTB := jtb (List.mem_of_getElem? (i := 815) (by decide +kernel)) (by decide +kernel)
theorem kw_816 : Cond.selects "PrivateViews$Lens" ⟨"PrivateViews$Lens", "filterOf", "(I)LPrivateViews$Filter;"⟩ ⟨"PrivateViews$Lens", "filterOf", "(I)LPrivateViews$Filter;"⟩ ∈ jTB := jtb (List.mem_of_getElem? (i := 816) (by decide +kernel)) (by decide +kernel)
theorem kw_817 : Cond.code ⟨"PrivateViews$Lens", "filterOf", "(I)LPrivateViews$Filter;"⟩ prog_4_method_3_code 2 (some (.object "PrivateViews$Filter")) ∈ jTB := jtb (List.mem_of_getElem? (i := 817) (by decide +kernel)) (by decide +kernel)
theorem kw_818 : Cond.methodLink "PrivateViews$Texts" 178 ⟨"PrivateViews$Texts", "takeNots", "(LPrivateViews$Reader;)I"⟩ ∈ jTB := jtb (List.mem_of_getElem? (i := 818) (by decide +kernel)) (by decide +kernel)
theorem kw_820 : Cond.instanceMethod ⟨"PrivateViews$Texts", "takeNots", "(LPrivateViews$Reader;)I"⟩ ∈ jTB := jtb (List.mem_of_getElem? (i := 820) (by decide +kernel)) (by decide +kernel)
theorem kw_821 : Cond.code ⟨"PrivateViews$Texts", "takeNots", "(LPrivateViews$Reader;)I"⟩ prog_11_method_18_code 3 (some .int) ∈ jTB := jtb (List.mem_of_getElem? (i := 821) (by decide +kernel)) (by decide +kernel)
theorem kw_824 : Cond.methodLink "PrivateViews$Texts" 184 ⟨"PrivateViews$Filter", "takeTest", "(IIII)V"⟩ ∈ jTB := jtb (List.mem_of_getElem? (i := 824) (by decide +kernel)) (by decide +kernel)
theorem kw_825 : Cond.instanceMethod ⟨"PrivateViews$Filter", "takeTest", "(IIII)V"⟩ ∈ jTB := jtb (List.mem_of_getElem? (i := 825) (by decide +kernel)) (by decide +kernel)
theorem kw_826 : Cond.selects "PrivateViews$Filter" ⟨"PrivateViews$Filter", "takeTest", "(IIII)V"⟩ ⟨"PrivateViews$Filter", "takeTest", "(IIII)V"⟩ ∈ jTB := jtb (List.mem_of_getElem? (i := 826) (by decide +kernel)) (by decide +kernel)
theorem kw_827 : Cond.code ⟨"PrivateViews$Filter", "takeTest", "(IIII)V"⟩ prog_3_method_2_code 5 none ∈ jTB := jtb (List.mem_of_getElem? (i := 827) (by decide +kernel)) (by decide +kernel)
theorem kw_828 : Cond.methodLink "PrivateViews$Texts" 188 ⟨"PrivateViews$Texts", "readRange", "(LPrivateViews$Reader;LPrivateViews$Filter;I)Z"⟩ ∈ jTB := jtb (List.mem_of_getElem? (i := 828) (by decide +kernel)) (by decide +kernel)
theorem kw_830 : Cond.instanceMethod ⟨"PrivateViews$Texts", "readRange", "(LPrivateViews$Reader;LPrivateViews$Filter;I)Z"⟩ ∈ jTB := jtb (List.mem_of_getElem? (i := 830) (by decide +kernel)) (by decide +kernel)
theorem kw_831 : Cond.code ⟨"PrivateViews$Texts", "readRange", "(LPrivateViews$Reader;LPrivateViews$Filter;I)Z"⟩ prog_11_method_19_code 5 (some .boolean) ∈ jTB := jtb (List.mem_of_getElem? (i := 831) (by decide +kernel)) (by decide +kernel)
theorem kw_833 : Cond.methodLink "PrivateViews$Texts" 192 ⟨"PrivateViews$Texts", "readPattern", "(LPrivateViews$Reader;LPrivateViews$Filter;I)Z"⟩ ∈ jTB := jtb (List.mem_of_getElem? (i := 833) (by decide +kernel)) (by decide +kernel)
theorem kw_835 : Cond.instanceMethod ⟨"PrivateViews$Texts", "readPattern", "(LPrivateViews$Reader;LPrivateViews$Filter;I)Z"⟩ ∈ jTB := jtb (List.mem_of_getElem? (i := 835) (by decide +kernel)) (by decide +kernel)
theorem kw_836 : Cond.code ⟨"PrivateViews$Texts", "readPattern", "(LPrivateViews$Reader;LPrivateViews$Filter;I)Z"⟩ prog_11_method_20_code 8 (some .boolean) ∈ jTB := jtb (List.mem_of_getElem? (i := 836) (by decide +kernel)) (by decide +kernel)
theorem kw_838 : Cond.methodLink "PrivateViews$Texts" 201 ⟨"PrivateViews$Reader", "isWordHere", "(Ljava/lang/String;)Z"⟩ ∈ jTB := jtb (List.mem_of_getElem? (i := 838) (by decide +kernel)) (by decide +kernel)
theorem kw_842 : Cond.methodLink "PrivateViews$Texts" 204 ⟨"PrivateViews$Texts", "isPatternSign", "(LPrivateViews$Reader;I)Z"⟩ ∈ jTB := jtb (List.mem_of_getElem? (i := 842) (by decide +kernel)) (by decide +kernel)
theorem kw_844 : Cond.instanceMethod ⟨"PrivateViews$Texts", "isPatternSign", "(LPrivateViews$Reader;I)Z"⟩ ∈ jTB := jtb (List.mem_of_getElem? (i := 844) (by decide +kernel)) (by decide +kernel)
theorem kw_845 : Cond.code ⟨"PrivateViews$Texts", "isPatternSign", "(LPrivateViews$Reader;I)Z"⟩ prog_11_method_21_code 3 (some .boolean) ∈ jTB := jtb (List.mem_of_getElem? (i := 845) (by decide +kernel)) (by decide +kernel)
theorem kw_846 : Cond.methodLink "PrivateViews$Texts" 214 ⟨"PrivateViews$Reader", "isLetterAt", "(I)Z"⟩ ∈ jTB := jtb (List.mem_of_getElem? (i := 846) (by decide +kernel)) (by decide +kernel)
theorem kw_847 : Cond.methodLink "PrivateViews$Texts" 207 ⟨"PrivateViews$Reader", "byteAt", "(I)I"⟩ ∈ jTB := jtb (List.mem_of_getElem? (i := 847) (by decide +kernel)) (by decide +kernel)
theorem kw_848 : Cond.methodLink "PrivateViews$Texts" 210 ⟨"PrivateViews$Filter", "withSign", "(III)I"⟩ ∈ jTB := jtb (List.mem_of_getElem? (i := 848) (by decide +kernel)) (by decide +kernel)
theorem kw_849 : Cond.static ⟨"PrivateViews$Filter", "withSign", "(III)I"⟩ ∈ jTB := jtb (List.mem_of_getElem? (i := 849) (by decide +kernel)) (by decide +kernel)
theorem kw_850 : Cond.code ⟨"PrivateViews$Filter", "withSign", "(III)I"⟩ prog_3_method_6_code 3 (some .int) ∈ jTB := jtb (List.mem_of_getElem? (i := 850) (by decide +kernel)) (by decide +kernel)
theorem kw_851 : Cond.methodLink "PrivateViews$Texts" 133 ⟨"PrivateViews$Texts", "readSort", "(LPrivateViews$Reader;II)Z"⟩ ∈ jTB := jtb (List.mem_of_getElem? (i := 851) (by decide +kernel)) (by decide +kernel)
theorem kw_853 : Cond.instanceMethod ⟨"PrivateViews$Texts", "readSort", "(LPrivateViews$Reader;II)Z"⟩ ∈ jTB := jtb (List.mem_of_getElem? (i := 853) (by decide +kernel)) (by decide +kernel)
theorem kw_854 : Cond.code ⟨"PrivateViews$Texts", "readSort", "(LPrivateViews$Reader;II)Z"⟩ prog_11_method_15_code 4 (some .boolean) ∈ jTB := jtb (List.mem_of_getElem? (i := 854) (by decide +kernel)) (by decide +kernel)
theorem kw_855 : Cond.methodLink "PrivateViews$Texts" 157 ⟨"PrivateViews$Lens", "sortsBy", "(I)Z"⟩ ∈ jTB := jtb (List.mem_of_getElem? (i := 855) (by decide +kernel)) (by decide +kernel)
theorem kw_856 : Cond.instanceMethod ⟨"PrivateViews$Lens", "sortsBy", "(I)Z"⟩ ∈ jTB := jtb (List.mem_of_getElem? (i := 856) (by decide +kernel)) (by decide +kernel)
theorem kw_857 : Cond.selects "PrivateViews$Lens" ⟨"PrivateViews$Lens", "sortsBy", "(I)Z"⟩ ⟨"PrivateViews$Lens", "sortsBy", "(I)Z"⟩ ∈ jTB := jtb (List.mem_of_getElem? (i := 857) (by decide +kernel)) (by decide +kernel)
theorem kw_858 : Cond.code ⟨"PrivateViews$Lens", "sortsBy", "(I)Z"⟩ prog_4_method_6_code 3 (some .boolean) ∈ jTB := jtb (List.mem_of_getElem? (i := 858) (by decide +kernel)) (by decide +kernel)
theorem kw_859 : Cond.methodLink "PrivateViews$Lens" 32 ⟨"PrivateViews$Lens", "sortAt", "(I)I"⟩ ∈ jTB := jtb (List.mem_of_getElem? (i := 859) (by decide +kernel)) (by decide +kernel)
theorem kw_860 : Cond.instanceMethod ⟨"PrivateViews$Lens", "sortAt", "(I)I"⟩ ∈ jTB := jtb (List.mem_of_getElem? (i := 860) (by decide +kernel)) (by decide +kernel)
theorem kw_861 : Cond.selects "PrivateViews$Lens" ⟨"PrivateViews$Lens", "sortAt", "(I)I"⟩ ⟨"PrivateViews$Lens", "sortAt", "(I)I"⟩ ∈ jTB := jtb (List.mem_of_getElem? (i := 861) (by decide +kernel)) (by decide +kernel)
theorem kw_862 : Cond.code ⟨"PrivateViews$Lens", "sortAt", "(I)I"⟩ prog_4_method_5_code 2 (some .int) ∈ jTB := jtb (List.mem_of_getElem? (i := 862) (by decide +kernel)) (by decide +kernel)
theorem kw_863 : Cond.methodLink "PrivateViews$Texts" 160 ⟨"PrivateViews$Lens", "takeSort", "(I)V"⟩ ∈ jTB := jtb (List.mem_of_getElem? (i := 863) (by decide +kernel)) (by decide +kernel)
theorem kw_864 : Cond.instanceMethod ⟨"PrivateViews$Lens", "takeSort", "(I)V"⟩ ∈ jTB := jtb (List.mem_of_getElem? (i := 864) (by decide +kernel)) (by decide +kernel)
theorem kw_865 : Cond.selects "PrivateViews$Lens" ⟨"PrivateViews$Lens", "takeSort", "(I)V"⟩ ⟨"PrivateViews$Lens", "takeSort", "(I)V"⟩ ∈ jTB := jtb (List.mem_of_getElem? (i := 865) (by decide +kernel)) (by decide +kernel)
theorem kw_866 : Cond.code ⟨"PrivateViews$Lens", "takeSort", "(I)V"⟩ prog_4_method_7_code 2 none ∈ jTB := jtb (List.mem_of_getElem? (i := 866) (by decide +kernel)) (by decide +kernel)
theorem kw_867 : Cond.methodLink "PrivateViews$Texts" 141 ⟨"PrivateViews$Texts", "readHide", "(LPrivateViews$Reader;)Z"⟩ ∈ jTB := jtb (List.mem_of_getElem? (i := 867) (by decide +kernel)) (by decide +kernel)
theorem kw_869 : Cond.instanceMethod ⟨"PrivateViews$Texts", "readHide", "(LPrivateViews$Reader;)Z"⟩ ∈ jTB := jtb (List.mem_of_getElem? (i := 869) (by decide +kernel)) (by decide +kernel)
theorem kw_870 : Cond.code ⟨"PrivateViews$Texts", "readHide", "(LPrivateViews$Reader;)Z"⟩ prog_11_method_16_code 2 (some .boolean) ∈ jTB := jtb (List.mem_of_getElem? (i := 870) (by decide +kernel)) (by decide +kernel)
theorem kw_871 : Cond.methodLink "PrivateViews$Texts" 163 ⟨"PrivateViews$Lens", "hides", "(I)Z"⟩ ∈ jTB := jtb (List.mem_of_getElem? (i := 871) (by decide +kernel)) (by decide +kernel)
theorem kw_872 : Cond.instanceMethod ⟨"PrivateViews$Lens", "hides", "(I)Z"⟩ ∈ jTB := jtb (List.mem_of_getElem? (i := 872) (by decide +kernel)) (by decide +kernel)
theorem kw_873 : Cond.selects "PrivateViews$Lens" ⟨"PrivateViews$Lens", "hides", "(I)Z"⟩ ⟨"PrivateViews$Lens", "hides", "(I)Z"⟩ ∈ jTB := jtb (List.mem_of_getElem? (i := 873) (by decide +kernel)) (by decide +kernel)
theorem kw_874 : Cond.code ⟨"PrivateViews$Lens", "hides", "(I)Z"⟩ prog_4_method_4_code 2 (some .boolean) ∈ jTB := jtb (List.mem_of_getElem? (i := 874) (by decide +kernel)) (by decide +kernel)
theorem kw_875 : Cond.methodLink "PrivateViews" 90 ⟨"PrivateViews$Lens", "copyFrom", "(LPrivateViews$Lens;)V"⟩ ∈ jTB := jtb (List.mem_of_getElem? (i := 875) (by decide +kernel)) (by decide +kernel)
theorem kw_876 : Cond.methodLink "PrivateViews" 100 ⟨"PrivateViews$State", "freshInto", "(LPrivateViews$Lens;LPrivateViews$RowList;)V"⟩ ∈ jTB := jtb (List.mem_of_getElem? (i := 876) (by decide +kernel)) (by decide +kernel)
theorem kw_877 : Cond.instanceMethod ⟨"PrivateViews$State", "freshInto", "(LPrivateViews$Lens;LPrivateViews$RowList;)V"⟩ ∈ jTB := jtb (List.mem_of_getElem? (i := 877) (by decide +kernel)) (by decide +kernel)
theorem kw_878 : Cond.selects "PrivateViews$State" ⟨"PrivateViews$State", "freshInto", "(LPrivateViews$Lens;LPrivateViews$RowList;)V"⟩ ⟨"PrivateViews$State", "freshInto", "(LPrivateViews$Lens;LPrivateViews$RowList;)V"⟩ ∈ jTB := jtb (List.mem_of_getElem? (i := 878) (by decide +kernel)) (by decide +kernel)
theorem kw_879 : Cond.code ⟨"PrivateViews$State", "freshInto", "(LPrivateViews$Lens;LPrivateViews$RowList;)V"⟩ prog_10_method_5_code 6 none ∈ jTB := jtb (List.mem_of_getElem? (i := 879) (by decide +kernel)) (by decide +kernel)
theorem kw_880 : Cond.methodLink "PrivateViews$State" 109 ⟨"PrivateViews$RowList", "takeAllOut", "()V"⟩ ∈ jTB := jtb (List.mem_of_getElem? (i := 880) (by decide +kernel)) (by decide +kernel)
theorem kw_881 : Cond.instanceMethod ⟨"PrivateViews$RowList", "takeAllOut", "()V"⟩ ∈ jTB := jtb (List.mem_of_getElem? (i := 881) (by decide +kernel)) (by decide +kernel)
theorem kw_882 : Cond.selects "PrivateViews$RowList" ⟨"PrivateViews$RowList", "takeAllOut", "()V"⟩ ⟨"PrivateViews$RowList", "takeAllOut", "()V"⟩ ∈ jTB := jtb (List.mem_of_getElem? (i := 882) (by decide +kernel)) (by decide +kernel)
theorem kw_883 : Cond.code ⟨"PrivateViews$RowList", "takeAllOut", "()V"⟩ prog_8_method_9_code 1 none ∈ jTB := jtb (List.mem_of_getElem? (i := 883) (by decide +kernel)) (by decide +kernel)
theorem kw_884 : Cond.methodLink "PrivateViews$State" 112 ⟨"PrivateViews$RowList", "length", "()I"⟩ ∈ jTB := jtb (List.mem_of_getElem? (i := 884) (by decide +kernel)) (by decide +kernel)
theorem kw_885 : Cond.methodLink "PrivateViews$State" 115 ⟨"PrivateViews$RowList", "at", "(I)I"⟩ ∈ jTB := jtb (List.mem_of_getElem? (i := 885) (by decide +kernel)) (by decide +kernel)
theorem kw_886 : Cond.methodLink "PrivateViews$State" 118 ⟨"PrivateViews$Lens", "isAhead", "(LPrivateViews$Sheet;II)Z"⟩ ∈ jTB := jtb (List.mem_of_getElem? (i := 886) (by decide +kernel)) (by decide +kernel)
theorem kw_887 : Cond.instanceMethod ⟨"PrivateViews$Lens", "isAhead", "(LPrivateViews$Sheet;II)Z"⟩ ∈ jTB := jtb (List.mem_of_getElem? (i := 887) (by decide +kernel)) (by decide +kernel)
theorem kw_888 : Cond.selects "PrivateViews$Lens" ⟨"PrivateViews$Lens", "isAhead", "(LPrivateViews$Sheet;II)Z"⟩ ⟨"PrivateViews$Lens", "isAhead", "(LPrivateViews$Sheet;II)Z"⟩ ∈ jTB := jtb (List.mem_of_getElem? (i := 888) (by decide +kernel)) (by decide +kernel)
theorem kw_889 : Cond.code ⟨"PrivateViews$Lens", "isAhead", "(LPrivateViews$Sheet;II)Z"⟩ prog_4_method_11_code 6 (some .boolean) ∈ jTB := jtb (List.mem_of_getElem? (i := 889) (by decide +kernel)) (by decide +kernel)
theorem kw_890 : Cond.methodLink "PrivateViews$Lens" 50 ⟨"PrivateViews$Sheet", "compareBy", "(III)I"⟩ ∈ jTB := jtb (List.mem_of_getElem? (i := 890) (by decide +kernel)) (by decide +kernel)
theorem kw_891 : Cond.instanceMethod ⟨"PrivateViews$Sheet", "compareBy", "(III)I"⟩ ∈ jTB := jtb (List.mem_of_getElem? (i := 891) (by decide +kernel)) (by decide +kernel)
theorem kw_892 : Cond.selects "PrivateViews$Sheet" ⟨"PrivateViews$Sheet", "compareBy", "(III)I"⟩ ⟨"PrivateViews$Sheet", "compareBy", "(III)I"⟩ ∈ jTB := jtb (List.mem_of_getElem? (i := 892) (by decide +kernel)) (by decide +kernel)
theorem kw_893 : Cond.code ⟨"PrivateViews$Sheet", "compareBy", "(III)I"⟩ prog_9_method_14_code 7 (some .int) ∈ jTB := jtb (List.mem_of_getElem? (i := 893) (by decide +kernel)) (by decide +kernel)
theorem kw_894 : Cond.methodLink "PrivateViews$Sheet" 76 ⟨"PrivateViews$Sheet", "valueAt", "(II)I"⟩ ∈ jTB := jtb (List.mem_of_getElem? (i := 894) (by decide +kernel)) (by decide +kernel)
theorem kw_895 : Cond.methodLink "PrivateViews$State" 122 ⟨"PrivateViews$RowList", "putAt", "(II)V"⟩ ∈ jTB := jtb (List.mem_of_getElem? (i := 895) (by decide +kernel)) (by decide +kernel)
theorem kw_896 : Cond.methodLink "PrivateViews" 104 ⟨"PrivateViews$RowList", "length", "()I"⟩ ∈ jTB := jtb (List.mem_of_getElem? (i := 896) (by decide +kernel)) (by decide +kernel)
theorem kw_901 : Cond.instanceMethod ⟨"PrivateViews", "kind", "(I)I"⟩ ∈ jTB := jtb (List.mem_of_getElem? (i := 901) (by decide +kernel)) (by decide +kernel)
theorem kw_902 : Cond.selects "PrivateViews" ⟨"PrivateViews", "kind", "(I)I"⟩ ⟨"PrivateViews", "kind", "(I)I"⟩ ∈ jTB := jtb (List.mem_of_getElem? (i := 902) (by decide +kernel)) (by decide +kernel)
theorem kw_903 : Cond.code ⟨"PrivateViews", "kind", "(I)I"⟩ prog_1_method_7_code 2 (some .int) ∈ jTB := jtb (List.mem_of_getElem? (i := 903) (by decide +kernel)) (by decide +kernel)
theorem kw_904 : Cond.methodLink "PrivateViews" 113 ⟨"PrivateViews", "needColumn", "(I)V"⟩ ∈ jTB := jtb (List.mem_of_getElem? (i := 904) (by decide +kernel)) (by decide +kernel)
theorem kw_906 : Cond.instanceMethod ⟨"PrivateViews", "needColumn", "(I)V"⟩ ∈ jTB := jtb (List.mem_of_getElem? (i := 906) (by decide +kernel)) (by decide +kernel)
theorem kw_907 : Cond.code ⟨"PrivateViews", "needColumn", "(I)V"⟩ prog_1_method_50_code 2 none ∈ jTB := jtb (List.mem_of_getElem? (i := 907) (by decide +kernel)) (by decide +kernel)
theorem kw_908 : Cond.methodLink "PrivateViews" 355 ⟨"PrivateViews$Sheet", "isColumn", "(I)Z"⟩ ∈ jTB := jtb (List.mem_of_getElem? (i := 908) (by decide +kernel)) (by decide +kernel)
theorem kw_909 : Cond.methodLink "PrivateViews" 116 ⟨"PrivateViews$Sheet", "kindOf", "(I)I"⟩ ∈ jTB := jtb (List.mem_of_getElem? (i := 909) (by decide +kernel)) (by decide +kernel)
theorem kw_910 : Cond.instanceMethod ⟨"PrivateViews$Sheet", "kindOf", "(I)I"⟩ ∈ jTB := jtb (List.mem_of_getElem? (i := 910) (by decide +kernel)) (by decide +kernel)
theorem kw_911 : Cond.selects "PrivateViews$Sheet" ⟨"PrivateViews$Sheet", "kindOf", "(I)I"⟩ ⟨"PrivateViews$Sheet", "kindOf", "(I)I"⟩ ∈ jTB := jtb (List.mem_of_getElem? (i := 911) (by decide +kernel)) (by decide +kernel)
theorem kw_912 : Cond.code ⟨"PrivateViews$Sheet", "kindOf", "(I)I"⟩ prog_9_method_5_code 2 (some .int) ∈ jTB := jtb (List.mem_of_getElem? (i := 912) (by decide +kernel)) (by decide +kernel)
theorem kw_917 : Cond.instanceMethod ⟨"PrivateViews", "cell", "(II)I"⟩ ∈ jTB := jtb (List.mem_of_getElem? (i := 917) (by decide +kernel)) (by decide +kernel)
theorem kw_918 : Cond.selects "PrivateViews" ⟨"PrivateViews", "cell", "(II)I"⟩ ⟨"PrivateViews", "cell", "(II)I"⟩ ∈ jTB := jtb (List.mem_of_getElem? (i := 918) (by decide +kernel)) (by decide +kernel)
theorem kw_919 : Cond.code ⟨"PrivateViews", "cell", "(II)I"⟩ prog_1_method_8_code 4 (some .int) ∈ jTB := jtb (List.mem_of_getElem? (i := 919) (by decide +kernel)) (by decide +kernel)
theorem kw_920 : Cond.methodLink "PrivateViews" 120 ⟨"PrivateViews", "seatOfKey", "(I)I"⟩ ∈ jTB := jtb (List.mem_of_getElem? (i := 920) (by decide +kernel)) (by decide +kernel)
theorem kw_922 : Cond.instanceMethod ⟨"PrivateViews", "seatOfKey", "(I)I"⟩ ∈ jTB := jtb (List.mem_of_getElem? (i := 922) (by decide +kernel)) (by decide +kernel)
theorem kw_923 : Cond.code ⟨"PrivateViews", "seatOfKey", "(I)I"⟩ prog_1_method_49_code 3 (some .int) ∈ jTB := jtb (List.mem_of_getElem? (i := 923) (by decide +kernel)) (by decide +kernel)
theorem kw_924 : Cond.methodLink "PrivateViews" 352 ⟨"PrivateViews$Sheet", "seatOf", "(I)I"⟩ ∈ jTB := jtb (List.mem_of_getElem? (i := 924) (by decide +kernel)) (by decide +kernel)
theorem kw_925 : Cond.instanceMethod ⟨"PrivateViews$Sheet", "seatOf", "(I)I"⟩ ∈ jTB := jtb (List.mem_of_getElem? (i := 925) (by decide +kernel)) (by decide +kernel)
theorem kw_926 : Cond.selects "PrivateViews$Sheet" ⟨"PrivateViews$Sheet", "seatOf", "(I)I"⟩ ⟨"PrivateViews$Sheet", "seatOf", "(I)I"⟩ ∈ jTB := jtb (List.mem_of_getElem? (i := 926) (by decide +kernel)) (by decide +kernel)
theorem kw_927 : Cond.code ⟨"PrivateViews$Sheet", "seatOf", "(I)I"⟩ prog_9_method_7_code 4 (some .int) ∈ jTB := jtb (List.mem_of_getElem? (i := 927) (by decide +kernel)) (by decide +kernel)
theorem kw_928 : Cond.methodLink "PrivateViews$Sheet" 46 ⟨"PrivateViews$RowList", "at", "(I)I"⟩ ∈ jTB := jtb (List.mem_of_getElem? (i := 928) (by decide +kernel)) (by decide +kernel)
theorem kw_929 : Cond.methodLink "PrivateViews$Sheet" 50 ⟨"PrivateViews$Sheet", "keyAt", "(I)I"⟩ ∈ jTB := jtb (List.mem_of_getElem? (i := 929) (by decide +kernel)) (by decide +kernel)
theorem kw_930 : Cond.methodLink "PrivateViews" 123 ⟨"PrivateViews$Sheet", "valueAt", "(II)I"⟩ ∈ jTB := jtb (List.mem_of_getElem? (i := 930) (by decide +kernel)) (by decide +kernel)
theorem kw_935 : Cond.instanceMethod ⟨"PrivateViews", "row", "(II)I"⟩ ∈ jTB := jtb (List.mem_of_getElem? (i := 935) (by decide +kernel)) (by decide +kernel)
theorem kw_936 : Cond.selects "PrivateViews" ⟨"PrivateViews", "row", "(II)I"⟩ ⟨"PrivateViews", "row", "(II)I"⟩ ∈ jTB := jtb (List.mem_of_getElem? (i := 936) (by decide +kernel)) (by decide +kernel)
theorem kw_937 : Cond.code ⟨"PrivateViews", "row", "(II)I"⟩ prog_1_method_10_code 3 (some .int) ∈ jTB := jtb (List.mem_of_getElem? (i := 937) (by decide +kernel)) (by decide +kernel)
theorem kw_942 : Cond.instanceMethod ⟨"PrivateViews", "place", "(II)I"⟩ ∈ jTB := jtb (List.mem_of_getElem? (i := 942) (by decide +kernel)) (by decide +kernel)
theorem kw_943 : Cond.selects "PrivateViews" ⟨"PrivateViews", "place", "(II)I"⟩ ⟨"PrivateViews", "place", "(II)I"⟩ ∈ jTB := jtb (List.mem_of_getElem? (i := 943) (by decide +kernel)) (by decide +kernel)
theorem kw_944 : Cond.code ⟨"PrivateViews", "place", "(II)I"⟩ prog_1_method_11_code 4 (some .int) ∈ jTB := jtb (List.mem_of_getElem? (i := 944) (by decide +kernel)) (by decide +kernel)
theorem kw_945 : Cond.methodLink "PrivateViews" 136 ⟨"PrivateViews$RowList", "placeOf", "(I)I"⟩ ∈ jTB := jtb (List.mem_of_getElem? (i := 945) (by decide +kernel)) (by decide +kernel)
theorem kw_951 : Cond.instanceMethod ⟨"PrivateViews", "about", "(II)I"⟩ ∈ jTB := jtb (List.mem_of_getElem? (i := 951) (by decide +kernel)) (by decide +kernel)
theorem kw_952 : Cond.selects "PrivateViews" ⟨"PrivateViews", "about", "(II)I"⟩ ⟨"PrivateViews", "about", "(II)I"⟩ ∈ jTB := jtb (List.mem_of_getElem? (i := 952) (by decide +kernel)) (by decide +kernel)
theorem kw_953 : Cond.code ⟨"PrivateViews", "about", "(II)I"⟩ prog_1_method_12_code 4 (some .int) ∈ jTB := jtb (List.mem_of_getElem? (i := 953) (by decide +kernel)) (by decide +kernel)
theorem kw_954 : Cond.methodLink "PrivateViews" 145 ⟨"PrivateViews$Lens", "filteredBits", "()I"⟩ ∈ jTB := jtb (List.mem_of_getElem? (i := 954) (by decide +kernel)) (by decide +kernel)
theorem kw_955 : Cond.instanceMethod ⟨"PrivateViews$Lens", "filteredBits", "()I"⟩ ∈ jTB := jtb (List.mem_of_getElem? (i := 955) (by decide +kernel)) (by decide +kernel)
theorem kw_956 : Cond.selects "PrivateViews$Lens" ⟨"PrivateViews$Lens", "filteredBits", "()I"⟩ ⟨"PrivateViews$Lens", "filteredBits", "()I"⟩ ∈ jTB := jtb (List.mem_of_getElem? (i := 956) (by decide +kernel)) (by decide +kernel)
theorem kw_957 : Cond.code ⟨"PrivateViews$Lens", "filteredBits", "()I"⟩ prog_4_method_8_code 3 (some .int) ∈ jTB := jtb (List.mem_of_getElem? (i := 957) (by decide +kernel)) (by decide +kernel)
theorem kw_958 : Cond.classLink "PrivateViews" 151 "java/util/NoSuchElementException" ∈ jTB := jtb (List.mem_of_getElem? (i := 958) (by decide +kernel)) (by decide +kernel)
theorem kw_977 : Cond.instanceMethod ⟨"PrivateViews", "sorts", "(II)I"⟩ ∈ jTB := jtb (List.mem_of_getElem? (i := 977) (by decide +kernel)) (by decide +kernel)
theorem kw_978 : Cond.selects "PrivateViews" ⟨"PrivateViews", "sorts", "(II)I"⟩ ⟨"PrivateViews", "sorts", "(II)I"⟩ ∈ jTB := jtb (List.mem_of_getElem? (i := 978) (by decide +kernel)) (by decide +kernel)
theorem kw_979 : Cond.code ⟨"PrivateViews", "sorts", "(II)I"⟩ prog_1_method_13_code 3 (some .int) ∈ jTB := jtb (List.mem_of_getElem? (i := 979) (by decide +kernel)) (by decide +kernel)
theorem kw_980 : Cond.methodLink "PrivateViews" 154 ⟨"PrivateViews$Lens", "sortAt", "(I)I"⟩ ∈ jTB := jtb (List.mem_of_getElem? (i := 980) (by decide +kernel)) (by decide +kernel)
theorem kw_986 : Cond.instanceMethod ⟨"PrivateViews", "set", "(IIII)I"⟩ ∈ jTB := jtb (List.mem_of_getElem? (i := 986) (by decide +kernel)) (by decide +kernel)
theorem kw_987 : Cond.selects "PrivateViews" ⟨"PrivateViews", "set", "(IIII)I"⟩ ⟨"PrivateViews", "set", "(IIII)I"⟩ ∈ jTB := jtb (List.mem_of_getElem? (i := 987) (by decide +kernel)) (by decide +kernel)
theorem kw_988 : Cond.code ⟨"PrivateViews", "set", "(IIII)I"⟩ prog_1_method_14_code 7 (some .int) ∈ jTB := jtb (List.mem_of_getElem? (i := 988) (by decide +kernel)) (by decide +kernel)
theorem kw_989 : Cond.methodLink "PrivateViews" 157 ⟨"PrivateViews", "seatAtPlace", "(LPrivateViews$View;I)I"⟩ ∈ jTB := jtb (List.mem_of_getElem? (i := 989) (by decide +kernel)) (by decide +kernel)
theorem kw_991 : Cond.instanceMethod ⟨"PrivateViews", "seatAtPlace", "(LPrivateViews$View;I)I"⟩ ∈ jTB := jtb (List.mem_of_getElem? (i := 991) (by decide +kernel)) (by decide +kernel)
theorem kw_992 : Cond.code ⟨"PrivateViews", "seatAtPlace", "(LPrivateViews$View;I)I"⟩ prog_1_method_48_code 4 (some .int) ∈ jTB := jtb (List.mem_of_getElem? (i := 992) (by decide +kernel)) (by decide +kernel)
theorem kw_993 : Cond.methodLink "PrivateViews" 161 ⟨"PrivateViews", "needShown", "(LPrivateViews$View;I)V"⟩ ∈ jTB := jtb (List.mem_of_getElem? (i := 993) (by decide +kernel)) (by decide +kernel)
theorem kw_995 : Cond.instanceMethod ⟨"PrivateViews", "needShown", "(LPrivateViews$View;I)V"⟩ ∈ jTB := jtb (List.mem_of_getElem? (i := 995) (by decide +kernel)) (by decide +kernel)
theorem kw_996 : Cond.code ⟨"PrivateViews", "needShown", "(LPrivateViews$View;I)V"⟩ prog_1_method_51_code 3 none ∈ jTB := jtb (List.mem_of_getElem? (i := 996) (by decide +kernel)) (by decide +kernel)
theorem kw_997 : Cond.methodLink "PrivateViews" 359 ⟨"PrivateViews$Lens", "hides", "(I)Z"⟩ ∈ jTB := jtb (List.mem_of_getElem? (i := 997) (by decide +kernel)) (by decide +kernel)
theorem kw_998 : Cond.classLink "PrivateViews" 243 "java/lang/IllegalStateException" ∈ jTB := jtb (List.mem_of_getElem? (i := 998) (by decide +kernel)) (by decide +kernel)
theorem kw_1013 : Cond.methodLink "PrivateViews" 165 ⟨"PrivateViews$Sheet", "mayHold", "(II)Z"⟩ ∈ jTB := jtb (List.mem_of_getElem? (i := 1013) (by decide +kernel)) (by decide +kernel)
theorem kw_1014 : Cond.instanceMethod ⟨"PrivateViews$Sheet", "mayHold", "(II)Z"⟩ ∈ jTB := jtb (List.mem_of_getElem? (i := 1014) (by decide +kernel)) (by decide +kernel)
theorem kw_1015 : Cond.selects "PrivateViews$Sheet" ⟨"PrivateViews$Sheet", "mayHold", "(II)Z"⟩ ⟨"PrivateViews$Sheet", "mayHold", "(II)Z"⟩ ∈ jTB := jtb (List.mem_of_getElem? (i := 1015) (by decide +kernel)) (by decide +kernel)
theorem kw_1016 : Cond.code ⟨"PrivateViews$Sheet", "mayHold", "(II)Z"⟩ prog_9_method_11_code 3 (some .boolean) ∈ jTB := jtb (List.mem_of_getElem? (i := 1016) (by decide +kernel)) (by decide +kernel)
theorem kw_1017 : Cond.methodLink "PrivateViews$Sheet" 54 ⟨"PrivateViews$Sheet", "kindOf", "(I)I"⟩ ∈ jTB := jtb (List.mem_of_getElem? (i := 1017) (by decide +kernel)) (by decide +kernel)
theorem kw_1018 : Cond.methodLink "PrivateViews$Sheet" 57 ⟨"PrivateViews$Filter", "isWord", "(I)Z"⟩ ∈ jTB := jtb (List.mem_of_getElem? (i := 1018) (by decide +kernel)) (by decide +kernel)
theorem kw_1019 : Cond.static ⟨"PrivateViews$Filter", "isWord", "(I)Z"⟩ ∈ jTB := jtb (List.mem_of_getElem? (i := 1019) (by decide +kernel)) (by decide +kernel)
theorem kw_1020 : Cond.code ⟨"PrivateViews$Filter", "isWord", "(I)Z"⟩ prog_3_method_7_code 4 (some .boolean) ∈ jTB := jtb (List.mem_of_getElem? (i := 1020) (by decide +kernel)) (by decide +kernel)
theorem kw_1021 : Cond.constant "PrivateViews$Filter" 37 531441 ∈ jTB := jtb (List.mem_of_getElem? (i := 1021) (by decide +kernel)) (by decide +kernel)
theorem kw_1022 : Cond.methodLink "PrivateViews" 169 ⟨"PrivateViews", "changeOne", "(IIII)I"⟩ ∈ jTB := jtb (List.mem_of_getElem? (i := 1022) (by decide +kernel)) (by decide +kernel)
theorem kw_1024 : Cond.instanceMethod ⟨"PrivateViews", "changeOne", "(IIII)I"⟩ ∈ jTB := jtb (List.mem_of_getElem? (i := 1024) (by decide +kernel)) (by decide +kernel)
theorem kw_1025 : Cond.code ⟨"PrivateViews", "changeOne", "(IIII)I"⟩ prog_1_method_54_code 5 (some .int) ∈ jTB := jtb (List.mem_of_getElem? (i := 1025) (by decide +kernel)) (by decide +kernel)
theorem kw_1026 : Cond.methodLink "PrivateViews" 174 ⟨"PrivateViews$State", "beginEdit", "()V"⟩ ∈ jTB := jtb (List.mem_of_getElem? (i := 1026) (by decide +kernel)) (by decide +kernel)
theorem kw_1027 : Cond.instanceMethod ⟨"PrivateViews$State", "beginEdit", "()V"⟩ ∈ jTB := jtb (List.mem_of_getElem? (i := 1027) (by decide +kernel)) (by decide +kernel)
theorem kw_1028 : Cond.selects "PrivateViews$State" ⟨"PrivateViews$State", "beginEdit", "()V"⟩ ⟨"PrivateViews$State", "beginEdit", "()V"⟩ ∈ jTB := jtb (List.mem_of_getElem? (i := 1028) (by decide +kernel)) (by decide +kernel)
theorem kw_1029 : Cond.code ⟨"PrivateViews$State", "beginEdit", "()V"⟩ prog_10_method_6_code 1 none ∈ jTB := jtb (List.mem_of_getElem? (i := 1029) (by decide +kernel)) (by decide +kernel)
theorem kw_1030 : Cond.methodLink "PrivateViews" 177 ⟨"PrivateViews$State", "changeCell", "(IIII)V"⟩ ∈ jTB := jtb (List.mem_of_getElem? (i := 1030) (by decide +kernel)) (by decide +kernel)
theorem kw_1031 : Cond.instanceMethod ⟨"PrivateViews$State", "changeCell", "(IIII)V"⟩ ∈ jTB := jtb (List.mem_of_getElem? (i := 1031) (by decide +kernel)) (by decide +kernel)
theorem kw_1032 : Cond.selects "PrivateViews$State" ⟨"PrivateViews$State", "changeCell", "(IIII)V"⟩ ⟨"PrivateViews$State", "changeCell", "(IIII)V"⟩ ∈ jTB := jtb (List.mem_of_getElem? (i := 1032) (by decide +kernel)) (by decide +kernel)
theorem kw_1033 : Cond.code ⟨"PrivateViews$State", "changeCell", "(IIII)V"⟩ prog_10_method_7_code 7 none ∈ jTB := jtb (List.mem_of_getElem? (i := 1033) (by decide +kernel)) (by decide +kernel)
theorem kw_1034 : Cond.methodLink "PrivateViews$State" 128 ⟨"PrivateViews$Sheet", "valueAt", "(II)I"⟩ ∈ jTB := jtb (List.mem_of_getElem? (i := 1034) (by decide +kernel)) (by decide +kernel)
theorem kw_1035 : Cond.methodLink "PrivateViews$State" 131 ⟨"PrivateViews$Sheet", "keyAt", "(I)I"⟩ ∈ jTB := jtb (List.mem_of_getElem? (i := 1035) (by decide +kernel)) (by decide +kernel)
theorem kw_1036 : Cond.methodLink "PrivateViews$State" 134 ⟨"PrivateViews$Edit", "takeChange", "(IIII)V"⟩ ∈ jTB := jtb (List.mem_of_getElem? (i := 1036) (by decide +kernel)) (by decide +kernel)
theorem kw_1037 : Cond.instanceMethod ⟨"PrivateViews$Edit", "takeChange", "(IIII)V"⟩ ∈ jTB := jtb (List.mem_of_getElem? (i := 1037) (by decide +kernel)) (by decide +kernel)
theorem kw_1038 : Cond.selects "PrivateViews$Edit" ⟨"PrivateViews$Edit", "takeChange", "(IIII)V"⟩ ⟨"PrivateViews$Edit", "takeChange", "(IIII)V"⟩ ∈ jTB := jtb (List.mem_of_getElem? (i := 1038) (by decide +kernel)) (by decide +kernel)
theorem kw_1039 : Cond.code ⟨"PrivateViews$Edit", "takeChange", "(IIII)V"⟩ prog_2_method_2_code 5 none ∈ jTB := jtb (List.mem_of_getElem? (i := 1039) (by decide +kernel)) (by decide +kernel)
theorem kw_1040 : Cond.methodLink "PrivateViews$State" 137 ⟨"PrivateViews$Log", "takeChange", "(IIIII)V"⟩ ∈ jTB := jtb (List.mem_of_getElem? (i := 1040) (by decide +kernel)) (by decide +kernel)
theorem kw_1041 : Cond.instanceMethod ⟨"PrivateViews$Log", "takeChange", "(IIIII)V"⟩ ∈ jTB := jtb (List.mem_of_getElem? (i := 1041) (by decide +kernel)) (by decide +kernel)
theorem kw_1042 : Cond.selects "PrivateViews$Log" ⟨"PrivateViews$Log", "takeChange", "(IIIII)V"⟩ ⟨"PrivateViews$Log", "takeChange", "(IIIII)V"⟩ ∈ jTB := jtb (List.mem_of_getElem? (i := 1042) (by decide +kernel)) (by decide +kernel)
theorem kw_1043 : Cond.code ⟨"PrivateViews$Log", "takeChange", "(IIIII)V"⟩ prog_5_method_2_code 7 none ∈ jTB := jtb (List.mem_of_getElem? (i := 1043) (by decide +kernel)) (by decide +kernel)
theorem kw_1044 : Cond.methodLink "PrivateViews$Log" 22 ⟨"java/lang/Math", "min", "(II)I"⟩ ∈ jTB := jtb (List.mem_of_getElem? (i := 1044) (by decide +kernel)) (by decide +kernel)
theorem kw_1045 : Cond.methodLink "PrivateViews" 181 ⟨"PrivateViews$State", "finishEdit", "(I)I"⟩ ∈ jTB := jtb (List.mem_of_getElem? (i := 1045) (by decide +kernel)) (by decide +kernel)
theorem kw_1046 : Cond.instanceMethod ⟨"PrivateViews$State", "finishEdit", "(I)I"⟩ ∈ jTB := jtb (List.mem_of_getElem? (i := 1046) (by decide +kernel)) (by decide +kernel)
theorem kw_1047 : Cond.selects "PrivateViews$State" ⟨"PrivateViews$State", "finishEdit", "(I)I"⟩ ⟨"PrivateViews$State", "finishEdit", "(I)I"⟩ ∈ jTB := jtb (List.mem_of_getElem? (i := 1047) (by decide +kernel)) (by decide +kernel)
theorem kw_1048 : Cond.code ⟨"PrivateViews$State", "finishEdit", "(I)I"⟩ prog_10_method_8_code 2 (some .int) ∈ jTB := jtb (List.mem_of_getElem? (i := 1048) (by decide +kernel)) (by decide +kernel)
theorem kw_1049 : Cond.methodLink "PrivateViews$State" 140 ⟨"PrivateViews$View", "remember", "(LPrivateViews$Edit;)V"⟩ ∈ jTB := jtb (List.mem_of_getElem? (i := 1049) (by decide +kernel)) (by decide +kernel)
theorem kw_1050 : Cond.instanceMethod ⟨"PrivateViews$View", "remember", "(LPrivateViews$Edit;)V"⟩ ∈ jTB := jtb (List.mem_of_getElem? (i := 1050) (by decide +kernel)) (by decide +kernel)
theorem kw_1051 : Cond.selects "PrivateViews$View" ⟨"PrivateViews$View", "remember", "(LPrivateViews$Edit;)V"⟩ ⟨"PrivateViews$View", "remember", "(LPrivateViews$Edit;)V"⟩ ∈ jTB := jtb (List.mem_of_getElem? (i := 1051) (by decide +kernel)) (by decide +kernel)
theorem kw_1052 : Cond.code ⟨"PrivateViews$View", "remember", "(LPrivateViews$Edit;)V"⟩ prog_12_method_3_code 2 none ∈ jTB := jtb (List.mem_of_getElem? (i := 1052) (by decide +kernel)) (by decide +kernel)
theorem kw_1053 : Cond.methodLink "PrivateViews$View" 36 ⟨"PrivateViews$View", "forgetOldest", "()V"⟩ ∈ jTB := jtb (List.mem_of_getElem? (i := 1053) (by decide +kernel)) (by decide +kernel)
theorem kw_1055 : Cond.instanceMethod ⟨"PrivateViews$View", "forgetOldest", "()V"⟩ ∈ jTB := jtb (List.mem_of_getElem? (i := 1055) (by decide +kernel)) (by decide +kernel)
theorem kw_1056 : Cond.code ⟨"PrivateViews$View", "forgetOldest", "()V"⟩ prog_12_method_4_code 3 none ∈ jTB := jtb (List.mem_of_getElem? (i := 1056) (by decide +kernel)) (by decide +kernel)
theorem kw_1061 : Cond.instanceMethod ⟨"PrivateViews", "clear", "(III)I"⟩ ∈ jTB := jtb (List.mem_of_getElem? (i := 1061) (by decide +kernel)) (by decide +kernel)
theorem kw_1062 : Cond.selects "PrivateViews" ⟨"PrivateViews", "clear", "(III)I"⟩ ⟨"PrivateViews", "clear", "(III)I"⟩ ∈ jTB := jtb (List.mem_of_getElem? (i := 1062) (by decide +kernel)) (by decide +kernel)
theorem kw_1063 : Cond.code ⟨"PrivateViews", "clear", "(III)I"⟩ prog_1_method_15_code 6 (some .int) ∈ jTB := jtb (List.mem_of_getElem? (i := 1063) (by decide +kernel)) (by decide +kernel)
theorem kw_1064 : Cond.constant "PrivateViews" 173 (-1000000) ∈ jTB := jtb (List.mem_of_getElem? (i := 1064) (by decide +kernel)) (by decide +kernel)
theorem kw_1069 : Cond.instanceMethod ⟨"PrivateViews", "fill", "(IIII)I"⟩ ∈ jTB := jtb (List.mem_of_getElem? (i := 1069) (by decide +kernel)) (by decide +kernel)
theorem kw_1070 : Cond.selects "PrivateViews" ⟨"PrivateViews", "fill", "(IIII)I"⟩ ⟨"PrivateViews", "fill", "(IIII)I"⟩ ∈ jTB := jtb (List.mem_of_getElem? (i := 1070) (by decide +kernel)) (by decide +kernel)
theorem kw_1071 : Cond.code ⟨"PrivateViews", "fill", "(IIII)I"⟩ prog_1_method_16_code 9 (some .int) ∈ jTB := jtb (List.mem_of_getElem? (i := 1071) (by decide +kernel)) (by decide +kernel)
theorem kw_1076 : Cond.instanceMethod ⟨"PrivateViews", "replace", "(IIII)I"⟩ ∈ jTB := jtb (List.mem_of_getElem? (i := 1076) (by decide +kernel)) (by decide +kernel)
theorem kw_1077 : Cond.selects "PrivateViews" ⟨"PrivateViews", "replace", "(IIII)I"⟩ ⟨"PrivateViews", "replace", "(IIII)I"⟩ ∈ jTB := jtb (List.mem_of_getElem? (i := 1077) (by decide +kernel)) (by decide +kernel)
theorem kw_1078 : Cond.code ⟨"PrivateViews", "replace", "(IIII)I"⟩ prog_1_method_17_code 8 (some .int) ∈ jTB := jtb (List.mem_of_getElem? (i := 1078) (by decide +kernel)) (by decide +kernel)
theorem kw_1079 : Cond.methodLink "PrivateViews" 184 ⟨"PrivateViews$Sheet", "mayHoldOrBlank", "(II)Z"⟩ ∈ jTB := jtb (List.mem_of_getElem? (i := 1079) (by decide +kernel)) (by decide +kernel)
theorem kw_1080 : Cond.instanceMethod ⟨"PrivateViews$Sheet", "mayHoldOrBlank", "(II)Z"⟩ ∈ jTB := jtb (List.mem_of_getElem? (i := 1080) (by decide +kernel)) (by decide +kernel)
theorem kw_1081 : Cond.selects "PrivateViews$Sheet" ⟨"PrivateViews$Sheet", "mayHoldOrBlank", "(II)Z"⟩ ⟨"PrivateViews$Sheet", "mayHoldOrBlank", "(II)Z"⟩ ∈ jTB := jtb (List.mem_of_getElem? (i := 1081) (by decide +kernel)) (by decide +kernel)
theorem kw_1082 : Cond.code ⟨"PrivateViews$Sheet", "mayHoldOrBlank", "(II)Z"⟩ prog_9_method_12_code 3 (some .boolean) ∈ jTB := jtb (List.mem_of_getElem? (i := 1082) (by decide +kernel)) (by decide +kernel)
theorem kw_1083 : Cond.methodLink "PrivateViews$Sheet" 62 ⟨"PrivateViews$Sheet", "mayHold", "(II)Z"⟩ ∈ jTB := jtb (List.mem_of_getElem? (i := 1083) (by decide +kernel)) (by decide +kernel)
theorem kw_1088 : Cond.instanceMethod ⟨"PrivateViews", "swap", "(IIII)I"⟩ ∈ jTB := jtb (List.mem_of_getElem? (i := 1088) (by decide +kernel)) (by decide +kernel)
theorem kw_1089 : Cond.selects "PrivateViews" ⟨"PrivateViews", "swap", "(IIII)I"⟩ ⟨"PrivateViews", "swap", "(IIII)I"⟩ ∈ jTB := jtb (List.mem_of_getElem? (i := 1089) (by decide +kernel)) (by decide +kernel)
theorem kw_1090 : Cond.code ⟨"PrivateViews", "swap", "(IIII)I"⟩ prog_1_method_18_code 10 (some .int) ∈ jTB := jtb (List.mem_of_getElem? (i := 1090) (by decide +kernel)) (by decide +kernel)
theorem kw_1095 : Cond.instanceMethod ⟨"PrivateViews", "paste", "(III)I"⟩ ∈ jTB := jtb (List.mem_of_getElem? (i := 1095) (by decide +kernel)) (by decide +kernel)
theorem kw_1096 : Cond.selects "PrivateViews" ⟨"PrivateViews", "paste", "(III)I"⟩ ⟨"PrivateViews", "paste", "(III)I"⟩ ∈ jTB := jtb (List.mem_of_getElem? (i := 1096) (by decide +kernel)) (by decide +kernel)
theorem kw_1097 : Cond.code ⟨"PrivateViews", "paste", "(III)I"⟩ prog_1_method_19_code 6 (some .int) ∈ jTB := jtb (List.mem_of_getElem? (i := 1097) (by decide +kernel)) (by decide +kernel)
theorem kw_1098 : Cond.methodLink "PrivateViews" 187 ⟨"PrivateViews$Texts", "readGrids", "(LPrivateViews$Reader;LPrivateViews$Sheet;LPrivateViews$Lens;I)Z"⟩ ∈ jTB := jtb (List.mem_of_getElem? (i := 1098) (by decide +kernel)) (by decide +kernel)
theorem kw_1099 : Cond.instanceMethod ⟨"PrivateViews$Texts", "readGrids", "(LPrivateViews$Reader;LPrivateViews$Sheet;LPrivateViews$Lens;I)Z"⟩ ∈ jTB := jtb (List.mem_of_getElem? (i := 1099) (by decide +kernel)) (by decide +kernel)
theorem kw_1100 : Cond.selects "PrivateViews$Texts" ⟨"PrivateViews$Texts", "readGrids", "(LPrivateViews$Reader;LPrivateViews$Sheet;LPrivateViews$Lens;I)Z"⟩ ⟨"PrivateViews$Texts", "readGrids", "(LPrivateViews$Reader;LPrivateViews$Sheet;LPrivateViews$Lens;I)Z"⟩ ∈ jTB := jtb (List.mem_of_getElem? (i := 1100) (by decide +kernel)) (by decide +kernel)
theorem kw_1101 : Cond.code ⟨"PrivateViews$Texts", "readGrids", "(LPrivateViews$Reader;LPrivateViews$Sheet;LPrivateViews$Lens;I)Z"⟩ prog_11_method_22_code 6 (some .boolean) ∈ jTB := jtb (List.mem_of_getElem? (i := 1101) (by decide +kernel)) (by decide +kernel)
theorem kw_1102 : Cond.methodLink "PrivateViews$Texts" 217 ⟨"PrivateViews$Texts", "readGrid", "(LPrivateViews$Reader;LPrivateViews$Lens;I)Z"⟩ ∈ jTB := jtb (List.mem_of_getElem? (i := 1102) (by decide +kernel)) (by decide +kernel)
theorem kw_1104 : Cond.instanceMethod ⟨"PrivateViews$Texts", "readGrid", "(LPrivateViews$Reader;LPrivateViews$Lens;I)Z"⟩ ∈ jTB := jtb (List.mem_of_getElem? (i := 1104) (by decide +kernel)) (by decide +kernel)
theorem kw_1105 : Cond.code ⟨"PrivateViews$Texts", "readGrid", "(LPrivateViews$Reader;LPrivateViews$Lens;I)Z"⟩ prog_11_method_23_code 5 (some .boolean) ∈ jTB := jtb (List.mem_of_getElem? (i := 1105) (by decide +kernel)) (by decide +kernel)
theorem kw_1106 : Cond.methodLink "PrivateViews" 194 ⟨"java/lang/Math", "max", "(II)I"⟩ ∈ jTB := jtb (List.mem_of_getElem? (i := 1106) (by decide +kernel)) (by decide +kernel)
theorem kw_1109 : Cond.methodLink "PrivateViews" 202 ⟨"PrivateViews$State", "pasteGrids", "(LPrivateViews$Texts;III)I"⟩ ∈ jTB := jtb (List.mem_of_getElem? (i := 1109) (by decide +kernel)) (by decide +kernel)
theorem kw_1110 : Cond.instanceMethod ⟨"PrivateViews$State", "pasteGrids", "(LPrivateViews$Texts;III)I"⟩ ∈ jTB := jtb (List.mem_of_getElem? (i := 1110) (by decide +kernel)) (by decide +kernel)
theorem kw_1111 : Cond.selects "PrivateViews$State" ⟨"PrivateViews$State", "pasteGrids", "(LPrivateViews$Texts;III)I"⟩ ⟨"PrivateViews$State", "pasteGrids", "(LPrivateViews$Texts;III)I"⟩ ∈ jTB := jtb (List.mem_of_getElem? (i := 1111) (by decide +kernel)) (by decide +kernel)
theorem kw_1112 : Cond.code ⟨"PrivateViews$State", "pasteGrids", "(LPrivateViews$Texts;III)I"⟩ prog_10_method_9_code 9 (some .int) ∈ jTB := jtb (List.mem_of_getElem? (i := 1112) (by decide +kernel)) (by decide +kernel)
theorem kw_1113 : Cond.methodLink "PrivateViews$State" 144 ⟨"PrivateViews$State", "beginEdit", "()V"⟩ ∈ jTB := jtb (List.mem_of_getElem? (i := 1113) (by decide +kernel)) (by decide +kernel)
theorem kw_1114 : Cond.methodLink "PrivateViews$State" 147 ⟨"PrivateViews$State", "pasteGrid", "(LPrivateViews$Texts;IIII)V"⟩ ∈ jTB := jtb (List.mem_of_getElem? (i := 1114) (by decide +kernel)) (by decide +kernel)
theorem kw_1116 : Cond.instanceMethod ⟨"PrivateViews$State", "pasteGrid", "(LPrivateViews$Texts;IIII)V"⟩ ∈ jTB := jtb (List.mem_of_getElem? (i := 1116) (by decide +kernel)) (by decide +kernel)
theorem kw_1117 : Cond.code ⟨"PrivateViews$State", "pasteGrid", "(LPrivateViews$Texts;IIII)V"⟩ prog_10_method_10_code 8 none ∈ jTB := jtb (List.mem_of_getElem? (i := 1117) (by decide +kernel)) (by decide +kernel)
theorem kw_1118 : Cond.methodLink "PrivateViews$State" 154 ⟨"PrivateViews$Lens", "hides", "(I)Z"⟩ ∈ jTB := jtb (List.mem_of_getElem? (i := 1118) (by decide +kernel)) (by decide +kernel)
theorem kw_1119 : Cond.methodLink "PrivateViews$State" 158 ⟨"PrivateViews$State", "changeCell", "(IIII)V"⟩ ∈ jTB := jtb (List.mem_of_getElem? (i := 1119) (by decide +kernel)) (by decide +kernel)
theorem kw_1120 : Cond.methodLink "PrivateViews$State" 151 ⟨"PrivateViews$State", "finishEdit", "(I)I"⟩ ∈ jTB := jtb (List.mem_of_getElem? (i := 1120) (by decide +kernel)) (by decide +kernel)
theorem kw_1125 : Cond.instanceMethod ⟨"PrivateViews", "add", "(II)I"⟩ ∈ jTB := jtb (List.mem_of_getElem? (i := 1125) (by decide +kernel)) (by decide +kernel)
theorem kw_1126 : Cond.selects "PrivateViews" ⟨"PrivateViews", "add", "(II)I"⟩ ⟨"PrivateViews", "add", "(II)I"⟩ ∈ jTB := jtb (List.mem_of_getElem? (i := 1126) (by decide +kernel)) (by decide +kernel)
theorem kw_1127 : Cond.code ⟨"PrivateViews", "add", "(II)I"⟩ prog_1_method_20_code 6 (some .int) ∈ jTB := jtb (List.mem_of_getElem? (i := 1127) (by decide +kernel)) (by decide +kernel)
theorem kw_1128 : Cond.methodLink "PrivateViews" 209 ⟨"PrivateViews$Sheet", "seatNewRow", "()I"⟩ ∈ jTB := jtb (List.mem_of_getElem? (i := 1128) (by decide +kernel)) (by decide +kernel)
theorem kw_1129 : Cond.methodLink "PrivateViews" 212 ⟨"PrivateViews$RowList", "putAt", "(II)V"⟩ ∈ jTB := jtb (List.mem_of_getElem? (i := 1129) (by decide +kernel)) (by decide +kernel)
theorem kw_1130 : Cond.methodLink "PrivateViews" 216 ⟨"PrivateViews$State", "joinOthers", "(II)V"⟩ ∈ jTB := jtb (List.mem_of_getElem? (i := 1130) (by decide +kernel)) (by decide +kernel)
theorem kw_1135 : Cond.instanceMethod ⟨"PrivateViews", "drop", "(II)I"⟩ ∈ jTB := jtb (List.mem_of_getElem? (i := 1135) (by decide +kernel)) (by decide +kernel)
theorem kw_1136 : Cond.selects "PrivateViews" ⟨"PrivateViews", "drop", "(II)I"⟩ ⟨"PrivateViews", "drop", "(II)I"⟩ ∈ jTB := jtb (List.mem_of_getElem? (i := 1136) (by decide +kernel)) (by decide +kernel)
theorem kw_1137 : Cond.code ⟨"PrivateViews", "drop", "(II)I"⟩ prog_1_method_21_code 5 (some .int) ∈ jTB := jtb (List.mem_of_getElem? (i := 1137) (by decide +kernel)) (by decide +kernel)
theorem kw_1138 : Cond.methodLink "PrivateViews" 219 ⟨"PrivateViews$State", "removeRow", "(I)V"⟩ ∈ jTB := jtb (List.mem_of_getElem? (i := 1138) (by decide +kernel)) (by decide +kernel)
theorem kw_1139 : Cond.instanceMethod ⟨"PrivateViews$State", "removeRow", "(I)V"⟩ ∈ jTB := jtb (List.mem_of_getElem? (i := 1139) (by decide +kernel)) (by decide +kernel)
theorem kw_1140 : Cond.selects "PrivateViews$State" ⟨"PrivateViews$State", "removeRow", "(I)V"⟩ ⟨"PrivateViews$State", "removeRow", "(I)V"⟩ ∈ jTB := jtb (List.mem_of_getElem? (i := 1140) (by decide +kernel)) (by decide +kernel)
theorem kw_1141 : Cond.code ⟨"PrivateViews$State", "removeRow", "(I)V"⟩ prog_10_method_4_code 3 none ∈ jTB := jtb (List.mem_of_getElem? (i := 1141) (by decide +kernel)) (by decide +kernel)
theorem kw_1142 : Cond.methodLink "PrivateViews$State" 106 ⟨"PrivateViews$RowList", "takeOut", "(I)V"⟩ ∈ jTB := jtb (List.mem_of_getElem? (i := 1142) (by decide +kernel)) (by decide +kernel)
theorem kw_1143 : Cond.instanceMethod ⟨"PrivateViews$RowList", "takeOut", "(I)V"⟩ ∈ jTB := jtb (List.mem_of_getElem? (i := 1143) (by decide +kernel)) (by decide +kernel)
theorem kw_1144 : Cond.selects "PrivateViews$RowList" ⟨"PrivateViews$RowList", "takeOut", "(I)V"⟩ ⟨"PrivateViews$RowList", "takeOut", "(I)V"⟩ ∈ jTB := jtb (List.mem_of_getElem? (i := 1144) (by decide +kernel)) (by decide +kernel)
theorem kw_1145 : Cond.code ⟨"PrivateViews$RowList", "takeOut", "(I)V"⟩ prog_8_method_8_code 4 none ∈ jTB := jtb (List.mem_of_getElem? (i := 1145) (by decide +kernel)) (by decide +kernel)
theorem kw_1150 : Cond.instanceMethod ⟨"PrivateViews", "drag", "(III)I"⟩ ∈ jTB := jtb (List.mem_of_getElem? (i := 1150) (by decide +kernel)) (by decide +kernel)
theorem kw_1151 : Cond.selects "PrivateViews" ⟨"PrivateViews", "drag", "(III)I"⟩ ⟨"PrivateViews", "drag", "(III)I"⟩ ∈ jTB := jtb (List.mem_of_getElem? (i := 1151) (by decide +kernel)) (by decide +kernel)
theorem kw_1152 : Cond.code ⟨"PrivateViews", "drag", "(III)I"⟩ prog_1_method_22_code 6 (some .int) ∈ jTB := jtb (List.mem_of_getElem? (i := 1152) (by decide +kernel)) (by decide +kernel)
theorem kw_1153 : Cond.methodLink "PrivateViews" 222 ⟨"PrivateViews$RowList", "takeOut", "(I)V"⟩ ∈ jTB := jtb (List.mem_of_getElem? (i := 1153) (by decide +kernel)) (by decide +kernel)
theorem kw_1154 : Cond.methodLink "PrivateViews" 225 ⟨"PrivateViews$Sheet", "followList", "(LPrivateViews$RowList;I)V"⟩ ∈ jTB := jtb (List.mem_of_getElem? (i := 1154) (by decide +kernel)) (by decide +kernel)
theorem kw_1155 : Cond.instanceMethod ⟨"PrivateViews$Sheet", "followList", "(LPrivateViews$RowList;I)V"⟩ ∈ jTB := jtb (List.mem_of_getElem? (i := 1155) (by decide +kernel)) (by decide +kernel)
theorem kw_1156 : Cond.selects "PrivateViews$Sheet" ⟨"PrivateViews$Sheet", "followList", "(LPrivateViews$RowList;I)V"⟩ ⟨"PrivateViews$Sheet", "followList", "(LPrivateViews$RowList;I)V"⟩ ∈ jTB := jtb (List.mem_of_getElem? (i := 1156) (by decide +kernel)) (by decide +kernel)
theorem kw_1157 : Cond.code ⟨"PrivateViews$Sheet", "followList", "(LPrivateViews$RowList;I)V"⟩ prog_9_method_15_code 4 none ∈ jTB := jtb (List.mem_of_getElem? (i := 1157) (by decide +kernel)) (by decide +kernel)
theorem kw_1158 : Cond.methodLink "PrivateViews$Sheet" 80 ⟨"PrivateViews$RowList", "takeOut", "(I)V"⟩ ∈ jTB := jtb (List.mem_of_getElem? (i := 1158) (by decide +kernel)) (by decide +kernel)
theorem kw_1159 : Cond.methodLink "PrivateViews$Sheet" 84 ⟨"PrivateViews$RowList", "placeOf", "(I)I"⟩ ∈ jTB := jtb (List.mem_of_getElem? (i := 1159) (by decide +kernel)) (by decide +kernel)
theorem kw_1160 : Cond.methodLink "PrivateViews$Sheet" 87 ⟨"PrivateViews$RowList", "putAt", "(II)V"⟩ ∈ jTB := jtb (List.mem_of_getElem? (i := 1160) (by decide +kernel)) (by decide +kernel)
theorem kw_1161 : Cond.methodLink "PrivateViews$Sheet" 91 ⟨"java/lang/Math", "max", "(II)I"⟩ ∈ jTB := jtb (List.mem_of_getElem? (i := 1161) (by decide +kernel)) (by decide +kernel)
theorem kw_1166 : Cond.instanceMethod ⟨"PrivateViews", "refresh", "(I)I"⟩ ∈ jTB := jtb (List.mem_of_getElem? (i := 1166) (by decide +kernel)) (by decide +kernel)
theorem kw_1167 : Cond.selects "PrivateViews" ⟨"PrivateViews", "refresh", "(I)I"⟩ ⟨"PrivateViews", "refresh", "(I)I"⟩ ∈ jTB := jtb (List.mem_of_getElem? (i := 1167) (by decide +kernel)) (by decide +kernel)
theorem kw_1168 : Cond.code ⟨"PrivateViews", "refresh", "(I)I"⟩ prog_1_method_23_code 2 (some .int) ∈ jTB := jtb (List.mem_of_getElem? (i := 1168) (by decide +kernel)) (by decide +kernel)
theorem kw_1169 : Cond.methodLink "PrivateViews" 229 ⟨"PrivateViews$Questions", "takeFresh", "(LPrivateViews$State;LPrivateViews$View;)I"⟩ ∈ jTB := jtb (List.mem_of_getElem? (i := 1169) (by decide +kernel)) (by decide +kernel)
theorem kw_1170 : Cond.instanceMethod ⟨"PrivateViews$Questions", "takeFresh", "(LPrivateViews$State;LPrivateViews$View;)I"⟩ ∈ jTB := jtb (List.mem_of_getElem? (i := 1170) (by decide +kernel)) (by decide +kernel)
theorem kw_1171 : Cond.selects "PrivateViews$Questions" ⟨"PrivateViews$Questions", "takeFresh", "(LPrivateViews$State;LPrivateViews$View;)I"⟩ ⟨"PrivateViews$Questions", "takeFresh", "(LPrivateViews$State;LPrivateViews$View;)I"⟩ ∈ jTB := jtb (List.mem_of_getElem? (i := 1171) (by decide +kernel)) (by decide +kernel)
theorem kw_1172 : Cond.code ⟨"PrivateViews$Questions", "takeFresh", "(LPrivateViews$State;LPrivateViews$View;)I"⟩ prog_6_method_2_code 5 (some .int) ∈ jTB := jtb (List.mem_of_getElem? (i := 1172) (by decide +kernel)) (by decide +kernel)
theorem kw_1173 : Cond.methodLink "PrivateViews$Questions" 34 ⟨"PrivateViews$State", "freshInto", "(LPrivateViews$Lens;LPrivateViews$RowList;)V"⟩ ∈ jTB := jtb (List.mem_of_getElem? (i := 1173) (by decide +kernel)) (by decide +kernel)
theorem kw_1174 : Cond.methodLink "PrivateViews$Questions" 40 ⟨"PrivateViews$RowList", "length", "()I"⟩ ∈ jTB := jtb (List.mem_of_getElem? (i := 1174) (by decide +kernel)) (by decide +kernel)
theorem kw_1175 : Cond.methodLink "PrivateViews$Questions" 47 ⟨"PrivateViews$RowList", "at", "(I)I"⟩ ∈ jTB := jtb (List.mem_of_getElem? (i := 1175) (by decide +kernel)) (by decide +kernel)
theorem kw_1176 : Cond.methodLink "PrivateViews$Questions" 51 ⟨"PrivateViews$RowList", "holds", "(I)Z"⟩ ∈ jTB := jtb (List.mem_of_getElem? (i := 1176) (by decide +kernel)) (by decide +kernel)
theorem kw_1177 : Cond.methodLink "PrivateViews$Questions" 55 ⟨"PrivateViews$RowList", "copyFrom", "(LPrivateViews$RowList;)V"⟩ ∈ jTB := jtb (List.mem_of_getElem? (i := 1177) (by decide +kernel)) (by decide +kernel)
theorem kw_1182 : Cond.instanceMethod ⟨"PrivateViews", "undo", "(I)I"⟩ ∈ jTB := jtb (List.mem_of_getElem? (i := 1182) (by decide +kernel)) (by decide +kernel)
theorem kw_1183 : Cond.selects "PrivateViews" ⟨"PrivateViews", "undo", "(I)I"⟩ ⟨"PrivateViews", "undo", "(I)I"⟩ ∈ jTB := jtb (List.mem_of_getElem? (i := 1183) (by decide +kernel)) (by decide +kernel)
theorem kw_1184 : Cond.code ⟨"PrivateViews", "undo", "(I)I"⟩ prog_1_method_24_code 4 (some .int) ∈ jTB := jtb (List.mem_of_getElem? (i := 1184) (by decide +kernel)) (by decide +kernel)
theorem kw_1185 : Cond.methodLink "PrivateViews" 233 ⟨"PrivateViews$View", "latestEdit", "()LPrivateViews$Edit;"⟩ ∈ jTB := jtb (List.mem_of_getElem? (i := 1185) (by decide +kernel)) (by decide +kernel)
theorem kw_1186 : Cond.instanceMethod ⟨"PrivateViews$View", "latestEdit", "()LPrivateViews$Edit;"⟩ ∈ jTB := jtb (List.mem_of_getElem? (i := 1186) (by decide +kernel)) (by decide +kernel)
theorem kw_1187 : Cond.selects "PrivateViews$View" ⟨"PrivateViews$View", "latestEdit", "()LPrivateViews$Edit;"⟩ ⟨"PrivateViews$View", "latestEdit", "()LPrivateViews$Edit;"⟩ ∈ jTB := jtb (List.mem_of_getElem? (i := 1187) (by decide +kernel)) (by decide +kernel)
theorem kw_1188 : Cond.code ⟨"PrivateViews$View", "latestEdit", "()LPrivateViews$Edit;"⟩ prog_12_method_2_code 1 (some (.object "PrivateViews$Edit")) ∈ jTB := jtb (List.mem_of_getElem? (i := 1188) (by decide +kernel)) (by decide +kernel)
theorem kw_1189 : Cond.methodLink "PrivateViews" 237 ⟨"PrivateViews$Edit", "firstBarred", "(LPrivateViews$Sheet;)I"⟩ ∈ jTB := jtb (List.mem_of_getElem? (i := 1189) (by decide +kernel)) (by decide +kernel)
theorem kw_1190 : Cond.instanceMethod ⟨"PrivateViews$Edit", "firstBarred", "(LPrivateViews$Sheet;)I"⟩ ∈ jTB := jtb (List.mem_of_getElem? (i := 1190) (by decide +kernel)) (by decide +kernel)
theorem kw_1191 : Cond.selects "PrivateViews$Edit" ⟨"PrivateViews$Edit", "firstBarred", "(LPrivateViews$Sheet;)I"⟩ ⟨"PrivateViews$Edit", "firstBarred", "(LPrivateViews$Sheet;)I"⟩ ∈ jTB := jtb (List.mem_of_getElem? (i := 1191) (by decide +kernel)) (by decide +kernel)
theorem kw_1192 : Cond.code ⟨"PrivateViews$Edit", "firstBarred", "(LPrivateViews$Sheet;)I"⟩ prog_2_method_3_code 4 (some .int) ∈ jTB := jtb (List.mem_of_getElem? (i := 1192) (by decide +kernel)) (by decide +kernel)
theorem kw_1193 : Cond.methodLink "PrivateViews$Edit" 28 ⟨"PrivateViews$Sheet", "seatOf", "(I)I"⟩ ∈ jTB := jtb (List.mem_of_getElem? (i := 1193) (by decide +kernel)) (by decide +kernel)
theorem kw_1194 : Cond.methodLink "PrivateViews$Edit" 34 ⟨"PrivateViews$Sheet", "valueAt", "(II)I"⟩ ∈ jTB := jtb (List.mem_of_getElem? (i := 1194) (by decide +kernel)) (by decide +kernel)
theorem kw_1195 : Cond.methodLink "PrivateViews" 246 ⟨"PrivateViews$State", "takeBack", "(ILPrivateViews$Edit;)I"⟩ ∈ jTB := jtb (List.mem_of_getElem? (i := 1195) (by decide +kernel)) (by decide +kernel)
theorem kw_1196 : Cond.instanceMethod ⟨"PrivateViews$State", "takeBack", "(ILPrivateViews$Edit;)I"⟩ ∈ jTB := jtb (List.mem_of_getElem? (i := 1196) (by decide +kernel)) (by decide +kernel)
theorem kw_1197 : Cond.selects "PrivateViews$State" ⟨"PrivateViews$State", "takeBack", "(ILPrivateViews$Edit;)I"⟩ ⟨"PrivateViews$State", "takeBack", "(ILPrivateViews$Edit;)I"⟩ ∈ jTB := jtb (List.mem_of_getElem? (i := 1197) (by decide +kernel)) (by decide +kernel)
theorem kw_1198 : Cond.code ⟨"PrivateViews$State", "takeBack", "(ILPrivateViews$Edit;)I"⟩ prog_10_method_11_code 6 (some .int) ∈ jTB := jtb (List.mem_of_getElem? (i := 1198) (by decide +kernel)) (by decide +kernel)
theorem kw_1199 : Cond.methodLink "PrivateViews$State" 166 ⟨"PrivateViews$Sheet", "seatOf", "(I)I"⟩ ∈ jTB := jtb (List.mem_of_getElem? (i := 1199) (by decide +kernel)) (by decide +kernel)
theorem kw_1200 : Cond.methodLink "PrivateViews$State" 175 ⟨"PrivateViews$View", "forgetLatest", "()V"⟩ ∈ jTB := jtb (List.mem_of_getElem? (i := 1200) (by decide +kernel)) (by decide +kernel)
theorem kw_1201 : Cond.instanceMethod ⟨"PrivateViews$View", "forgetLatest", "()V"⟩ ∈ jTB := jtb (List.mem_of_getElem? (i := 1201) (by decide +kernel)) (by decide +kernel)
theorem kw_1202 : Cond.selects "PrivateViews$View" ⟨"PrivateViews$View", "forgetLatest", "()V"⟩ ⟨"PrivateViews$View", "forgetLatest", "()V"⟩ ∈ jTB := jtb (List.mem_of_getElem? (i := 1202) (by decide +kernel)) (by decide +kernel)
theorem kw_1203 : Cond.code ⟨"PrivateViews$View", "forgetLatest", "()V"⟩ prog_12_method_5_code 1 none ∈ jTB := jtb (List.mem_of_getElem? (i := 1203) (by decide +kernel)) (by decide +kernel)
theorem kw_1204 : Cond.methodLink "PrivateViews$View" 43 ⟨"java/lang/Math", "max", "(II)I"⟩ ∈ jTB := jtb (List.mem_of_getElem? (i := 1204) (by decide +kernel)) (by decide +kernel)
theorem kw_1209 : Cond.instanceMethod ⟨"PrivateViews", "fits", "(II)Z"⟩ ∈ jTB := jtb (List.mem_of_getElem? (i := 1209) (by decide +kernel)) (by decide +kernel)
theorem kw_1210 : Cond.selects "PrivateViews" ⟨"PrivateViews", "fits", "(II)Z"⟩ ⟨"PrivateViews", "fits", "(II)Z"⟩ ∈ jTB := jtb (List.mem_of_getElem? (i := 1210) (by decide +kernel)) (by decide +kernel)
theorem kw_1211 : Cond.code ⟨"PrivateViews", "fits", "(II)Z"⟩ prog_1_method_25_code 4 (some .boolean) ∈ jTB := jtb (List.mem_of_getElem? (i := 1211) (by decide +kernel)) (by decide +kernel)
theorem kw_1212 : Cond.methodLink "PrivateViews" 250 ⟨"PrivateViews$Lens", "suits", "(LPrivateViews$Sheet;I)Z"⟩ ∈ jTB := jtb (List.mem_of_getElem? (i := 1212) (by decide +kernel)) (by decide +kernel)
theorem kw_1213 : Cond.instanceMethod ⟨"PrivateViews$Lens", "suits", "(LPrivateViews$Sheet;I)Z"⟩ ∈ jTB := jtb (List.mem_of_getElem? (i := 1213) (by decide +kernel)) (by decide +kernel)
theorem kw_1214 : Cond.selects "PrivateViews$Lens" ⟨"PrivateViews$Lens", "suits", "(LPrivateViews$Sheet;I)Z"⟩ ⟨"PrivateViews$Lens", "suits", "(LPrivateViews$Sheet;I)Z"⟩ ∈ jTB := jtb (List.mem_of_getElem? (i := 1214) (by decide +kernel)) (by decide +kernel)
theorem kw_1215 : Cond.code ⟨"PrivateViews$Lens", "suits", "(LPrivateViews$Sheet;I)Z"⟩ prog_4_method_10_code 3 (some .boolean) ∈ jTB := jtb (List.mem_of_getElem? (i := 1215) (by decide +kernel)) (by decide +kernel)
theorem kw_1216 : Cond.methodLink "PrivateViews$Lens" 46 ⟨"PrivateViews$Lens", "firstUnlike", "(LPrivateViews$Sheet;I)I"⟩ ∈ jTB := jtb (List.mem_of_getElem? (i := 1216) (by decide +kernel)) (by decide +kernel)
theorem kw_1221 : Cond.instanceMethod ⟨"PrivateViews", "why", "(II)I"⟩ ∈ jTB := jtb (List.mem_of_getElem? (i := 1221) (by decide +kernel)) (by decide +kernel)
theorem kw_1222 : Cond.selects "PrivateViews" ⟨"PrivateViews", "why", "(II)I"⟩ ⟨"PrivateViews", "why", "(II)I"⟩ ∈ jTB := jtb (List.mem_of_getElem? (i := 1222) (by decide +kernel)) (by decide +kernel)
theorem kw_1223 : Cond.code ⟨"PrivateViews", "why", "(II)I"⟩ prog_1_method_26_code 4 (some .int) ∈ jTB := jtb (List.mem_of_getElem? (i := 1223) (by decide +kernel)) (by decide +kernel)
theorem kw_1224 : Cond.methodLink "PrivateViews" 254 ⟨"PrivateViews$Lens", "firstUnlike", "(LPrivateViews$Sheet;I)I"⟩ ∈ jTB := jtb (List.mem_of_getElem? (i := 1224) (by decide +kernel)) (by decide +kernel)
theorem kw_1229 : Cond.instanceMethod ⟨"PrivateViews", "stale", "(I)I"⟩ ∈ jTB := jtb (List.mem_of_getElem? (i := 1229) (by decide +kernel)) (by decide +kernel)
theorem kw_1230 : Cond.selects "PrivateViews" ⟨"PrivateViews", "stale", "(I)I"⟩ ⟨"PrivateViews", "stale", "(I)I"⟩ ∈ jTB := jtb (List.mem_of_getElem? (i := 1230) (by decide +kernel)) (by decide +kernel)
theorem kw_1231 : Cond.code ⟨"PrivateViews", "stale", "(I)I"⟩ prog_1_method_27_code 2 (some .int) ∈ jTB := jtb (List.mem_of_getElem? (i := 1231) (by decide +kernel)) (by decide +kernel)
theorem kw_1232 : Cond.methodLink "PrivateViews" 258 ⟨"PrivateViews$Questions", "staleBits", "(LPrivateViews$State;LPrivateViews$View;)I"⟩ ∈ jTB := jtb (List.mem_of_getElem? (i := 1232) (by decide +kernel)) (by decide +kernel)
theorem kw_1233 : Cond.instanceMethod ⟨"PrivateViews$Questions", "staleBits", "(LPrivateViews$State;LPrivateViews$View;)I"⟩ ∈ jTB := jtb (List.mem_of_getElem? (i := 1233) (by decide +kernel)) (by decide +kernel)
theorem kw_1234 : Cond.selects "PrivateViews$Questions" ⟨"PrivateViews$Questions", "staleBits", "(LPrivateViews$State;LPrivateViews$View;)I"⟩ ⟨"PrivateViews$Questions", "staleBits", "(LPrivateViews$State;LPrivateViews$View;)I"⟩ ∈ jTB := jtb (List.mem_of_getElem? (i := 1234) (by decide +kernel)) (by decide +kernel)
theorem kw_1235 : Cond.code ⟨"PrivateViews$Questions", "staleBits", "(LPrivateViews$State;LPrivateViews$View;)I"⟩ prog_6_method_3_code 5 (some .int) ∈ jTB := jtb (List.mem_of_getElem? (i := 1235) (by decide +kernel)) (by decide +kernel)
theorem kw_1236 : Cond.methodLink "PrivateViews$Questions" 63 ⟨"PrivateViews$Lens", "suits", "(LPrivateViews$Sheet;I)Z"⟩ ∈ jTB := jtb (List.mem_of_getElem? (i := 1236) (by decide +kernel)) (by decide +kernel)
theorem kw_1241 : Cond.instanceMethod ⟨"PrivateViews", "pending", "(I)I"⟩ ∈ jTB := jtb (List.mem_of_getElem? (i := 1241) (by decide +kernel)) (by decide +kernel)
theorem kw_1242 : Cond.selects "PrivateViews" ⟨"PrivateViews", "pending", "(I)I"⟩ ⟨"PrivateViews", "pending", "(I)I"⟩ ∈ jTB := jtb (List.mem_of_getElem? (i := 1242) (by decide +kernel)) (by decide +kernel)
theorem kw_1243 : Cond.code ⟨"PrivateViews", "pending", "(I)I"⟩ prog_1_method_28_code 2 (some .int) ∈ jTB := jtb (List.mem_of_getElem? (i := 1243) (by decide +kernel)) (by decide +kernel)
theorem kw_1244 : Cond.methodLink "PrivateViews" 261 ⟨"PrivateViews$Questions", "pendingBits", "(LPrivateViews$State;LPrivateViews$View;)I"⟩ ∈ jTB := jtb (List.mem_of_getElem? (i := 1244) (by decide +kernel)) (by decide +kernel)
theorem kw_1245 : Cond.instanceMethod ⟨"PrivateViews$Questions", "pendingBits", "(LPrivateViews$State;LPrivateViews$View;)I"⟩ ∈ jTB := jtb (List.mem_of_getElem? (i := 1245) (by decide +kernel)) (by decide +kernel)
theorem kw_1246 : Cond.selects "PrivateViews$Questions" ⟨"PrivateViews$Questions", "pendingBits", "(LPrivateViews$State;LPrivateViews$View;)I"⟩ ⟨"PrivateViews$Questions", "pendingBits", "(LPrivateViews$State;LPrivateViews$View;)I"⟩ ∈ jTB := jtb (List.mem_of_getElem? (i := 1246) (by decide +kernel)) (by decide +kernel)
theorem kw_1247 : Cond.code ⟨"PrivateViews$Questions", "pendingBits", "(LPrivateViews$State;LPrivateViews$View;)I"⟩ prog_6_method_4_code 7 (some .int) ∈ jTB := jtb (List.mem_of_getElem? (i := 1247) (by decide +kernel)) (by decide +kernel)
theorem kw_1252 : Cond.instanceMethod ⟨"PrivateViews", "rank", "(II)I"⟩ ∈ jTB := jtb (List.mem_of_getElem? (i := 1252) (by decide +kernel)) (by decide +kernel)
theorem kw_1253 : Cond.selects "PrivateViews" ⟨"PrivateViews", "rank", "(II)I"⟩ ⟨"PrivateViews", "rank", "(II)I"⟩ ∈ jTB := jtb (List.mem_of_getElem? (i := 1253) (by decide +kernel)) (by decide +kernel)
theorem kw_1254 : Cond.code ⟨"PrivateViews", "rank", "(II)I"⟩ prog_1_method_29_code 4 (some .int) ∈ jTB := jtb (List.mem_of_getElem? (i := 1254) (by decide +kernel)) (by decide +kernel)
theorem kw_1255 : Cond.methodLink "PrivateViews" 264 ⟨"PrivateViews$Questions", "freshPlace", "(LPrivateViews$State;LPrivateViews$View;I)I"⟩ ∈ jTB := jtb (List.mem_of_getElem? (i := 1255) (by decide +kernel)) (by decide +kernel)
theorem kw_1256 : Cond.instanceMethod ⟨"PrivateViews$Questions", "freshPlace", "(LPrivateViews$State;LPrivateViews$View;I)I"⟩ ∈ jTB := jtb (List.mem_of_getElem? (i := 1256) (by decide +kernel)) (by decide +kernel)
theorem kw_1257 : Cond.selects "PrivateViews$Questions" ⟨"PrivateViews$Questions", "freshPlace", "(LPrivateViews$State;LPrivateViews$View;I)I"⟩ ⟨"PrivateViews$Questions", "freshPlace", "(LPrivateViews$State;LPrivateViews$View;I)I"⟩ ∈ jTB := jtb (List.mem_of_getElem? (i := 1257) (by decide +kernel)) (by decide +kernel)
theorem kw_1258 : Cond.code ⟨"PrivateViews$Questions", "freshPlace", "(LPrivateViews$State;LPrivateViews$View;I)I"⟩ prog_6_method_5_code 4 (some .int) ∈ jTB := jtb (List.mem_of_getElem? (i := 1258) (by decide +kernel)) (by decide +kernel)
theorem kw_1259 : Cond.methodLink "PrivateViews$Questions" 74 ⟨"PrivateViews$RowList", "placeOf", "(I)I"⟩ ∈ jTB := jtb (List.mem_of_getElem? (i := 1259) (by decide +kernel)) (by decide +kernel)
theorem kw_1264 : Cond.instanceMethod ⟨"PrivateViews", "moves", "(I)I"⟩ ∈ jTB := jtb (List.mem_of_getElem? (i := 1264) (by decide +kernel)) (by decide +kernel)
theorem kw_1265 : Cond.selects "PrivateViews" ⟨"PrivateViews", "moves", "(I)I"⟩ ⟨"PrivateViews", "moves", "(I)I"⟩ ∈ jTB := jtb (List.mem_of_getElem? (i := 1265) (by decide +kernel)) (by decide +kernel)
theorem kw_1266 : Cond.code ⟨"PrivateViews", "moves", "(I)I"⟩ prog_1_method_30_code 2 (some .int) ∈ jTB := jtb (List.mem_of_getElem? (i := 1266) (by decide +kernel)) (by decide +kernel)
theorem kw_1267 : Cond.methodLink "PrivateViews" 268 ⟨"PrivateViews$Questions", "fewestMoves", "(LPrivateViews$State;LPrivateViews$View;)I"⟩ ∈ jTB := jtb (List.mem_of_getElem? (i := 1267) (by decide +kernel)) (by decide +kernel)
theorem kw_1268 : Cond.instanceMethod ⟨"PrivateViews$Questions", "fewestMoves", "(LPrivateViews$State;LPrivateViews$View;)I"⟩ ∈ jTB := jtb (List.mem_of_getElem? (i := 1268) (by decide +kernel)) (by decide +kernel)
theorem kw_1269 : Cond.selects "PrivateViews$Questions" ⟨"PrivateViews$Questions", "fewestMoves", "(LPrivateViews$State;LPrivateViews$View;)I"⟩ ⟨"PrivateViews$Questions", "fewestMoves", "(LPrivateViews$State;LPrivateViews$View;)I"⟩ ∈ jTB := jtb (List.mem_of_getElem? (i := 1269) (by decide +kernel)) (by decide +kernel)
theorem kw_1270 : Cond.code ⟨"PrivateViews$Questions", "fewestMoves", "(LPrivateViews$State;LPrivateViews$View;)I"⟩ prog_6_method_6_code 7 (some .int) ∈ jTB := jtb (List.mem_of_getElem? (i := 1270) (by decide +kernel)) (by decide +kernel)
theorem kw_1271 : Cond.methodLink "PrivateViews$Questions" 77 ⟨"PrivateViews$Questions", "longestBelow", "(I)I"⟩ ∈ jTB := jtb (List.mem_of_getElem? (i := 1271) (by decide +kernel)) (by decide +kernel)
theorem kw_1273 : Cond.instanceMethod ⟨"PrivateViews$Questions", "longestBelow", "(I)I"⟩ ∈ jTB := jtb (List.mem_of_getElem? (i := 1273) (by decide +kernel)) (by decide +kernel)
theorem kw_1274 : Cond.code ⟨"PrivateViews$Questions", "longestBelow", "(I)I"⟩ prog_6_method_7_code 4 (some .int) ∈ jTB := jtb (List.mem_of_getElem? (i := 1274) (by decide +kernel)) (by decide +kernel)
theorem kw_1275 : Cond.methodLink "PrivateViews$Questions" 80 ⟨"java/lang/Math", "max", "(II)I"⟩ ∈ jTB := jtb (List.mem_of_getElem? (i := 1275) (by decide +kernel)) (by decide +kernel)
theorem kw_1280 : Cond.instanceMethod ⟨"PrivateViews", "unlike", "(II)I"⟩ ∈ jTB := jtb (List.mem_of_getElem? (i := 1280) (by decide +kernel)) (by decide +kernel)
theorem kw_1281 : Cond.selects "PrivateViews" ⟨"PrivateViews", "unlike", "(II)I"⟩ ⟨"PrivateViews", "unlike", "(II)I"⟩ ∈ jTB := jtb (List.mem_of_getElem? (i := 1281) (by decide +kernel)) (by decide +kernel)
theorem kw_1282 : Cond.code ⟨"PrivateViews", "unlike", "(II)I"⟩ prog_1_method_31_code 5 (some .int) ∈ jTB := jtb (List.mem_of_getElem? (i := 1282) (by decide +kernel)) (by decide +kernel)
theorem kw_1283 : Cond.methodLink "PrivateViews" 271 ⟨"PrivateViews$Questions", "pairsTurned", "(LPrivateViews$RowList;LPrivateViews$RowList;)I"⟩ ∈ jTB := jtb (List.mem_of_getElem? (i := 1283) (by decide +kernel)) (by decide +kernel)
theorem kw_1284 : Cond.instanceMethod ⟨"PrivateViews$Questions", "pairsTurned", "(LPrivateViews$RowList;LPrivateViews$RowList;)I"⟩ ∈ jTB := jtb (List.mem_of_getElem? (i := 1284) (by decide +kernel)) (by decide +kernel)
theorem kw_1285 : Cond.selects "PrivateViews$Questions" ⟨"PrivateViews$Questions", "pairsTurned", "(LPrivateViews$RowList;LPrivateViews$RowList;)I"⟩ ⟨"PrivateViews$Questions", "pairsTurned", "(LPrivateViews$RowList;LPrivateViews$RowList;)I"⟩ ∈ jTB := jtb (List.mem_of_getElem? (i := 1285) (by decide +kernel)) (by decide +kernel)
theorem kw_1286 : Cond.code ⟨"PrivateViews$Questions", "pairsTurned", "(LPrivateViews$RowList;LPrivateViews$RowList;)I"⟩ prog_6_method_8_code 8 (some .int) ∈ jTB := jtb (List.mem_of_getElem? (i := 1286) (by decide +kernel)) (by decide +kernel)
theorem kw_1291 : Cond.instanceMethod ⟨"PrivateViews", "told", "(II)I"⟩ ∈ jTB := jtb (List.mem_of_getElem? (i := 1291) (by decide +kernel)) (by decide +kernel)
theorem kw_1292 : Cond.selects "PrivateViews" ⟨"PrivateViews", "told", "(II)I"⟩ ⟨"PrivateViews", "told", "(II)I"⟩ ∈ jTB := jtb (List.mem_of_getElem? (i := 1292) (by decide +kernel)) (by decide +kernel)
theorem kw_1293 : Cond.code ⟨"PrivateViews", "told", "(II)I"⟩ prog_1_method_32_code 3 (some .int) ∈ jTB := jtb (List.mem_of_getElem? (i := 1293) (by decide +kernel)) (by decide +kernel)
theorem kw_1294 : Cond.methodLink "PrivateViews" 275 ⟨"PrivateViews$Questions", "tellSorts", "(LPrivateViews$Sheet;LPrivateViews$RowList;)V"⟩ ∈ jTB := jtb (List.mem_of_getElem? (i := 1294) (by decide +kernel)) (by decide +kernel)
theorem kw_1295 : Cond.instanceMethod ⟨"PrivateViews$Questions", "tellSorts", "(LPrivateViews$Sheet;LPrivateViews$RowList;)V"⟩ ∈ jTB := jtb (List.mem_of_getElem? (i := 1295) (by decide +kernel)) (by decide +kernel)
theorem kw_1296 : Cond.selects "PrivateViews$Questions" ⟨"PrivateViews$Questions", "tellSorts", "(LPrivateViews$Sheet;LPrivateViews$RowList;)V"⟩ ⟨"PrivateViews$Questions", "tellSorts", "(LPrivateViews$Sheet;LPrivateViews$RowList;)V"⟩ ∈ jTB := jtb (List.mem_of_getElem? (i := 1296) (by decide +kernel)) (by decide +kernel)
theorem kw_1297 : Cond.code ⟨"PrivateViews$Questions", "tellSorts", "(LPrivateViews$Sheet;LPrivateViews$RowList;)V"⟩ prog_6_method_10_code 4 none ∈ jTB := jtb (List.mem_of_getElem? (i := 1297) (by decide +kernel)) (by decide +kernel)
theorem kw_1298 : Cond.methodLink "PrivateViews$Questions" 93 ⟨"PrivateViews$Questions", "isTold", "(LPrivateViews$Sheet;LPrivateViews$RowList;II)Z"⟩ ∈ jTB := jtb (List.mem_of_getElem? (i := 1298) (by decide +kernel)) (by decide +kernel)
theorem kw_1300 : Cond.instanceMethod ⟨"PrivateViews$Questions", "isTold", "(LPrivateViews$Sheet;LPrivateViews$RowList;II)Z"⟩ ∈ jTB := jtb (List.mem_of_getElem? (i := 1300) (by decide +kernel)) (by decide +kernel)
theorem kw_1301 : Cond.code ⟨"PrivateViews$Questions", "isTold", "(LPrivateViews$Sheet;LPrivateViews$RowList;II)Z"⟩ prog_6_method_13_code 9 (some .boolean) ∈ jTB := jtb (List.mem_of_getElem? (i := 1301) (by decide +kernel)) (by decide +kernel)
theorem kw_1302 : Cond.methodLink "PrivateViews$Questions" 110 ⟨"PrivateViews$Sheet", "compareBy", "(III)I"⟩ ∈ jTB := jtb (List.mem_of_getElem? (i := 1302) (by decide +kernel)) (by decide +kernel)
theorem kw_1303 : Cond.methodLink "PrivateViews$Questions" 100 ⟨"PrivateViews$Questions", "tellOneSort", "(LPrivateViews$Sheet;LPrivateViews$RowList;)Z"⟩ ∈ jTB := jtb (List.mem_of_getElem? (i := 1303) (by decide +kernel)) (by decide +kernel)
theorem kw_1305 : Cond.instanceMethod ⟨"PrivateViews$Questions", "tellOneSort", "(LPrivateViews$Sheet;LPrivateViews$RowList;)Z"⟩ ∈ jTB := jtb (List.mem_of_getElem? (i := 1305) (by decide +kernel)) (by decide +kernel)
theorem kw_1306 : Cond.code ⟨"PrivateViews$Questions", "tellOneSort", "(LPrivateViews$Sheet;LPrivateViews$RowList;)Z"⟩ prog_6_method_11_code 4 (some .boolean) ∈ jTB := jtb (List.mem_of_getElem? (i := 1306) (by decide +kernel)) (by decide +kernel)
theorem kw_1307 : Cond.methodLink "PrivateViews$Questions" 104 ⟨"PrivateViews$Questions", "tellTwoSorts", "(LPrivateViews$Sheet;LPrivateViews$RowList;)Z"⟩ ∈ jTB := jtb (List.mem_of_getElem? (i := 1307) (by decide +kernel)) (by decide +kernel)
theorem kw_1309 : Cond.instanceMethod ⟨"PrivateViews$Questions", "tellTwoSorts", "(LPrivateViews$Sheet;LPrivateViews$RowList;)Z"⟩ ∈ jTB := jtb (List.mem_of_getElem? (i := 1309) (by decide +kernel)) (by decide +kernel)
theorem kw_1310 : Cond.code ⟨"PrivateViews$Questions", "tellTwoSorts", "(LPrivateViews$Sheet;LPrivateViews$RowList;)Z"⟩ prog_6_method_12_code 5 (some .boolean) ∈ jTB := jtb (List.mem_of_getElem? (i := 1310) (by decide +kernel)) (by decide +kernel)
theorem kw_1311 : Cond.methodLink "PrivateViews" 282 ⟨"PrivateViews$Questions", "sortNeeded", "(I)I"⟩ ∈ jTB := jtb (List.mem_of_getElem? (i := 1311) (by decide +kernel)) (by decide +kernel)
theorem kw_1312 : Cond.instanceMethod ⟨"PrivateViews$Questions", "sortNeeded", "(I)I"⟩ ∈ jTB := jtb (List.mem_of_getElem? (i := 1312) (by decide +kernel)) (by decide +kernel)
theorem kw_1313 : Cond.selects "PrivateViews$Questions" ⟨"PrivateViews$Questions", "sortNeeded", "(I)I"⟩ ⟨"PrivateViews$Questions", "sortNeeded", "(I)I"⟩ ∈ jTB := jtb (List.mem_of_getElem? (i := 1313) (by decide +kernel)) (by decide +kernel)
theorem kw_1314 : Cond.code ⟨"PrivateViews$Questions", "sortNeeded", "(I)I"⟩ prog_6_method_9_code 2 (some .int) ∈ jTB := jtb (List.mem_of_getElem? (i := 1314) (by decide +kernel)) (by decide +kernel)
theorem kw_1319 : Cond.instanceMethod ⟨"PrivateViews", "between", "(III)I"⟩ ∈ jTB := jtb (List.mem_of_getElem? (i := 1319) (by decide +kernel)) (by decide +kernel)
theorem kw_1320 : Cond.selects "PrivateViews" ⟨"PrivateViews", "between", "(III)I"⟩ ⟨"PrivateViews", "between", "(III)I"⟩ ∈ jTB := jtb (List.mem_of_getElem? (i := 1320) (by decide +kernel)) (by decide +kernel)
theorem kw_1321 : Cond.code ⟨"PrivateViews", "between", "(III)I"⟩ prog_1_method_33_code 7 (some .int) ∈ jTB := jtb (List.mem_of_getElem? (i := 1321) (by decide +kernel)) (by decide +kernel)
theorem kw_1322 : Cond.methodLink "PrivateViews" 285 ⟨"PrivateViews$Questions", "unseenBetween", "(LPrivateViews$RowList;LPrivateViews$RowList;II)I"⟩ ∈ jTB := jtb (List.mem_of_getElem? (i := 1322) (by decide +kernel)) (by decide +kernel)
theorem kw_1323 : Cond.instanceMethod ⟨"PrivateViews$Questions", "unseenBetween", "(LPrivateViews$RowList;LPrivateViews$RowList;II)I"⟩ ∈ jTB := jtb (List.mem_of_getElem? (i := 1323) (by decide +kernel)) (by decide +kernel)
theorem kw_1324 : Cond.selects "PrivateViews$Questions" ⟨"PrivateViews$Questions", "unseenBetween", "(LPrivateViews$RowList;LPrivateViews$RowList;II)I"⟩ ⟨"PrivateViews$Questions", "unseenBetween", "(LPrivateViews$RowList;LPrivateViews$RowList;II)I"⟩ ∈ jTB := jtb (List.mem_of_getElem? (i := 1324) (by decide +kernel)) (by decide +kernel)
theorem kw_1325 : Cond.code ⟨"PrivateViews$Questions", "unseenBetween", "(LPrivateViews$RowList;LPrivateViews$RowList;II)I"⟩ prog_6_method_14_code 9 (some .int) ∈ jTB := jtb (List.mem_of_getElem? (i := 1325) (by decide +kernel)) (by decide +kernel)
theorem kw_1326 : Cond.methodLink "PrivateViews$Questions" 114 ⟨"java/lang/Math", "min", "(II)I"⟩ ∈ jTB := jtb (List.mem_of_getElem? (i := 1326) (by decide +kernel)) (by decide +kernel)
theorem kw_1331 : Cond.instanceMethod ⟨"PrivateViews", "sum", "(II)I"⟩ ∈ jTB := jtb (List.mem_of_getElem? (i := 1331) (by decide +kernel)) (by decide +kernel)
theorem kw_1332 : Cond.selects "PrivateViews" ⟨"PrivateViews", "sum", "(II)I"⟩ ⟨"PrivateViews", "sum", "(II)I"⟩ ∈ jTB := jtb (List.mem_of_getElem? (i := 1332) (by decide +kernel)) (by decide +kernel)
theorem kw_1333 : Cond.code ⟨"PrivateViews", "sum", "(II)I"⟩ prog_1_method_34_code 4 (some .int) ∈ jTB := jtb (List.mem_of_getElem? (i := 1333) (by decide +kernel)) (by decide +kernel)
theorem kw_1334 : Cond.methodLink "PrivateViews" 289 ⟨"PrivateViews", "needNumbers", "(I)V"⟩ ∈ jTB := jtb (List.mem_of_getElem? (i := 1334) (by decide +kernel)) (by decide +kernel)
theorem kw_1336 : Cond.instanceMethod ⟨"PrivateViews", "needNumbers", "(I)V"⟩ ∈ jTB := jtb (List.mem_of_getElem? (i := 1336) (by decide +kernel)) (by decide +kernel)
theorem kw_1337 : Cond.code ⟨"PrivateViews", "needNumbers", "(I)V"⟩ prog_1_method_52_code 2 none ∈ jTB := jtb (List.mem_of_getElem? (i := 1337) (by decide +kernel)) (by decide +kernel)
theorem kw_1338 : Cond.methodLink "PrivateViews" 292 ⟨"PrivateViews$Questions", "sumOf", "(LPrivateViews$Sheet;LPrivateViews$RowList;I)I"⟩ ∈ jTB := jtb (List.mem_of_getElem? (i := 1338) (by decide +kernel)) (by decide +kernel)
theorem kw_1339 : Cond.instanceMethod ⟨"PrivateViews$Questions", "sumOf", "(LPrivateViews$Sheet;LPrivateViews$RowList;I)I"⟩ ∈ jTB := jtb (List.mem_of_getElem? (i := 1339) (by decide +kernel)) (by decide +kernel)
theorem kw_1340 : Cond.selects "PrivateViews$Questions" ⟨"PrivateViews$Questions", "sumOf", "(LPrivateViews$Sheet;LPrivateViews$RowList;I)I"⟩ ⟨"PrivateViews$Questions", "sumOf", "(LPrivateViews$Sheet;LPrivateViews$RowList;I)I"⟩ ∈ jTB := jtb (List.mem_of_getElem? (i := 1340) (by decide +kernel)) (by decide +kernel)
theorem kw_1341 : Cond.code ⟨"PrivateViews$Questions", "sumOf", "(LPrivateViews$Sheet;LPrivateViews$RowList;I)I"⟩ prog_6_method_15_code 7 (some .int) ∈ jTB := jtb (List.mem_of_getElem? (i := 1341) (by decide +kernel)) (by decide +kernel)
theorem kw_1342 : Cond.methodLink "PrivateViews$Questions" 117 ⟨"PrivateViews$Sheet", "valueAt", "(II)I"⟩ ∈ jTB := jtb (List.mem_of_getElem? (i := 1342) (by decide +kernel)) (by decide +kernel)
theorem kw_1343 : Cond.constant "PrivateViews$Questions" 120 (-1000000) ∈ jTB := jtb (List.mem_of_getElem? (i := 1343) (by decide +kernel)) (by decide +kernel)
theorem kw_1348 : Cond.instanceMethod ⟨"PrivateViews", "kinds", "(II)I"⟩ ∈ jTB := jtb (List.mem_of_getElem? (i := 1348) (by decide +kernel)) (by decide +kernel)
theorem kw_1349 : Cond.selects "PrivateViews" ⟨"PrivateViews", "kinds", "(II)I"⟩ ⟨"PrivateViews", "kinds", "(II)I"⟩ ∈ jTB := jtb (List.mem_of_getElem? (i := 1349) (by decide +kernel)) (by decide +kernel)
theorem kw_1350 : Cond.code ⟨"PrivateViews", "kinds", "(II)I"⟩ prog_1_method_35_code 4 (some .int) ∈ jTB := jtb (List.mem_of_getElem? (i := 1350) (by decide +kernel)) (by decide +kernel)
theorem kw_1351 : Cond.methodLink "PrivateViews" 296 ⟨"PrivateViews$Questions", "groupsOf", "(LPrivateViews$Sheet;LPrivateViews$RowList;I)I"⟩ ∈ jTB := jtb (List.mem_of_getElem? (i := 1351) (by decide +kernel)) (by decide +kernel)
theorem kw_1352 : Cond.instanceMethod ⟨"PrivateViews$Questions", "groupsOf", "(LPrivateViews$Sheet;LPrivateViews$RowList;I)I"⟩ ∈ jTB := jtb (List.mem_of_getElem? (i := 1352) (by decide +kernel)) (by decide +kernel)
theorem kw_1353 : Cond.selects "PrivateViews$Questions" ⟨"PrivateViews$Questions", "groupsOf", "(LPrivateViews$Sheet;LPrivateViews$RowList;I)I"⟩ ⟨"PrivateViews$Questions", "groupsOf", "(LPrivateViews$Sheet;LPrivateViews$RowList;I)I"⟩ ∈ jTB := jtb (List.mem_of_getElem? (i := 1353) (by decide +kernel)) (by decide +kernel)
theorem kw_1354 : Cond.code ⟨"PrivateViews$Questions", "groupsOf", "(LPrivateViews$Sheet;LPrivateViews$RowList;I)I"⟩ prog_6_method_18_code 6 (some .int) ∈ jTB := jtb (List.mem_of_getElem? (i := 1354) (by decide +kernel)) (by decide +kernel)
theorem kw_1355 : Cond.methodLink "PrivateViews$Questions" 125 ⟨"PrivateViews$Questions", "isFirstLike", "(LPrivateViews$Sheet;LPrivateViews$RowList;II)Z"⟩ ∈ jTB := jtb (List.mem_of_getElem? (i := 1355) (by decide +kernel)) (by decide +kernel)
theorem kw_1357 : Cond.instanceMethod ⟨"PrivateViews$Questions", "isFirstLike", "(LPrivateViews$Sheet;LPrivateViews$RowList;II)Z"⟩ ∈ jTB := jtb (List.mem_of_getElem? (i := 1357) (by decide +kernel)) (by decide +kernel)
theorem kw_1358 : Cond.code ⟨"PrivateViews$Questions", "isFirstLike", "(LPrivateViews$Sheet;LPrivateViews$RowList;II)Z"⟩ prog_6_method_17_code 6 (some .boolean) ∈ jTB := jtb (List.mem_of_getElem? (i := 1358) (by decide +kernel)) (by decide +kernel)
theorem kw_1359 : Cond.methodLink "PrivateViews$Questions" 121 ⟨"PrivateViews$Questions", "isAlike", "(LPrivateViews$Sheet;LPrivateViews$RowList;III)Z"⟩ ∈ jTB := jtb (List.mem_of_getElem? (i := 1359) (by decide +kernel)) (by decide +kernel)
theorem kw_1361 : Cond.instanceMethod ⟨"PrivateViews$Questions", "isAlike", "(LPrivateViews$Sheet;LPrivateViews$RowList;III)Z"⟩ ∈ jTB := jtb (List.mem_of_getElem? (i := 1361) (by decide +kernel)) (by decide +kernel)
theorem kw_1362 : Cond.code ⟨"PrivateViews$Questions", "isAlike", "(LPrivateViews$Sheet;LPrivateViews$RowList;III)Z"⟩ prog_6_method_16_code 6 (some .boolean) ∈ jTB := jtb (List.mem_of_getElem? (i := 1362) (by decide +kernel)) (by decide +kernel)
theorem kw_1367 : Cond.instanceMethod ⟨"PrivateViews", "by", "(II)I"⟩ ∈ jTB := jtb (List.mem_of_getElem? (i := 1367) (by decide +kernel)) (by decide +kernel)
theorem kw_1368 : Cond.selects "PrivateViews" ⟨"PrivateViews", "by", "(II)I"⟩ ⟨"PrivateViews", "by", "(II)I"⟩ ∈ jTB := jtb (List.mem_of_getElem? (i := 1368) (by decide +kernel)) (by decide +kernel)
theorem kw_1369 : Cond.code ⟨"PrivateViews", "by", "(II)I"⟩ prog_1_method_36_code 4 (some .int) ∈ jTB := jtb (List.mem_of_getElem? (i := 1369) (by decide +kernel)) (by decide +kernel)
theorem kw_1370 : Cond.methodLink "PrivateViews" 299 ⟨"PrivateViews$Sheet", "writerAt", "(II)I"⟩ ∈ jTB := jtb (List.mem_of_getElem? (i := 1370) (by decide +kernel)) (by decide +kernel)
theorem kw_1371 : Cond.instanceMethod ⟨"PrivateViews$Sheet", "writerAt", "(II)I"⟩ ∈ jTB := jtb (List.mem_of_getElem? (i := 1371) (by decide +kernel)) (by decide +kernel)
theorem kw_1372 : Cond.selects "PrivateViews$Sheet" ⟨"PrivateViews$Sheet", "writerAt", "(II)I"⟩ ⟨"PrivateViews$Sheet", "writerAt", "(II)I"⟩ ∈ jTB := jtb (List.mem_of_getElem? (i := 1372) (by decide +kernel)) (by decide +kernel)
theorem kw_1373 : Cond.code ⟨"PrivateViews$Sheet", "writerAt", "(II)I"⟩ prog_9_method_9_code 3 (some .int) ∈ jTB := jtb (List.mem_of_getElem? (i := 1373) (by decide +kernel)) (by decide +kernel)
theorem kw_1378 : Cond.instanceMethod ⟨"PrivateViews", "group", "(IIII)I"⟩ ∈ jTB := jtb (List.mem_of_getElem? (i := 1378) (by decide +kernel)) (by decide +kernel)
theorem kw_1379 : Cond.selects "PrivateViews" ⟨"PrivateViews", "group", "(IIII)I"⟩ ⟨"PrivateViews", "group", "(IIII)I"⟩ ∈ jTB := jtb (List.mem_of_getElem? (i := 1379) (by decide +kernel)) (by decide +kernel)
theorem kw_1380 : Cond.code ⟨"PrivateViews", "group", "(IIII)I"⟩ prog_1_method_37_code 7 (some .int) ∈ jTB := jtb (List.mem_of_getElem? (i := 1380) (by decide +kernel)) (by decide +kernel)
theorem kw_1381 : Cond.methodLink "PrivateViews" 302 ⟨"PrivateViews", "firstOfGroup", "(LPrivateViews$View;II)I"⟩ ∈ jTB := jtb (List.mem_of_getElem? (i := 1381) (by decide +kernel)) (by decide +kernel)
theorem kw_1383 : Cond.instanceMethod ⟨"PrivateViews", "firstOfGroup", "(LPrivateViews$View;II)I"⟩ ∈ jTB := jtb (List.mem_of_getElem? (i := 1383) (by decide +kernel)) (by decide +kernel)
theorem kw_1384 : Cond.code ⟨"PrivateViews", "firstOfGroup", "(LPrivateViews$View;II)I"⟩ prog_1_method_53_code 5 (some .int) ∈ jTB := jtb (List.mem_of_getElem? (i := 1384) (by decide +kernel)) (by decide +kernel)
theorem kw_1385 : Cond.methodLink "PrivateViews" 362 ⟨"PrivateViews$Questions", "groupStart", "(LPrivateViews$Sheet;LPrivateViews$RowList;II)I"⟩ ∈ jTB := jtb (List.mem_of_getElem? (i := 1385) (by decide +kernel)) (by decide +kernel)
theorem kw_1386 : Cond.instanceMethod ⟨"PrivateViews$Questions", "groupStart", "(LPrivateViews$Sheet;LPrivateViews$RowList;II)I"⟩ ∈ jTB := jtb (List.mem_of_getElem? (i := 1386) (by decide +kernel)) (by decide +kernel)
theorem kw_1387 : Cond.selects "PrivateViews$Questions" ⟨"PrivateViews$Questions", "groupStart", "(LPrivateViews$Sheet;LPrivateViews$RowList;II)I"⟩ ⟨"PrivateViews$Questions", "groupStart", "(LPrivateViews$Sheet;LPrivateViews$RowList;II)I"⟩ ∈ jTB := jtb (List.mem_of_getElem? (i := 1387) (by decide +kernel)) (by decide +kernel)
theorem kw_1388 : Cond.code ⟨"PrivateViews$Questions", "groupStart", "(LPrivateViews$Sheet;LPrivateViews$RowList;II)I"⟩ prog_6_method_19_code 7 (some .int) ∈ jTB := jtb (List.mem_of_getElem? (i := 1388) (by decide +kernel)) (by decide +kernel)
theorem kw_1389 : Cond.methodLink "PrivateViews" 306 ⟨"PrivateViews$Questions", "rowsLike", "(LPrivateViews$Sheet;LPrivateViews$RowList;II)I"⟩ ∈ jTB := jtb (List.mem_of_getElem? (i := 1389) (by decide +kernel)) (by decide +kernel)
theorem kw_1390 : Cond.instanceMethod ⟨"PrivateViews$Questions", "rowsLike", "(LPrivateViews$Sheet;LPrivateViews$RowList;II)I"⟩ ∈ jTB := jtb (List.mem_of_getElem? (i := 1390) (by decide +kernel)) (by decide +kernel)
theorem kw_1391 : Cond.selects "PrivateViews$Questions" ⟨"PrivateViews$Questions", "rowsLike", "(LPrivateViews$Sheet;LPrivateViews$RowList;II)I"⟩ ⟨"PrivateViews$Questions", "rowsLike", "(LPrivateViews$Sheet;LPrivateViews$RowList;II)I"⟩ ∈ jTB := jtb (List.mem_of_getElem? (i := 1391) (by decide +kernel)) (by decide +kernel)
theorem kw_1392 : Cond.code ⟨"PrivateViews$Questions", "rowsLike", "(LPrivateViews$Sheet;LPrivateViews$RowList;II)I"⟩ prog_6_method_20_code 7 (some .int) ∈ jTB := jtb (List.mem_of_getElem? (i := 1392) (by decide +kernel)) (by decide +kernel)
theorem kw_1393 : Cond.methodLink "PrivateViews" 310 ⟨"PrivateViews$Questions", "lastLike", "(LPrivateViews$Sheet;LPrivateViews$RowList;II)I"⟩ ∈ jTB := jtb (List.mem_of_getElem? (i := 1393) (by decide +kernel)) (by decide +kernel)
theorem kw_1394 : Cond.instanceMethod ⟨"PrivateViews$Questions", "lastLike", "(LPrivateViews$Sheet;LPrivateViews$RowList;II)I"⟩ ∈ jTB := jtb (List.mem_of_getElem? (i := 1394) (by decide +kernel)) (by decide +kernel)
theorem kw_1395 : Cond.selects "PrivateViews$Questions" ⟨"PrivateViews$Questions", "lastLike", "(LPrivateViews$Sheet;LPrivateViews$RowList;II)I"⟩ ⟨"PrivateViews$Questions", "lastLike", "(LPrivateViews$Sheet;LPrivateViews$RowList;II)I"⟩ ∈ jTB := jtb (List.mem_of_getElem? (i := 1395) (by decide +kernel)) (by decide +kernel)
theorem kw_1396 : Cond.code ⟨"PrivateViews$Questions", "lastLike", "(LPrivateViews$Sheet;LPrivateViews$RowList;II)I"⟩ prog_6_method_21_code 7 (some .int) ∈ jTB := jtb (List.mem_of_getElem? (i := 1396) (by decide +kernel)) (by decide +kernel)
theorem kw_1401 : Cond.instanceMethod ⟨"PrivateViews", "total", "(IIII)I"⟩ ∈ jTB := jtb (List.mem_of_getElem? (i := 1401) (by decide +kernel)) (by decide +kernel)
theorem kw_1402 : Cond.selects "PrivateViews" ⟨"PrivateViews", "total", "(IIII)I"⟩ ⟨"PrivateViews", "total", "(IIII)I"⟩ ∈ jTB := jtb (List.mem_of_getElem? (i := 1402) (by decide +kernel)) (by decide +kernel)
theorem kw_1403 : Cond.code ⟨"PrivateViews", "total", "(IIII)I"⟩ prog_1_method_38_code 7 (some .int) ∈ jTB := jtb (List.mem_of_getElem? (i := 1403) (by decide +kernel)) (by decide +kernel)
theorem kw_1404 : Cond.methodLink "PrivateViews" 313 ⟨"PrivateViews$Questions", "sumLike", "(LPrivateViews$Sheet;LPrivateViews$RowList;III)I"⟩ ∈ jTB := jtb (List.mem_of_getElem? (i := 1404) (by decide +kernel)) (by decide +kernel)
theorem kw_1405 : Cond.instanceMethod ⟨"PrivateViews$Questions", "sumLike", "(LPrivateViews$Sheet;LPrivateViews$RowList;III)I"⟩ ∈ jTB := jtb (List.mem_of_getElem? (i := 1405) (by decide +kernel)) (by decide +kernel)
theorem kw_1406 : Cond.selects "PrivateViews$Questions" ⟨"PrivateViews$Questions", "sumLike", "(LPrivateViews$Sheet;LPrivateViews$RowList;III)I"⟩ ⟨"PrivateViews$Questions", "sumLike", "(LPrivateViews$Sheet;LPrivateViews$RowList;III)I"⟩ ∈ jTB := jtb (List.mem_of_getElem? (i := 1406) (by decide +kernel)) (by decide +kernel)
theorem kw_1407 : Cond.code ⟨"PrivateViews$Questions", "sumLike", "(LPrivateViews$Sheet;LPrivateViews$RowList;III)I"⟩ prog_6_method_22_code 9 (some .int) ∈ jTB := jtb (List.mem_of_getElem? (i := 1407) (by decide +kernel)) (by decide +kernel)
theorem kw_1412 : Cond.instanceMethod ⟨"PrivateViews", "middle", "(II)I"⟩ ∈ jTB := jtb (List.mem_of_getElem? (i := 1412) (by decide +kernel)) (by decide +kernel)
theorem kw_1413 : Cond.selects "PrivateViews" ⟨"PrivateViews", "middle", "(II)I"⟩ ⟨"PrivateViews", "middle", "(II)I"⟩ ∈ jTB := jtb (List.mem_of_getElem? (i := 1413) (by decide +kernel)) (by decide +kernel)
theorem kw_1414 : Cond.code ⟨"PrivateViews", "middle", "(II)I"⟩ prog_1_method_39_code 4 (some .int) ∈ jTB := jtb (List.mem_of_getElem? (i := 1414) (by decide +kernel)) (by decide +kernel)
theorem kw_1415 : Cond.methodLink "PrivateViews" 317 ⟨"PrivateViews$Questions", "middleOf", "(LPrivateViews$Sheet;LPrivateViews$RowList;I)I"⟩ ∈ jTB := jtb (List.mem_of_getElem? (i := 1415) (by decide +kernel)) (by decide +kernel)
theorem kw_1416 : Cond.instanceMethod ⟨"PrivateViews$Questions", "middleOf", "(LPrivateViews$Sheet;LPrivateViews$RowList;I)I"⟩ ∈ jTB := jtb (List.mem_of_getElem? (i := 1416) (by decide +kernel)) (by decide +kernel)
theorem kw_1417 : Cond.selects "PrivateViews$Questions" ⟨"PrivateViews$Questions", "middleOf", "(LPrivateViews$Sheet;LPrivateViews$RowList;I)I"⟩ ⟨"PrivateViews$Questions", "middleOf", "(LPrivateViews$Sheet;LPrivateViews$RowList;I)I"⟩ ∈ jTB := jtb (List.mem_of_getElem? (i := 1417) (by decide +kernel)) (by decide +kernel)
theorem kw_1418 : Cond.code ⟨"PrivateViews$Questions", "middleOf", "(LPrivateViews$Sheet;LPrivateViews$RowList;I)I"⟩ prog_6_method_23_code 8 (some .int) ∈ jTB := jtb (List.mem_of_getElem? (i := 1418) (by decide +kernel)) (by decide +kernel)
theorem kw_1423 : Cond.instanceMethod ⟨"PrivateViews", "twice", "(I)I"⟩ ∈ jTB := jtb (List.mem_of_getElem? (i := 1423) (by decide +kernel)) (by decide +kernel)
theorem kw_1424 : Cond.selects "PrivateViews" ⟨"PrivateViews", "twice", "(I)I"⟩ ⟨"PrivateViews", "twice", "(I)I"⟩ ∈ jTB := jtb (List.mem_of_getElem? (i := 1424) (by decide +kernel)) (by decide +kernel)
theorem kw_1425 : Cond.code ⟨"PrivateViews", "twice", "(I)I"⟩ prog_1_method_40_code 2 (some .int) ∈ jTB := jtb (List.mem_of_getElem? (i := 1425) (by decide +kernel)) (by decide +kernel)
theorem kw_1426 : Cond.methodLink "PrivateViews" 320 ⟨"PrivateViews$Questions", "repeatedBits", "(LPrivateViews$Sheet;LPrivateViews$View;)I"⟩ ∈ jTB := jtb (List.mem_of_getElem? (i := 1426) (by decide +kernel)) (by decide +kernel)
theorem kw_1427 : Cond.instanceMethod ⟨"PrivateViews$Questions", "repeatedBits", "(LPrivateViews$Sheet;LPrivateViews$View;)I"⟩ ∈ jTB := jtb (List.mem_of_getElem? (i := 1427) (by decide +kernel)) (by decide +kernel)
theorem kw_1428 : Cond.selects "PrivateViews$Questions" ⟨"PrivateViews$Questions", "repeatedBits", "(LPrivateViews$Sheet;LPrivateViews$View;)I"⟩ ⟨"PrivateViews$Questions", "repeatedBits", "(LPrivateViews$Sheet;LPrivateViews$View;)I"⟩ ∈ jTB := jtb (List.mem_of_getElem? (i := 1428) (by decide +kernel)) (by decide +kernel)
theorem kw_1429 : Cond.code ⟨"PrivateViews$Questions", "repeatedBits", "(LPrivateViews$Sheet;LPrivateViews$View;)I"⟩ prog_6_method_24_code 6 (some .int) ∈ jTB := jtb (List.mem_of_getElem? (i := 1429) (by decide +kernel)) (by decide +kernel)
theorem kw_1430 : Cond.methodLink "PrivateViews$Questions" 128 ⟨"PrivateViews$Questions", "isSeenAlike", "(LPrivateViews$Sheet;LPrivateViews$View;II)Z"⟩ ∈ jTB := jtb (List.mem_of_getElem? (i := 1430) (by decide +kernel)) (by decide +kernel)
theorem kw_1432 : Cond.instanceMethod ⟨"PrivateViews$Questions", "isSeenAlike", "(LPrivateViews$Sheet;LPrivateViews$View;II)Z"⟩ ∈ jTB := jtb (List.mem_of_getElem? (i := 1432) (by decide +kernel)) (by decide +kernel)
theorem kw_1433 : Cond.code ⟨"PrivateViews$Questions", "isSeenAlike", "(LPrivateViews$Sheet;LPrivateViews$View;II)Z"⟩ prog_6_method_25_code 6 (some .boolean) ∈ jTB := jtb (List.mem_of_getElem? (i := 1433) (by decide +kernel)) (by decide +kernel)
theorem kw_1434 : Cond.methodLink "PrivateViews$Questions" 132 ⟨"PrivateViews$Lens", "hides", "(I)Z"⟩ ∈ jTB := jtb (List.mem_of_getElem? (i := 1434) (by decide +kernel)) (by decide +kernel)
theorem kw_1439 : Cond.instanceMethod ⟨"PrivateViews", "barred", "(I)I"⟩ ∈ jTB := jtb (List.mem_of_getElem? (i := 1439) (by decide +kernel)) (by decide +kernel)
theorem kw_1440 : Cond.selects "PrivateViews" ⟨"PrivateViews", "barred", "(I)I"⟩ ⟨"PrivateViews", "barred", "(I)I"⟩ ∈ jTB := jtb (List.mem_of_getElem? (i := 1440) (by decide +kernel)) (by decide +kernel)
theorem kw_1441 : Cond.code ⟨"PrivateViews", "barred", "(I)I"⟩ prog_1_method_41_code 3 (some .int) ∈ jTB := jtb (List.mem_of_getElem? (i := 1441) (by decide +kernel)) (by decide +kernel)
theorem kw_1446 : Cond.instanceMethod ⟨"PrivateViews", "find", "(IIII)I"⟩ ∈ jTB := jtb (List.mem_of_getElem? (i := 1446) (by decide +kernel)) (by decide +kernel)
theorem kw_1447 : Cond.selects "PrivateViews" ⟨"PrivateViews", "find", "(IIII)I"⟩ ⟨"PrivateViews", "find", "(IIII)I"⟩ ∈ jTB := jtb (List.mem_of_getElem? (i := 1447) (by decide +kernel)) (by decide +kernel)
theorem kw_1448 : Cond.code ⟨"PrivateViews", "find", "(IIII)I"⟩ prog_1_method_42_code 7 (some .int) ∈ jTB := jtb (List.mem_of_getElem? (i := 1448) (by decide +kernel)) (by decide +kernel)
theorem kw_1453 : Cond.instanceMethod ⟨"PrivateViews", "log", "(II)I"⟩ ∈ jTB := jtb (List.mem_of_getElem? (i := 1453) (by decide +kernel)) (by decide +kernel)
theorem kw_1454 : Cond.selects "PrivateViews" ⟨"PrivateViews", "log", "(II)I"⟩ ⟨"PrivateViews", "log", "(II)I"⟩ ∈ jTB := jtb (List.mem_of_getElem? (i := 1454) (by decide +kernel)) (by decide +kernel)
theorem kw_1455 : Cond.code ⟨"PrivateViews", "log", "(II)I"⟩ prog_1_method_43_code 3 (some .int) ∈ jTB := jtb (List.mem_of_getElem? (i := 1455) (by decide +kernel)) (by decide +kernel)
theorem kw_1456 : Cond.methodLink "PrivateViews" 330 ⟨"PrivateViews$Log", "partOf", "(II)I"⟩ ∈ jTB := jtb (List.mem_of_getElem? (i := 1456) (by decide +kernel)) (by decide +kernel)
theorem kw_1457 : Cond.instanceMethod ⟨"PrivateViews$Log", "partOf", "(II)I"⟩ ∈ jTB := jtb (List.mem_of_getElem? (i := 1457) (by decide +kernel)) (by decide +kernel)
theorem kw_1458 : Cond.selects "PrivateViews$Log" ⟨"PrivateViews$Log", "partOf", "(II)I"⟩ ⟨"PrivateViews$Log", "partOf", "(II)I"⟩ ∈ jTB := jtb (List.mem_of_getElem? (i := 1458) (by decide +kernel)) (by decide +kernel)
theorem kw_1459 : Cond.code ⟨"PrivateViews$Log", "partOf", "(II)I"⟩ prog_5_method_3_code 3 (some .int) ∈ jTB := jtb (List.mem_of_getElem? (i := 1459) (by decide +kernel)) (by decide +kernel)
theorem kw_1460 : Cond.methodLink "PrivateViews$Log" 28 ⟨"java/lang/Math", "floorMod", "(II)I"⟩ ∈ jTB := jtb (List.mem_of_getElem? (i := 1460) (by decide +kernel)) (by decide +kernel)
theorem kw_1464 : Cond.instanceMethod ⟨"PrivateViewsModel", "thrown", "()I"⟩ ∈ jTB := jtb (List.mem_of_getElem? (i := 1464) (by decide +kernel)) (by decide +kernel)
theorem kw_1465 : Cond.selects "PrivateViewsModel" ⟨"PrivateViewsModel", "thrown", "()I"⟩ ⟨"PrivateViewsModel", "thrown", "()I"⟩ ∈ jTB := jtb (List.mem_of_getElem? (i := 1465) (by decide +kernel)) (by decide +kernel)
theorem kw_1466 : Cond.code ⟨"PrivateViewsModel", "thrown", "()I"⟩ prog_14_method_1_code 1 (some .int) ∈ jTB := jtb (List.mem_of_getElem? (i := 1466) (by decide +kernel)) (by decide +kernel)
theorem kw_1473 : Cond.fieldLink "PrivateViewsModel" 3 "PrivateViewsModel" "thrown" "I" ∈ jTB := jtb (List.mem_of_getElem? (i := 1473) (by decide +kernel)) (by decide +kernel)
theorem kw_1474 : Cond.fieldLink "PrivateViewsModel" 13 "PrivateViewsModel" "world" "[I" ∈ jTB := jtb (List.mem_of_getElem? (i := 1474) (by decide +kernel)) (by decide +kernel)
theorem kw_1475 : Cond.fieldLink "PrivateViewsModel" 17 "PrivateViewsModel" "image" "[I" ∈ jTB := jtb (List.mem_of_getElem? (i := 1475) (by decide +kernel)) (by decide +kernel)
theorem kw_1476 : Cond.fieldLink "PrivateViewsModel" 20 "PrivateViewsModel" "earlier" "[I" ∈ jTB := jtb (List.mem_of_getElem? (i := 1476) (by decide +kernel)) (by decide +kernel)
theorem kw_1477 : Cond.fieldLink "PrivateViewsModel" 48 "PrivateViewsModel" "hasImage" "Z" ∈ jTB := jtb (List.mem_of_getElem? (i := 1477) (by decide +kernel)) (by decide +kernel)
theorem kw_1478 : Cond.fieldLink "PrivateViewsModel" 23 "PrivateViewsModel" "tape" "[B" ∈ jTB := jtb (List.mem_of_getElem? (i := 1478) (by decide +kernel)) (by decide +kernel)
theorem kw_1479 : Cond.fieldLink "PrivateViewsModel" 85 "PrivateViewsModel" "taped" "I" ∈ jTB := jtb (List.mem_of_getElem? (i := 1479) (by decide +kernel)) (by decide +kernel)
theorem kw_1480 : Cond.fieldLink "PrivateViewsModel" 91 "PrivateViewsModel" "point" "I" ∈ jTB := jtb (List.mem_of_getElem? (i := 1480) (by decide +kernel)) (by decide +kernel)
theorem kw_1481 : Cond.fieldLink "PrivateViewsModel" 88 "PrivateViewsModel" "end" "I" ∈ jTB := jtb (List.mem_of_getElem? (i := 1481) (by decide +kernel)) (by decide +kernel)
theorem kw_1482 : Cond.fieldLink "PrivateViewsModel" 98 "PrivateViewsModel" "begin" "I" ∈ jTB := jtb (List.mem_of_getElem? (i := 1482) (by decide +kernel)) (by decide +kernel)
theorem kw_1483 : Cond.fieldLink "PrivateViewsModel" 120 "PrivateViewsModel" "read" "I" ∈ jTB := jtb (List.mem_of_getElem? (i := 1483) (by decide +kernel)) (by decide +kernel)
theorem kw_1484 : Cond.fieldLink "PrivateViewsModel" 27 "PrivateViewsModel" "faultAt" "I" ∈ jTB := jtb (List.mem_of_getElem? (i := 1484) (by decide +kernel)) (by decide +kernel)
theorem kw_1485 : Cond.fieldLink "PrivateViewsModel" 30 "PrivateViewsModel" "five" "[I" ∈ jTB := jtb (List.mem_of_getElem? (i := 1485) (by decide +kernel)) (by decide +kernel)
theorem kw_1486 : Cond.fieldLink "PrivateViewsModel" 33 "PrivateViewsModel" "fresh" "[I" ∈ jTB := jtb (List.mem_of_getElem? (i := 1486) (by decide +kernel)) (by decide +kernel)
theorem kw_1487 : Cond.fieldLink "PrivateViewsModel" 36 "PrivateViewsModel" "draft" "[I" ∈ jTB := jtb (List.mem_of_getElem? (i := 1487) (by decide +kernel)) (by decide +kernel)
theorem kw_1488 : Cond.fieldLink "PrivateViewsModel" 39 "PrivateViewsModel" "grid" "[I" ∈ jTB := jtb (List.mem_of_getElem? (i := 1488) (by decide +kernel)) (by decide +kernel)
theorem kw_1489 : Cond.fieldLink "PrivateViewsModel" 314 "PrivateViewsModel" "grids" "I" ∈ jTB := jtb (List.mem_of_getElem? (i := 1489) (by decide +kernel)) (by decide +kernel)
theorem kw_1490 : Cond.fieldLink "PrivateViewsModel" 42 "PrivateViewsModel" "rising" "[I" ∈ jTB := jtb (List.mem_of_getElem? (i := 1490) (by decide +kernel)) (by decide +kernel)
theorem kw_1491 : Cond.fieldLink "PrivateViewsModel" 45 "PrivateViewsModel" "tried" "[I" ∈ jTB := jtb (List.mem_of_getElem? (i := 1491) (by decide +kernel)) (by decide +kernel)
theorem kw_1532 : Cond.instanceMethod ⟨"PrivateViewsModel", "image", "()V"⟩ ∈ jTB := jtb (List.mem_of_getElem? (i := 1532) (by decide +kernel)) (by decide +kernel)
theorem kw_1533 : Cond.selects "PrivateViewsModel" ⟨"PrivateViewsModel", "image", "()V"⟩ ⟨"PrivateViewsModel", "image", "()V"⟩ ∈ jTB := jtb (List.mem_of_getElem? (i := 1533) (by decide +kernel)) (by decide +kernel)
theorem kw_1534 : Cond.code ⟨"PrivateViewsModel", "image", "()V"⟩ prog_14_method_6_code 2 none ∈ jTB := jtb (List.mem_of_getElem? (i := 1534) (by decide +kernel)) (by decide +kernel)
theorem kw_1536 : Cond.instanceMethod ⟨"PrivateViewsModel", "back", "()Z"⟩ ∈ jTB := jtb (List.mem_of_getElem? (i := 1536) (by decide +kernel)) (by decide +kernel)
theorem kw_1537 : Cond.selects "PrivateViewsModel" ⟨"PrivateViewsModel", "back", "()Z"⟩ ⟨"PrivateViewsModel", "back", "()Z"⟩ ∈ jTB := jtb (List.mem_of_getElem? (i := 1537) (by decide +kernel)) (by decide +kernel)
theorem kw_1538 : Cond.code ⟨"PrivateViewsModel", "back", "()Z"⟩ prog_14_method_7_code 2 (some .boolean) ∈ jTB := jtb (List.mem_of_getElem? (i := 1538) (by decide +kernel)) (by decide +kernel)
theorem kw_1540 : Cond.instanceMethod ⟨"PrivateViewsModel", "feed", "(IIIII)I"⟩ ∈ jTB := jtb (List.mem_of_getElem? (i := 1540) (by decide +kernel)) (by decide +kernel)
theorem kw_1541 : Cond.selects "PrivateViewsModel" ⟨"PrivateViewsModel", "feed", "(IIIII)I"⟩ ⟨"PrivateViewsModel", "feed", "(IIIII)I"⟩ ∈ jTB := jtb (List.mem_of_getElem? (i := 1541) (by decide +kernel)) (by decide +kernel)
theorem kw_1542 : Cond.code ⟨"PrivateViewsModel", "feed", "(IIIII)I"⟩ prog_14_method_27_code 7 (some .int) ∈ jTB := jtb (List.mem_of_getElem? (i := 1542) (by decide +kernel)) (by decide +kernel)
theorem kw_1544 : Cond.instanceMethod ⟨"PrivateViewsModel", "end", "(I)Z"⟩ ∈ jTB := jtb (List.mem_of_getElem? (i := 1544) (by decide +kernel)) (by decide +kernel)
theorem kw_1545 : Cond.selects "PrivateViewsModel" ⟨"PrivateViewsModel", "end", "(I)Z"⟩ ⟨"PrivateViewsModel", "end", "(I)Z"⟩ ∈ jTB := jtb (List.mem_of_getElem? (i := 1545) (by decide +kernel)) (by decide +kernel)
theorem kw_1546 : Cond.code ⟨"PrivateViewsModel", "end", "(I)Z"⟩ prog_14_method_28_code 2 (some .boolean) ∈ jTB := jtb (List.mem_of_getElem? (i := 1546) (by decide +kernel)) (by decide +kernel)
theorem kw_1548 : Cond.instanceMethod ⟨"PrivateViewsModel", "fault", "()I"⟩ ∈ jTB := jtb (List.mem_of_getElem? (i := 1548) (by decide +kernel)) (by decide +kernel)
theorem kw_1549 : Cond.selects "PrivateViewsModel" ⟨"PrivateViewsModel", "fault", "()I"⟩ ⟨"PrivateViewsModel", "fault", "()I"⟩ ∈ jTB := jtb (List.mem_of_getElem? (i := 1549) (by decide +kernel)) (by decide +kernel)
theorem kw_1550 : Cond.code ⟨"PrivateViewsModel", "fault", "()I"⟩ prog_14_method_39_code 1 (some .int) ∈ jTB := jtb (List.mem_of_getElem? (i := 1550) (by decide +kernel)) (by decide +kernel)
theorem kw_1552 : Cond.instanceMethod ⟨"PrivateViewsModel", "sheet", "()I"⟩ ∈ jTB := jtb (List.mem_of_getElem? (i := 1552) (by decide +kernel)) (by decide +kernel)
theorem kw_1553 : Cond.selects "PrivateViewsModel" ⟨"PrivateViewsModel", "sheet", "()I"⟩ ⟨"PrivateViewsModel", "sheet", "()I"⟩ ∈ jTB := jtb (List.mem_of_getElem? (i := 1553) (by decide +kernel)) (by decide +kernel)
theorem kw_1554 : Cond.code ⟨"PrivateViewsModel", "sheet", "()I"⟩ prog_14_method_46_code 1 (some .int) ∈ jTB := jtb (List.mem_of_getElem? (i := 1554) (by decide +kernel)) (by decide +kernel)
theorem kw_1555 : Cond.methodLink "PrivateViewsModel" 172 ⟨"PrivateViewsModel", "uses", "()V"⟩ ∈ jTB := jtb (List.mem_of_getElem? (i := 1555) (by decide +kernel)) (by decide +kernel)
theorem kw_1557 : Cond.instanceMethod ⟨"PrivateViewsModel", "uses", "()V"⟩ ∈ jTB := jtb (List.mem_of_getElem? (i := 1557) (by decide +kernel)) (by decide +kernel)
theorem kw_1558 : Cond.code ⟨"PrivateViewsModel", "uses", "()V"⟩ prog_14_method_29_code 1 none ∈ jTB := jtb (List.mem_of_getElem? (i := 1558) (by decide +kernel)) (by decide +kernel)
theorem kw_1559 : Cond.methodLink "PrivateViewsModel" 175 ⟨"PrivateViewsModel", "keepsAll", "()V"⟩ ∈ jTB := jtb (List.mem_of_getElem? (i := 1559) (by decide +kernel)) (by decide +kernel)
theorem kw_1561 : Cond.instanceMethod ⟨"PrivateViewsModel", "keepsAll", "()V"⟩ ∈ jTB := jtb (List.mem_of_getElem? (i := 1561) (by decide +kernel)) (by decide +kernel)
theorem kw_1562 : Cond.code ⟨"PrivateViewsModel", "keepsAll", "()V"⟩ prog_14_method_8_code 2 none ∈ jTB := jtb (List.mem_of_getElem? (i := 1562) (by decide +kernel)) (by decide +kernel)
theorem kw_1563 : Cond.methodLink "PrivateViewsModel" 178 ⟨"PrivateViewsModel", "readSheet", "()Z"⟩ ∈ jTB := jtb (List.mem_of_getElem? (i := 1563) (by decide +kernel)) (by decide +kernel)
theorem kw_1565 : Cond.instanceMethod ⟨"PrivateViewsModel", "readSheet", "()Z"⟩ ∈ jTB := jtb (List.mem_of_getElem? (i := 1565) (by decide +kernel)) (by decide +kernel)
theorem kw_1566 : Cond.code ⟨"PrivateViewsModel", "readSheet", "()Z"⟩ prog_14_method_44_code 2 (some .boolean) ∈ jTB := jtb (List.mem_of_getElem? (i := 1566) (by decide +kernel)) (by decide +kernel)
theorem kw_1567 : Cond.methodLink "PrivateViewsModel" 101 ⟨"PrivateViewsModel", "blanks", "()V"⟩ ∈ jTB := jtb (List.mem_of_getElem? (i := 1567) (by decide +kernel)) (by decide +kernel)
theorem kw_1569 : Cond.instanceMethod ⟨"PrivateViewsModel", "blanks", "()V"⟩ ∈ jTB := jtb (List.mem_of_getElem? (i := 1569) (by decide +kernel)) (by decide +kernel)
theorem kw_1570 : Cond.code ⟨"PrivateViewsModel", "blanks", "()V"⟩ prog_14_method_31_code 1 none ∈ jTB := jtb (List.mem_of_getElem? (i := 1570) (by decide +kernel)) (by decide +kernel)
theorem kw_1571 : Cond.methodLink "PrivateViewsModel" 94 ⟨"PrivateViewsModel", "isAt", "(II)Z"⟩ ∈ jTB := jtb (List.mem_of_getElem? (i := 1571) (by decide +kernel)) (by decide +kernel)
theorem kw_1573 : Cond.instanceMethod ⟨"PrivateViewsModel", "isAt", "(II)Z"⟩ ∈ jTB := jtb (List.mem_of_getElem? (i := 1573) (by decide +kernel)) (by decide +kernel)
theorem kw_1574 : Cond.code ⟨"PrivateViewsModel", "isAt", "(II)Z"⟩ prog_14_method_30_code 3 (some .boolean) ∈ jTB := jtb (List.mem_of_getElem? (i := 1574) (by decide +kernel)) (by decide +kernel)
theorem kw_1575 : Cond.methodLink "PrivateViewsModel" 113 ⟨"PrivateViewsModel", "letters", "()V"⟩ ∈ jTB := jtb (List.mem_of_getElem? (i := 1575) (by decide +kernel)) (by decide +kernel)
theorem kw_1577 : Cond.instanceMethod ⟨"PrivateViewsModel", "letters", "()V"⟩ ∈ jTB := jtb (List.mem_of_getElem? (i := 1577) (by decide +kernel)) (by decide +kernel)
theorem kw_1578 : Cond.code ⟨"PrivateViewsModel", "letters", "()V"⟩ prog_14_method_32_code 1 none ∈ jTB := jtb (List.mem_of_getElem? (i := 1578) (by decide +kernel)) (by decide +kernel)
theorem kw_1580 : Cond.methodLink "PrivateViewsModel" 116 ⟨"PrivateViewsModel", "isWord", "(Ljava/lang/String;)Z"⟩ ∈ jTB := jtb (List.mem_of_getElem? (i := 1580) (by decide +kernel)) (by decide +kernel)
theorem kw_1582 : Cond.instanceMethod ⟨"PrivateViewsModel", "isWord", "(Ljava/lang/String;)Z"⟩ ∈ jTB := jtb (List.mem_of_getElem? (i := 1582) (by decide +kernel)) (by decide +kernel)
theorem kw_1583 : Cond.code ⟨"PrivateViewsModel", "isWord", "(Ljava/lang/String;)Z"⟩ prog_14_method_33_code 4 (some .boolean) ∈ jTB := jtb (List.mem_of_getElem? (i := 1583) (by decide +kernel)) (by decide +kernel)
theorem kw_1584 : Cond.methodLink "PrivateViewsModel" 104 ⟨"java/lang/String", "length", "()I"⟩ ∈ jTB := jtb (List.mem_of_getElem? (i := 1584) (by decide +kernel)) (by decide +kernel)
theorem kw_1585 : Cond.methodLink "PrivateViewsModel" 109 ⟨"java/lang/String", "charAt", "(I)C"⟩ ∈ jTB := jtb (List.mem_of_getElem? (i := 1585) (by decide +kernel)) (by decide +kernel)
theorem kw_1586 : Cond.methodLink "PrivateViewsModel" 161 ⟨"PrivateViewsModel", "readColumns", "()Z"⟩ ∈ jTB := jtb (List.mem_of_getElem? (i := 1586) (by decide +kernel)) (by decide +kernel)
theorem kw_1588 : Cond.instanceMethod ⟨"PrivateViewsModel", "readColumns", "()Z"⟩ ∈ jTB := jtb (List.mem_of_getElem? (i := 1588) (by decide +kernel)) (by decide +kernel)
theorem kw_1589 : Cond.code ⟨"PrivateViewsModel", "readColumns", "()Z"⟩ prog_14_method_42_code 3 (some .boolean) ∈ jTB := jtb (List.mem_of_getElem? (i := 1589) (by decide +kernel)) (by decide +kernel)
theorem kw_1590 : Cond.methodLink "PrivateViewsModel" 60 ⟨"PrivateViewsModel", "columns", "()I"⟩ ∈ jTB := jtb (List.mem_of_getElem? (i := 1590) (by decide +kernel)) (by decide +kernel)
theorem kw_1592 : Cond.instanceMethod ⟨"PrivateViewsModel", "columns", "()I"⟩ ∈ jTB := jtb (List.mem_of_getElem? (i := 1592) (by decide +kernel)) (by decide +kernel)
theorem kw_1593 : Cond.code ⟨"PrivateViewsModel", "columns", "()I"⟩ prog_14_method_10_code 1 (some .int) ∈ jTB := jtb (List.mem_of_getElem? (i := 1593) (by decide +kernel)) (by decide +kernel)
theorem kw_1596 : Cond.methodLink "PrivateViewsModel" 140 ⟨"PrivateViewsModel", "isLetter", "()Z"⟩ ∈ jTB := jtb (List.mem_of_getElem? (i := 1596) (by decide +kernel)) (by decide +kernel)
theorem kw_1598 : Cond.instanceMethod ⟨"PrivateViewsModel", "isLetter", "()Z"⟩ ∈ jTB := jtb (List.mem_of_getElem? (i := 1598) (by decide +kernel)) (by decide +kernel)
theorem kw_1599 : Cond.code ⟨"PrivateViewsModel", "isLetter", "()Z"⟩ prog_14_method_41_code 1 (some .boolean) ∈ jTB := jtb (List.mem_of_getElem? (i := 1599) (by decide +kernel)) (by decide +kernel)
theorem kw_1601 : Cond.methodLink "PrivateViewsModel" 166 ⟨"PrivateViewsModel", "readRow", "()Z"⟩ ∈ jTB := jtb (List.mem_of_getElem? (i := 1601) (by decide +kernel)) (by decide +kernel)
theorem kw_1603 : Cond.instanceMethod ⟨"PrivateViewsModel", "readRow", "()Z"⟩ ∈ jTB := jtb (List.mem_of_getElem? (i := 1603) (by decide +kernel)) (by decide +kernel)
theorem kw_1604 : Cond.code ⟨"PrivateViewsModel", "readRow", "()Z"⟩ prog_14_method_43_code 3 (some .boolean) ∈ jTB := jtb (List.mem_of_getElem? (i := 1604) (by decide +kernel)) (by decide +kernel)
theorem kw_1605 : Cond.methodLink "PrivateViewsModel" 144 ⟨"PrivateViewsModel", "rows", "()I"⟩ ∈ jTB := jtb (List.mem_of_getElem? (i := 1605) (by decide +kernel)) (by decide +kernel)
theorem kw_1607 : Cond.instanceMethod ⟨"PrivateViewsModel", "rows", "()I"⟩ ∈ jTB := jtb (List.mem_of_getElem? (i := 1607) (by decide +kernel)) (by decide +kernel)
theorem kw_1608 : Cond.code ⟨"PrivateViewsModel", "rows", "()I"⟩ prog_14_method_16_code 1 (some .int) ∈ jTB := jtb (List.mem_of_getElem? (i := 1608) (by decide +kernel)) (by decide +kernel)
theorem kw_1609 : Cond.methodLink "PrivateViewsModel" 64 ⟨"PrivateViewsModel", "size", "(I)I"⟩ ∈ jTB := jtb (List.mem_of_getElem? (i := 1609) (by decide +kernel)) (by decide +kernel)
theorem kw_1611 : Cond.instanceMethod ⟨"PrivateViewsModel", "size", "(I)I"⟩ ∈ jTB := jtb (List.mem_of_getElem? (i := 1611) (by decide +kernel)) (by decide +kernel)
theorem kw_1612 : Cond.code ⟨"PrivateViewsModel", "size", "(I)I"⟩ prog_14_method_15_code 2 (some .int) ∈ jTB := jtb (List.mem_of_getElem? (i := 1612) (by decide +kernel)) (by decide +kernel)
theorem kw_1613 : Cond.methodLink "PrivateViewsModel" 147 ⟨"PrivateViewsModel", "comes", "()I"⟩ ∈ jTB := jtb (List.mem_of_getElem? (i := 1613) (by decide +kernel)) (by decide +kernel)
theorem kw_1615 : Cond.instanceMethod ⟨"PrivateViewsModel", "comes", "()I"⟩ ∈ jTB := jtb (List.mem_of_getElem? (i := 1615) (by decide +kernel)) (by decide +kernel)
theorem kw_1616 : Cond.code ⟨"PrivateViewsModel", "comes", "()I"⟩ prog_14_method_25_code 4 (some .int) ∈ jTB := jtb (List.mem_of_getElem? (i := 1616) (by decide +kernel)) (by decide +kernel)
theorem kw_1617 : Cond.constant "PrivateViewsModel" 84 (-1000000) ∈ jTB := jtb (List.mem_of_getElem? (i := 1617) (by decide +kernel)) (by decide +kernel)
theorem kw_1618 : Cond.methodLink "PrivateViewsModel" 150 ⟨"PrivateViewsModel", "aValue", "(I)Z"⟩ ∈ jTB := jtb (List.mem_of_getElem? (i := 1618) (by decide +kernel)) (by decide +kernel)
theorem kw_1620 : Cond.instanceMethod ⟨"PrivateViewsModel", "aValue", "(I)Z"⟩ ∈ jTB := jtb (List.mem_of_getElem? (i := 1620) (by decide +kernel)) (by decide +kernel)
theorem kw_1621 : Cond.code ⟨"PrivateViewsModel", "aValue", "(I)Z"⟩ prog_14_method_40_code 4 (some .boolean) ∈ jTB := jtb (List.mem_of_getElem? (i := 1621) (by decide +kernel)) (by decide +kernel)
theorem kw_1622 : Cond.methodLink "PrivateViewsModel" 126 ⟨"PrivateViewsModel", "sign", "(I)Z"⟩ ∈ jTB := jtb (List.mem_of_getElem? (i := 1622) (by decide +kernel)) (by decide +kernel)
theorem kw_1624 : Cond.instanceMethod ⟨"PrivateViewsModel", "sign", "(I)Z"⟩ ∈ jTB := jtb (List.mem_of_getElem? (i := 1624) (by decide +kernel)) (by decide +kernel)
theorem kw_1625 : Cond.code ⟨"PrivateViewsModel", "sign", "(I)Z"⟩ prog_14_method_35_code 2 (some .boolean) ∈ jTB := jtb (List.mem_of_getElem? (i := 1625) (by decide +kernel)) (by decide +kernel)
theorem kw_1626 : Cond.methodLink "PrivateViewsModel" 130 ⟨"PrivateViewsModel", "isWords", "(I)Z"⟩ ∈ jTB := jtb (List.mem_of_getElem? (i := 1626) (by decide +kernel)) (by decide +kernel)
theorem kw_1628 : Cond.instanceMethod ⟨"PrivateViewsModel", "isWords", "(I)Z"⟩ ∈ jTB := jtb (List.mem_of_getElem? (i := 1628) (by decide +kernel)) (by decide +kernel)
theorem kw_1629 : Cond.code ⟨"PrivateViewsModel", "isWords", "(I)Z"⟩ prog_14_method_26_code 2 (some .boolean) ∈ jTB := jtb (List.mem_of_getElem? (i := 1629) (by decide +kernel)) (by decide +kernel)
theorem kw_1630 : Cond.methodLink "PrivateViewsModel" 133 ⟨"PrivateViewsModel", "signed", "(I)Z"⟩ ∈ jTB := jtb (List.mem_of_getElem? (i := 1630) (by decide +kernel)) (by decide +kernel)
theorem kw_1632 : Cond.instanceMethod ⟨"PrivateViewsModel", "signed", "(I)Z"⟩ ∈ jTB := jtb (List.mem_of_getElem? (i := 1632) (by decide +kernel)) (by decide +kernel)
theorem kw_1633 : Cond.code ⟨"PrivateViewsModel", "signed", "(I)Z"⟩ prog_14_method_38_code 3 (some .boolean) ∈ jTB := jtb (List.mem_of_getElem? (i := 1633) (by decide +kernel)) (by decide +kernel)
theorem kw_1634 : Cond.methodLink "PrivateViewsModel" 123 ⟨"PrivateViewsModel", "figures", "(III)Z"⟩ ∈ jTB := jtb (List.mem_of_getElem? (i := 1634) (by decide +kernel)) (by decide +kernel)
theorem kw_1636 : Cond.instanceMethod ⟨"PrivateViewsModel", "figures", "(III)Z"⟩ ∈ jTB := jtb (List.mem_of_getElem? (i := 1636) (by decide +kernel)) (by decide +kernel)
theorem kw_1637 : Cond.code ⟨"PrivateViewsModel", "figures", "(III)Z"⟩ prog_14_method_36_code 6 (some .boolean) ∈ jTB := jtb (List.mem_of_getElem? (i := 1637) (by decide +kernel)) (by decide +kernel)
theorem kw_1638 : Cond.methodLink "PrivateViewsModel" 56 ⟨"PrivateViewsModel", "in", "(III)Z"⟩ ∈ jTB := jtb (List.mem_of_getElem? (i := 1638) (by decide +kernel)) (by decide +kernel)
theorem kw_1639 : Cond.static ⟨"PrivateViewsModel", "in", "(III)Z"⟩ ∈ jTB := jtb (List.mem_of_getElem? (i := 1639) (by decide +kernel)) (by decide +kernel)
theorem kw_1640 : Cond.code ⟨"PrivateViewsModel", "in", "(III)Z"⟩ prog_14_method_3_code 3 (some .boolean) ∈ jTB := jtb (List.mem_of_getElem? (i := 1640) (by decide +kernel)) (by decide +kernel)
theorem kw_1641 : Cond.methodLink "PrivateViewsModel" 81 ⟨"PrivateViewsModel", "rowOf", "(I)I"⟩ ∈ jTB := jtb (List.mem_of_getElem? (i := 1641) (by decide +kernel)) (by decide +kernel)
theorem kw_1643 : Cond.instanceMethod ⟨"PrivateViewsModel", "rowOf", "(I)I"⟩ ∈ jTB := jtb (List.mem_of_getElem? (i := 1643) (by decide +kernel)) (by decide +kernel)
theorem kw_1644 : Cond.code ⟨"PrivateViewsModel", "rowOf", "(I)I"⟩ prog_14_method_23_code 3 (some .int) ∈ jTB := jtb (List.mem_of_getElem? (i := 1644) (by decide +kernel)) (by decide +kernel)
theorem kw_1645 : Cond.methodLink "PrivateViewsModel" 153 ⟨"PrivateViewsModel", "putsLast", "(II)V"⟩ ∈ jTB := jtb (List.mem_of_getElem? (i := 1645) (by decide +kernel)) (by decide +kernel)
theorem kw_1647 : Cond.instanceMethod ⟨"PrivateViewsModel", "putsLast", "(II)V"⟩ ∈ jTB := jtb (List.mem_of_getElem? (i := 1647) (by decide +kernel)) (by decide +kernel)
theorem kw_1648 : Cond.code ⟨"PrivateViewsModel", "putsLast", "(II)V"⟩ prog_14_method_21_code 3 none ∈ jTB := jtb (List.mem_of_getElem? (i := 1648) (by decide +kernel)) (by decide +kernel)
theorem kw_1649 : Cond.methodLink "PrivateViewsModel" 74 ⟨"PrivateViewsModel", "puts", "(III)V"⟩ ∈ jTB := jtb (List.mem_of_getElem? (i := 1649) (by decide +kernel)) (by decide +kernel)
theorem kw_1651 : Cond.instanceMethod ⟨"PrivateViewsModel", "puts", "(III)V"⟩ ∈ jTB := jtb (List.mem_of_getElem? (i := 1651) (by decide +kernel)) (by decide +kernel)
theorem kw_1652 : Cond.code ⟨"PrivateViewsModel", "puts", "(III)V"⟩ prog_14_method_20_code 5 none ∈ jTB := jtb (List.mem_of_getElem? (i := 1652) (by decide +kernel)) (by decide +kernel)
theorem kw_1653 : Cond.methodLink "PrivateViewsModel" 157 ⟨"PrivateViewsModel", "isFit", "(II)Z"⟩ ∈ jTB := jtb (List.mem_of_getElem? (i := 1653) (by decide +kernel)) (by decide +kernel)
theorem kw_1655 : Cond.instanceMethod ⟨"PrivateViewsModel", "isFit", "(II)Z"⟩ ∈ jTB := jtb (List.mem_of_getElem? (i := 1655) (by decide +kernel)) (by decide +kernel)
theorem kw_1656 : Cond.code ⟨"PrivateViewsModel", "isFit", "(II)Z"⟩ prog_14_method_62_code 3 (some .boolean) ∈ jTB := jtb (List.mem_of_getElem? (i := 1656) (by decide +kernel)) (by decide +kernel)
theorem kw_1657 : Cond.methodLink "PrivateViewsModel" 260 ⟨"PrivateViewsModel", "whyNot", "(II)I"⟩ ∈ jTB := jtb (List.mem_of_getElem? (i := 1657) (by decide +kernel)) (by decide +kernel)
theorem kw_1659 : Cond.instanceMethod ⟨"PrivateViewsModel", "whyNot", "(II)I"⟩ ∈ jTB := jtb (List.mem_of_getElem? (i := 1659) (by decide +kernel)) (by decide +kernel)
theorem kw_1660 : Cond.code ⟨"PrivateViewsModel", "whyNot", "(II)I"⟩ prog_14_method_61_code 4 (some .int) ∈ jTB := jtb (List.mem_of_getElem? (i := 1660) (by decide +kernel)) (by decide +kernel)
theorem kw_1661 : Cond.methodLink "PrivateViewsModel" 257 ⟨"PrivateViewsModel", "isAsFilter", "(III)Z"⟩ ∈ jTB := jtb (List.mem_of_getElem? (i := 1661) (by decide +kernel)) (by decide +kernel)
theorem kw_1663 : Cond.instanceMethod ⟨"PrivateViewsModel", "isAsFilter", "(III)Z"⟩ ∈ jTB := jtb (List.mem_of_getElem? (i := 1663) (by decide +kernel)) (by decide +kernel)
theorem kw_1664 : Cond.code ⟨"PrivateViewsModel", "isAsFilter", "(III)Z"⟩ prog_14_method_60_code 7 (some .boolean) ∈ jTB := jtb (List.mem_of_getElem? (i := 1664) (by decide +kernel)) (by decide +kernel)
theorem kw_1665 : Cond.methodLink "PrivateViewsModel" 189 ⟨"PrivateViewsModel", "filterAt", "(II)I"⟩ ∈ jTB := jtb (List.mem_of_getElem? (i := 1665) (by decide +kernel)) (by decide +kernel)
theorem kw_1666 : Cond.static ⟨"PrivateViewsModel", "filterAt", "(II)I"⟩ ∈ jTB := jtb (List.mem_of_getElem? (i := 1666) (by decide +kernel)) (by decide +kernel)
theorem kw_1667 : Cond.code ⟨"PrivateViewsModel", "filterAt", "(II)I"⟩ prog_14_method_47_code 2 (some .int) ∈ jTB := jtb (List.mem_of_getElem? (i := 1667) (by decide +kernel)) (by decide +kernel)
theorem kw_1668 : Cond.methodLink "PrivateViewsModel" 52 ⟨"PrivateViewsModel", "viewAt", "(II)I"⟩ ∈ jTB := jtb (List.mem_of_getElem? (i := 1668) (by decide +kernel)) (by decide +kernel)
theorem kw_1669 : Cond.static ⟨"PrivateViewsModel", "viewAt", "(II)I"⟩ ∈ jTB := jtb (List.mem_of_getElem? (i := 1669) (by decide +kernel)) (by decide +kernel)
theorem kw_1670 : Cond.code ⟨"PrivateViewsModel", "viewAt", "(II)I"⟩ prog_14_method_11_code 2 (some .int) ∈ jTB := jtb (List.mem_of_getElem? (i := 1670) (by decide +kernel)) (by decide +kernel)
theorem kw_1671 : Cond.methodLink "PrivateViewsModel" 251 ⟨"PrivateViewsModel", "cellOf", "(II)I"⟩ ∈ jTB := jtb (List.mem_of_getElem? (i := 1671) (by decide +kernel)) (by decide +kernel)
theorem kw_1673 : Cond.instanceMethod ⟨"PrivateViewsModel", "cellOf", "(II)I"⟩ ∈ jTB := jtb (List.mem_of_getElem? (i := 1673) (by decide +kernel)) (by decide +kernel)
theorem kw_1674 : Cond.code ⟨"PrivateViewsModel", "cellOf", "(II)I"⟩ prog_14_method_24_code 3 (some .int) ∈ jTB := jtb (List.mem_of_getElem? (i := 1674) (by decide +kernel)) (by decide +kernel)
theorem kw_1675 : Cond.methodLink "PrivateViewsModel" 217 ⟨"PrivateViewsModel", "testAt", "(III)I"⟩ ∈ jTB := jtb (List.mem_of_getElem? (i := 1675) (by decide +kernel)) (by decide +kernel)
theorem kw_1676 : Cond.static ⟨"PrivateViewsModel", "testAt", "(III)I"⟩ ∈ jTB := jtb (List.mem_of_getElem? (i := 1676) (by decide +kernel)) (by decide +kernel)
theorem kw_1677 : Cond.code ⟨"PrivateViewsModel", "testAt", "(III)I"⟩ prog_14_method_48_code 3 (some .int) ∈ jTB := jtb (List.mem_of_getElem? (i := 1677) (by decide +kernel)) (by decide +kernel)
theorem kw_1678 : Cond.methodLink "PrivateViewsModel" 254 ⟨"PrivateViewsModel", "isAsTest", "(II)Z"⟩ ∈ jTB := jtb (List.mem_of_getElem? (i := 1678) (by decide +kernel)) (by decide +kernel)
theorem kw_1680 : Cond.instanceMethod ⟨"PrivateViewsModel", "isAsTest", "(II)Z"⟩ ∈ jTB := jtb (List.mem_of_getElem? (i := 1680) (by decide +kernel)) (by decide +kernel)
theorem kw_1681 : Cond.code ⟨"PrivateViewsModel", "isAsTest", "(II)Z"⟩ prog_14_method_59_code 5 (some .boolean) ∈ jTB := jtb (List.mem_of_getElem? (i := 1681) (by decide +kernel)) (by decide +kernel)
theorem kw_1682 : Cond.methodLink "PrivateViewsModel" 248 ⟨"PrivateViewsModel", "isPattern", "(II)Z"⟩ ∈ jTB := jtb (List.mem_of_getElem? (i := 1682) (by decide +kernel)) (by decide +kernel)
theorem kw_1684 : Cond.instanceMethod ⟨"PrivateViewsModel", "isPattern", "(II)Z"⟩ ∈ jTB := jtb (List.mem_of_getElem? (i := 1684) (by decide +kernel)) (by decide +kernel)
theorem kw_1685 : Cond.code ⟨"PrivateViewsModel", "isPattern", "(II)Z"⟩ prog_14_method_58_code 11 (some .boolean) ∈ jTB := jtb (List.mem_of_getElem? (i := 1685) (by decide +kernel)) (by decide +kernel)
theorem kw_1686 : Cond.methodLink "PrivateViewsModel" 68 ⟨"PrivateViewsModel", "listOf", "(I)I"⟩ ∈ jTB := jtb (List.mem_of_getElem? (i := 1686) (by decide +kernel)) (by decide +kernel)
theorem kw_1687 : Cond.static ⟨"PrivateViewsModel", "listOf", "(I)I"⟩ ∈ jTB := jtb (List.mem_of_getElem? (i := 1687) (by decide +kernel)) (by decide +kernel)
theorem kw_1688 : Cond.code ⟨"PrivateViewsModel", "listOf", "(I)I"⟩ prog_14_method_12_code 1 (some .int) ∈ jTB := jtb (List.mem_of_getElem? (i := 1688) (by decide +kernel)) (by decide +kernel)
theorem kw_1689 : Cond.methodLink "PrivateViewsModel" 181 ⟨"PrivateViewsModel", "isRight", "(Z)Z"⟩ ∈ jTB := jtb (List.mem_of_getElem? (i := 1689) (by decide +kernel)) (by decide +kernel)
theorem kw_1691 : Cond.instanceMethod ⟨"PrivateViewsModel", "isRight", "(Z)Z"⟩ ∈ jTB := jtb (List.mem_of_getElem? (i := 1691) (by decide +kernel)) (by decide +kernel)
theorem kw_1692 : Cond.code ⟨"PrivateViewsModel", "isRight", "(Z)Z"⟩ prog_14_method_45_code 2 (some .boolean) ∈ jTB := jtb (List.mem_of_getElem? (i := 1692) (by decide +kernel)) (by decide +kernel)
theorem kw_1693 : Cond.methodLink "PrivateViewsModel" 169 ⟨"PrivateViewsModel", "bringsBack", "()V"⟩ ∈ jTB := jtb (List.mem_of_getElem? (i := 1693) (by decide +kernel)) (by decide +kernel)
theorem kw_1695 : Cond.instanceMethod ⟨"PrivateViewsModel", "bringsBack", "()V"⟩ ∈ jTB := jtb (List.mem_of_getElem? (i := 1695) (by decide +kernel)) (by decide +kernel)
theorem kw_1696 : Cond.code ⟨"PrivateViewsModel", "bringsBack", "()V"⟩ prog_14_method_9_code 2 none ∈ jTB := jtb (List.mem_of_getElem? (i := 1696) (by decide +kernel)) (by decide +kernel)
theorem kw_1697 : Cond.methodLink "PrivateViewsModel" 185 ⟨"PrivateViewsModel", "throwsIf", "(ZI)Z"⟩ ∈ jTB := jtb (List.mem_of_getElem? (i := 1697) (by decide +kernel)) (by decide +kernel)
theorem kw_1699 : Cond.instanceMethod ⟨"PrivateViewsModel", "throwsIf", "(ZI)Z"⟩ ∈ jTB := jtb (List.mem_of_getElem? (i := 1699) (by decide +kernel)) (by decide +kernel)
theorem kw_1700 : Cond.code ⟨"PrivateViewsModel", "throwsIf", "(ZI)Z"⟩ prog_14_method_2_code 3 (some .boolean) ∈ jTB := jtb (List.mem_of_getElem? (i := 1700) (by decide +kernel)) (by decide +kernel)
theorem kw_1702 : Cond.instanceMethod ⟨"PrivateViewsModel", "view", "(I)I"⟩ ∈ jTB := jtb (List.mem_of_getElem? (i := 1702) (by decide +kernel)) (by decide +kernel)
theorem kw_1703 : Cond.selects "PrivateViewsModel" ⟨"PrivateViewsModel", "view", "(I)I"⟩ ⟨"PrivateViewsModel", "view", "(I)I"⟩ ∈ jTB := jtb (List.mem_of_getElem? (i := 1703) (by decide +kernel)) (by decide +kernel)
theorem kw_1704 : Cond.code ⟨"PrivateViewsModel", "view", "(I)I"⟩ prog_14_method_57_code 2 (some .int) ∈ jTB := jtb (List.mem_of_getElem? (i := 1704) (by decide +kernel)) (by decide +kernel)
theorem kw_1705 : Cond.methodLink "PrivateViewsModel" 239 ⟨"PrivateViewsModel", "noView", "(I)Z"⟩ ∈ jTB := jtb (List.mem_of_getElem? (i := 1705) (by decide +kernel)) (by decide +kernel)
theorem kw_1706 : Cond.static ⟨"PrivateViewsModel", "noView", "(I)Z"⟩ ∈ jTB := jtb (List.mem_of_getElem? (i := 1706) (by decide +kernel)) (by decide +kernel)
theorem kw_1707 : Cond.code ⟨"PrivateViewsModel", "noView", "(I)Z"⟩ prog_14_method_13_code 1 (some .boolean) ∈ jTB := jtb (List.mem_of_getElem? (i := 1707) (by decide +kernel)) (by decide +kernel)
theorem kw_1708 : Cond.methodLink "PrivateViewsModel" 242 ⟨"PrivateViewsModel", "readView", "(I)Z"⟩ ∈ jTB := jtb (List.mem_of_getElem? (i := 1708) (by decide +kernel)) (by decide +kernel)
theorem kw_1710 : Cond.instanceMethod ⟨"PrivateViewsModel", "readView", "(I)Z"⟩ ∈ jTB := jtb (List.mem_of_getElem? (i := 1710) (by decide +kernel)) (by decide +kernel)
theorem kw_1711 : Cond.code ⟨"PrivateViewsModel", "readView", "(I)Z"⟩ prog_14_method_56_code 3 (some .boolean) ∈ jTB := jtb (List.mem_of_getElem? (i := 1711) (by decide +kernel)) (by decide +kernel)
theorem kw_1712 : Cond.methodLink "PrivateViewsModel" 236 ⟨"PrivateViewsModel", "readPart", "(I)Z"⟩ ∈ jTB := jtb (List.mem_of_getElem? (i := 1712) (by decide +kernel)) (by decide +kernel)
theorem kw_1714 : Cond.instanceMethod ⟨"PrivateViewsModel", "readPart", "(I)Z"⟩ ∈ jTB := jtb (List.mem_of_getElem? (i := 1714) (by decide +kernel)) (by decide +kernel)
theorem kw_1715 : Cond.code ⟨"PrivateViewsModel", "readPart", "(I)Z"⟩ prog_14_method_55_code 2 (some .boolean) ∈ jTB := jtb (List.mem_of_getElem? (i := 1715) (by decide +kernel)) (by decide +kernel)
theorem kw_1717 : Cond.methodLink "PrivateViewsModel" 209 ⟨"PrivateViewsModel", "passes", "(Ljava/lang/String;)Z"⟩ ∈ jTB := jtb (List.mem_of_getElem? (i := 1717) (by decide +kernel)) (by decide +kernel)
theorem kw_1719 : Cond.instanceMethod ⟨"PrivateViewsModel", "passes", "(Ljava/lang/String;)Z"⟩ ∈ jTB := jtb (List.mem_of_getElem? (i := 1719) (by decide +kernel)) (by decide +kernel)
theorem kw_1720 : Cond.code ⟨"PrivateViewsModel", "passes", "(Ljava/lang/String;)Z"⟩ prog_14_method_34_code 2 (some .boolean) ∈ jTB := jtb (List.mem_of_getElem? (i := 1720) (by decide +kernel)) (by decide +kernel)
theorem kw_1721 : Cond.methodLink "PrivateViewsModel" 227 ⟨"PrivateViewsModel", "readSort", "(II)Z"⟩ ∈ jTB := jtb (List.mem_of_getElem? (i := 1721) (by decide +kernel)) (by decide +kernel)
theorem kw_1723 : Cond.instanceMethod ⟨"PrivateViewsModel", "readSort", "(II)Z"⟩ ∈ jTB := jtb (List.mem_of_getElem? (i := 1723) (by decide +kernel)) (by decide +kernel)
theorem kw_1724 : Cond.code ⟨"PrivateViewsModel", "readSort", "(II)Z"⟩ prog_14_method_53_code 5 (some .boolean) ∈ jTB := jtb (List.mem_of_getElem? (i := 1724) (by decide +kernel)) (by decide +kernel)
theorem kw_1725 : Cond.methodLink "PrivateViewsModel" 215 ⟨"PrivateViewsModel", "number", "(II)Z"⟩ ∈ jTB := jtb (List.mem_of_getElem? (i := 1725) (by decide +kernel)) (by decide +kernel)
theorem kw_1727 : Cond.instanceMethod ⟨"PrivateViewsModel", "number", "(II)Z"⟩ ∈ jTB := jtb (List.mem_of_getElem? (i := 1727) (by decide +kernel)) (by decide +kernel)
theorem kw_1728 : Cond.code ⟨"PrivateViewsModel", "number", "(II)Z"⟩ prog_14_method_37_code 3 (some .boolean) ∈ jTB := jtb (List.mem_of_getElem? (i := 1728) (by decide +kernel)) (by decide +kernel)
theorem kw_1731 : Cond.methodLink "PrivateViewsModel" 230 ⟨"PrivateViewsModel", "readHide", "(I)Z"⟩ ∈ jTB := jtb (List.mem_of_getElem? (i := 1731) (by decide +kernel)) (by decide +kernel)
theorem kw_1733 : Cond.instanceMethod ⟨"PrivateViewsModel", "readHide", "(I)Z"⟩ ∈ jTB := jtb (List.mem_of_getElem? (i := 1733) (by decide +kernel)) (by decide +kernel)
theorem kw_1734 : Cond.code ⟨"PrivateViewsModel", "readHide", "(I)Z"⟩ prog_14_method_54_code 2 (some .boolean) ∈ jTB := jtb (List.mem_of_getElem? (i := 1734) (by decide +kernel)) (by decide +kernel)
theorem kw_1735 : Cond.methodLink "PrivateViewsModel" 224 ⟨"PrivateViewsModel", "has", "(II)Z"⟩ ∈ jTB := jtb (List.mem_of_getElem? (i := 1735) (by decide +kernel)) (by decide +kernel)
theorem kw_1736 : Cond.static ⟨"PrivateViewsModel", "has", "(II)Z"⟩ ∈ jTB := jtb (List.mem_of_getElem? (i := 1736) (by decide +kernel)) (by decide +kernel)
theorem kw_1737 : Cond.code ⟨"PrivateViewsModel", "has", "(II)Z"⟩ prog_14_method_4_code 2 (some .boolean) ∈ jTB := jtb (List.mem_of_getElem? (i := 1737) (by decide +kernel)) (by decide +kernel)
theorem kw_1738 : Cond.methodLink "PrivateViewsModel" 233 ⟨"PrivateViewsModel", "readFilter", "(I)Z"⟩ ∈ jTB := jtb (List.mem_of_getElem? (i := 1738) (by decide +kernel)) (by decide +kernel)
theorem kw_1740 : Cond.instanceMethod ⟨"PrivateViewsModel", "readFilter", "(I)Z"⟩ ∈ jTB := jtb (List.mem_of_getElem? (i := 1740) (by decide +kernel)) (by decide +kernel)
theorem kw_1741 : Cond.code ⟨"PrivateViewsModel", "readFilter", "(I)Z"⟩ prog_14_method_52_code 4 (some .boolean) ∈ jTB := jtb (List.mem_of_getElem? (i := 1741) (by decide +kernel)) (by decide +kernel)
theorem kw_1742 : Cond.methodLink "PrivateViewsModel" 221 ⟨"PrivateViewsModel", "readTest", "(II)Z"⟩ ∈ jTB := jtb (List.mem_of_getElem? (i := 1742) (by decide +kernel)) (by decide +kernel)
theorem kw_1744 : Cond.instanceMethod ⟨"PrivateViewsModel", "readTest", "(II)Z"⟩ ∈ jTB := jtb (List.mem_of_getElem? (i := 1744) (by decide +kernel)) (by decide +kernel)
theorem kw_1745 : Cond.code ⟨"PrivateViewsModel", "readTest", "(II)Z"⟩ prog_14_method_51_code 5 (some .boolean) ∈ jTB := jtb (List.mem_of_getElem? (i := 1745) (by decide +kernel)) (by decide +kernel)
theorem kw_1748 : Cond.methodLink "PrivateViewsModel" 212 ⟨"PrivateViewsModel", "readPattern", "(I)Z"⟩ ∈ jTB := jtb (List.mem_of_getElem? (i := 1748) (by decide +kernel)) (by decide +kernel)
theorem kw_1750 : Cond.instanceMethod ⟨"PrivateViewsModel", "readPattern", "(I)Z"⟩ ∈ jTB := jtb (List.mem_of_getElem? (i := 1750) (by decide +kernel)) (by decide +kernel)
theorem kw_1751 : Cond.code ⟨"PrivateViewsModel", "readPattern", "(I)Z"⟩ prog_14_method_50_code 5 (some .boolean) ∈ jTB := jtb (List.mem_of_getElem? (i := 1751) (by decide +kernel)) (by decide +kernel)
theorem kw_1752 : Cond.methodLink "PrivateViewsModel" 206 ⟨"PrivateViewsModel", "isAWord", "()Z"⟩ ∈ jTB := jtb (List.mem_of_getElem? (i := 1752) (by decide +kernel)) (by decide +kernel)
theorem kw_1754 : Cond.instanceMethod ⟨"PrivateViewsModel", "isAWord", "()Z"⟩ ∈ jTB := jtb (List.mem_of_getElem? (i := 1754) (by decide +kernel)) (by decide +kernel)
theorem kw_1755 : Cond.code ⟨"PrivateViewsModel", "isAWord", "()Z"⟩ prog_14_method_49_code 1 (some .boolean) ∈ jTB := jtb (List.mem_of_getElem? (i := 1755) (by decide +kernel)) (by decide +kernel)
theorem kw_1758 : Cond.methodLink "PrivateViewsModel" 245 ⟨"PrivateViewsModel", "isRefreshed", "(I)I"⟩ ∈ jTB := jtb (List.mem_of_getElem? (i := 1758) (by decide +kernel)) (by decide +kernel)
theorem kw_1760 : Cond.instanceMethod ⟨"PrivateViewsModel", "isRefreshed", "(I)I"⟩ ∈ jTB := jtb (List.mem_of_getElem? (i := 1760) (by decide +kernel)) (by decide +kernel)
theorem kw_1761 : Cond.code ⟨"PrivateViewsModel", "isRefreshed", "(I)I"⟩ prog_14_method_67_code 7 (some .int) ∈ jTB := jtb (List.mem_of_getElem? (i := 1761) (by decide +kernel)) (by decide +kernel)
theorem kw_1762 : Cond.methodLink "PrivateViewsModel" 270 ⟨"PrivateViewsModel", "laysFresh", "(I)I"⟩ ∈ jTB := jtb (List.mem_of_getElem? (i := 1762) (by decide +kernel)) (by decide +kernel)
theorem kw_1764 : Cond.instanceMethod ⟨"PrivateViewsModel", "laysFresh", "(I)I"⟩ ∈ jTB := jtb (List.mem_of_getElem? (i := 1764) (by decide +kernel)) (by decide +kernel)
theorem kw_1765 : Cond.code ⟨"PrivateViewsModel", "laysFresh", "(I)I"⟩ prog_14_method_65_code 6 (some .int) ∈ jTB := jtb (List.mem_of_getElem? (i := 1765) (by decide +kernel)) (by decide +kernel)
theorem kw_1766 : Cond.methodLink "PrivateViewsModel" 71 ⟨"PrivateViewsModel", "keyAt", "(II)I"⟩ ∈ jTB := jtb (List.mem_of_getElem? (i := 1766) (by decide +kernel)) (by decide +kernel)
theorem kw_1768 : Cond.instanceMethod ⟨"PrivateViewsModel", "keyAt", "(II)I"⟩ ∈ jTB := jtb (List.mem_of_getElem? (i := 1768) (by decide +kernel)) (by decide +kernel)
theorem kw_1769 : Cond.code ⟨"PrivateViewsModel", "keyAt", "(II)I"⟩ prog_14_method_18_code 3 (some .int) ∈ jTB := jtb (List.mem_of_getElem? (i := 1769) (by decide +kernel)) (by decide +kernel)
theorem kw_1770 : Cond.methodLink "PrivateViewsModel" 266 ⟨"PrivateViewsModel", "bySorts", "(IIII)I"⟩ ∈ jTB := jtb (List.mem_of_getElem? (i := 1770) (by decide +kernel)) (by decide +kernel)
theorem kw_1772 : Cond.instanceMethod ⟨"PrivateViewsModel", "bySorts", "(IIII)I"⟩ ∈ jTB := jtb (List.mem_of_getElem? (i := 1772) (by decide +kernel)) (by decide +kernel)
theorem kw_1773 : Cond.code ⟨"PrivateViewsModel", "bySorts", "(IIII)I"⟩ prog_14_method_64_code 7 (some .int) ∈ jTB := jtb (List.mem_of_getElem? (i := 1773) (by decide +kernel)) (by decide +kernel)
theorem kw_1774 : Cond.methodLink "PrivateViewsModel" 263 ⟨"PrivateViewsModel", "bySort", "(III)I"⟩ ∈ jTB := jtb (List.mem_of_getElem? (i := 1774) (by decide +kernel)) (by decide +kernel)
theorem kw_1776 : Cond.instanceMethod ⟨"PrivateViewsModel", "bySort", "(III)I"⟩ ∈ jTB := jtb (List.mem_of_getElem? (i := 1776) (by decide +kernel)) (by decide +kernel)
theorem kw_1777 : Cond.code ⟨"PrivateViewsModel", "bySort", "(III)I"⟩ prog_14_method_63_code 6 (some .int) ∈ jTB := jtb (List.mem_of_getElem? (i := 1777) (by decide +kernel)) (by decide +kernel)
theorem kw_1778 : Cond.methodLink "PrivateViewsModel" 78 ⟨"PrivateViewsModel", "placeIn", "(II)I"⟩ ∈ jTB := jtb (List.mem_of_getElem? (i := 1778) (by decide +kernel)) (by decide +kernel)
theorem kw_1780 : Cond.instanceMethod ⟨"PrivateViewsModel", "placeIn", "(II)I"⟩ ∈ jTB := jtb (List.mem_of_getElem? (i := 1780) (by decide +kernel)) (by decide +kernel)
theorem kw_1781 : Cond.code ⟨"PrivateViewsModel", "placeIn", "(II)I"⟩ prog_14_method_19_code 4 (some .int) ∈ jTB := jtb (List.mem_of_getElem? (i := 1781) (by decide +kernel)) (by decide +kernel)
theorem kw_1783 : Cond.instanceMethod ⟨"PrivateViewsModel", "refresh", "(I)I"⟩ ∈ jTB := jtb (List.mem_of_getElem? (i := 1783) (by decide +kernel)) (by decide +kernel)
theorem kw_1784 : Cond.selects "PrivateViewsModel" ⟨"PrivateViewsModel", "refresh", "(I)I"⟩ ⟨"PrivateViewsModel", "refresh", "(I)I"⟩ ∈ jTB := jtb (List.mem_of_getElem? (i := 1784) (by decide +kernel)) (by decide +kernel)
theorem kw_1785 : Cond.code ⟨"PrivateViewsModel", "refresh", "(I)I"⟩ prog_14_method_68_code 2 (some .int) ∈ jTB := jtb (List.mem_of_getElem? (i := 1785) (by decide +kernel)) (by decide +kernel)
theorem kw_1787 : Cond.instanceMethod ⟨"PrivateViewsModel", "set", "(IIII)I"⟩ ∈ jTB := jtb (List.mem_of_getElem? (i := 1787) (by decide +kernel)) (by decide +kernel)
theorem kw_1788 : Cond.selects "PrivateViewsModel" ⟨"PrivateViewsModel", "set", "(IIII)I"⟩ ⟨"PrivateViewsModel", "set", "(IIII)I"⟩ ∈ jTB := jtb (List.mem_of_getElem? (i := 1788) (by decide +kernel)) (by decide +kernel)
theorem kw_1789 : Cond.code ⟨"PrivateViewsModel", "set", "(IIII)I"⟩ prog_14_method_76_code 6 (some .int) ∈ jTB := jtb (List.mem_of_getElem? (i := 1789) (by decide +kernel)) (by decide +kernel)
theorem kw_1790 : Cond.methodLink "PrivateViewsModel" 292 ⟨"PrivateViewsModel", "noCell", "(III)Z"⟩ ∈ jTB := jtb (List.mem_of_getElem? (i := 1790) (by decide +kernel)) (by decide +kernel)
theorem kw_1792 : Cond.instanceMethod ⟨"PrivateViewsModel", "noCell", "(III)Z"⟩ ∈ jTB := jtb (List.mem_of_getElem? (i := 1792) (by decide +kernel)) (by decide +kernel)
theorem kw_1793 : Cond.code ⟨"PrivateViewsModel", "noCell", "(III)Z"⟩ prog_14_method_74_code 4 (some .boolean) ∈ jTB := jtb (List.mem_of_getElem? (i := 1793) (by decide +kernel)) (by decide +kernel)
theorem kw_1794 : Cond.methodLink "PrivateViewsModel" 285 ⟨"PrivateViewsModel", "noPlace", "(II)Z"⟩ ∈ jTB := jtb (List.mem_of_getElem? (i := 1794) (by decide +kernel)) (by decide +kernel)
theorem kw_1796 : Cond.instanceMethod ⟨"PrivateViewsModel", "noPlace", "(II)Z"⟩ ∈ jTB := jtb (List.mem_of_getElem? (i := 1796) (by decide +kernel)) (by decide +kernel)
theorem kw_1797 : Cond.code ⟨"PrivateViewsModel", "noPlace", "(II)Z"⟩ prog_14_method_17_code 3 (some .boolean) ∈ jTB := jtb (List.mem_of_getElem? (i := 1797) (by decide +kernel)) (by decide +kernel)
theorem kw_1798 : Cond.methodLink "PrivateViewsModel" 288 ⟨"PrivateViewsModel", "noColumn", "(I)Z"⟩ ∈ jTB := jtb (List.mem_of_getElem? (i := 1798) (by decide +kernel)) (by decide +kernel)
theorem kw_1800 : Cond.instanceMethod ⟨"PrivateViewsModel", "noColumn", "(I)Z"⟩ ∈ jTB := jtb (List.mem_of_getElem? (i := 1800) (by decide +kernel)) (by decide +kernel)
theorem kw_1801 : Cond.code ⟨"PrivateViewsModel", "noColumn", "(I)Z"⟩ prog_14_method_14_code 2 (some .boolean) ∈ jTB := jtb (List.mem_of_getElem? (i := 1801) (by decide +kernel)) (by decide +kernel)
theorem kw_1802 : Cond.methodLink "PrivateViewsModel" 295 ⟨"PrivateViewsModel", "isHidden", "(II)Z"⟩ ∈ jTB := jtb (List.mem_of_getElem? (i := 1802) (by decide +kernel)) (by decide +kernel)
theorem kw_1804 : Cond.instanceMethod ⟨"PrivateViewsModel", "isHidden", "(II)Z"⟩ ∈ jTB := jtb (List.mem_of_getElem? (i := 1804) (by decide +kernel)) (by decide +kernel)
theorem kw_1805 : Cond.code ⟨"PrivateViewsModel", "isHidden", "(II)Z"⟩ prog_14_method_73_code 3 (some .boolean) ∈ jTB := jtb (List.mem_of_getElem? (i := 1805) (by decide +kernel)) (by decide +kernel)
theorem kw_1806 : Cond.methodLink "PrivateViewsModel" 298 ⟨"PrivateViewsModel", "isValue", "(II)Z"⟩ ∈ jTB := jtb (List.mem_of_getElem? (i := 1806) (by decide +kernel)) (by decide +kernel)
theorem kw_1808 : Cond.instanceMethod ⟨"PrivateViewsModel", "isValue", "(II)Z"⟩ ∈ jTB := jtb (List.mem_of_getElem? (i := 1808) (by decide +kernel)) (by decide +kernel)
theorem kw_1809 : Cond.code ⟨"PrivateViewsModel", "isValue", "(II)Z"⟩ prog_14_method_75_code 6 (some .boolean) ∈ jTB := jtb (List.mem_of_getElem? (i := 1809) (by decide +kernel)) (by decide +kernel)
theorem kw_1810 : Cond.constant "PrivateViewsModel" 291 531440 ∈ jTB := jtb (List.mem_of_getElem? (i := 1810) (by decide +kernel)) (by decide +kernel)
theorem kw_1811 : Cond.methodLink "PrivateViewsModel" 301 ⟨"PrivateViewsModel", "alters", "(IIII)V"⟩ ∈ jTB := jtb (List.mem_of_getElem? (i := 1811) (by decide +kernel)) (by decide +kernel)
theorem kw_1813 : Cond.instanceMethod ⟨"PrivateViewsModel", "alters", "(IIII)V"⟩ ∈ jTB := jtb (List.mem_of_getElem? (i := 1813) (by decide +kernel)) (by decide +kernel)
theorem kw_1814 : Cond.code ⟨"PrivateViewsModel", "alters", "(IIII)V"⟩ prog_14_method_71_code 7 none ∈ jTB := jtb (List.mem_of_getElem? (i := 1814) (by decide +kernel)) (by decide +kernel)
theorem kw_1815 : Cond.methodLink "PrivateViewsModel" 278 ⟨"PrivateViewsModel", "isTold", "(IIIII)V"⟩ ∈ jTB := jtb (List.mem_of_getElem? (i := 1815) (by decide +kernel)) (by decide +kernel)
theorem kw_1817 : Cond.instanceMethod ⟨"PrivateViewsModel", "isTold", "(IIIII)V"⟩ ∈ jTB := jtb (List.mem_of_getElem? (i := 1817) (by decide +kernel)) (by decide +kernel)
theorem kw_1818 : Cond.code ⟨"PrivateViewsModel", "isTold", "(IIIII)V"⟩ prog_14_method_70_code 7 none ∈ jTB := jtb (List.mem_of_getElem? (i := 1818) (by decide +kernel)) (by decide +kernel)
theorem kw_1819 : Cond.methodLink "PrivateViewsModel" 273 ⟨"java/lang/Math", "min", "(II)I"⟩ ∈ jTB := jtb (List.mem_of_getElem? (i := 1819) (by decide +kernel)) (by decide +kernel)
theorem kw_1820 : Cond.methodLink "PrivateViewsModel" 305 ⟨"PrivateViewsModel", "isEdit", "(I)I"⟩ ∈ jTB := jtb (List.mem_of_getElem? (i := 1820) (by decide +kernel)) (by decide +kernel)
theorem kw_1822 : Cond.instanceMethod ⟨"PrivateViewsModel", "isEdit", "(I)I"⟩ ∈ jTB := jtb (List.mem_of_getElem? (i := 1822) (by decide +kernel)) (by decide +kernel)
theorem kw_1823 : Cond.code ⟨"PrivateViewsModel", "isEdit", "(I)I"⟩ prog_14_method_72_code 4 (some .int) ∈ jTB := jtb (List.mem_of_getElem? (i := 1823) (by decide +kernel)) (by decide +kernel)
theorem kw_1824 : Cond.methodLink "PrivateViewsModel" 282 ⟨"PrivateViewsModel", "editAt", "(II)I"⟩ ∈ jTB := jtb (List.mem_of_getElem? (i := 1824) (by decide +kernel)) (by decide +kernel)
theorem kw_1825 : Cond.static ⟨"PrivateViewsModel", "editAt", "(II)I"⟩ ∈ jTB := jtb (List.mem_of_getElem? (i := 1825) (by decide +kernel)) (by decide +kernel)
theorem kw_1826 : Cond.code ⟨"PrivateViewsModel", "editAt", "(II)I"⟩ prog_14_method_69_code 2 (some .int) ∈ jTB := jtb (List.mem_of_getElem? (i := 1826) (by decide +kernel)) (by decide +kernel)
theorem kw_1828 : Cond.instanceMethod ⟨"PrivateViewsModel", "clear", "(III)I"⟩ ∈ jTB := jtb (List.mem_of_getElem? (i := 1828) (by decide +kernel)) (by decide +kernel)
theorem kw_1829 : Cond.selects "PrivateViewsModel" ⟨"PrivateViewsModel", "clear", "(III)I"⟩ ⟨"PrivateViewsModel", "clear", "(III)I"⟩ ∈ jTB := jtb (List.mem_of_getElem? (i := 1829) (by decide +kernel)) (by decide +kernel)
theorem kw_1830 : Cond.code ⟨"PrivateViewsModel", "clear", "(III)I"⟩ prog_14_method_77_code 5 (some .int) ∈ jTB := jtb (List.mem_of_getElem? (i := 1830) (by decide +kernel)) (by decide +kernel)
theorem kw_1832 : Cond.instanceMethod ⟨"PrivateViewsModel", "fill", "(IIII)I"⟩ ∈ jTB := jtb (List.mem_of_getElem? (i := 1832) (by decide +kernel)) (by decide +kernel)
theorem kw_1833 : Cond.selects "PrivateViewsModel" ⟨"PrivateViewsModel", "fill", "(IIII)I"⟩ ⟨"PrivateViewsModel", "fill", "(IIII)I"⟩ ∈ jTB := jtb (List.mem_of_getElem? (i := 1833) (by decide +kernel)) (by decide +kernel)
theorem kw_1834 : Cond.code ⟨"PrivateViewsModel", "fill", "(IIII)I"⟩ prog_14_method_78_code 7 (some .int) ∈ jTB := jtb (List.mem_of_getElem? (i := 1834) (by decide +kernel)) (by decide +kernel)
theorem kw_1836 : Cond.instanceMethod ⟨"PrivateViewsModel", "replace", "(IIII)I"⟩ ∈ jTB := jtb (List.mem_of_getElem? (i := 1836) (by decide +kernel)) (by decide +kernel)
theorem kw_1837 : Cond.selects "PrivateViewsModel" ⟨"PrivateViewsModel", "replace", "(IIII)I"⟩ ⟨"PrivateViewsModel", "replace", "(IIII)I"⟩ ∈ jTB := jtb (List.mem_of_getElem? (i := 1837) (by decide +kernel)) (by decide +kernel)
theorem kw_1838 : Cond.code ⟨"PrivateViewsModel", "replace", "(IIII)I"⟩ prog_14_method_80_code 6 (some .int) ∈ jTB := jtb (List.mem_of_getElem? (i := 1838) (by decide +kernel)) (by decide +kernel)
theorem kw_1839 : Cond.methodLink "PrivateViewsModel" 308 ⟨"PrivateViewsModel", "isNone", "(II)Z"⟩ ∈ jTB := jtb (List.mem_of_getElem? (i := 1839) (by decide +kernel)) (by decide +kernel)
theorem kw_1841 : Cond.instanceMethod ⟨"PrivateViewsModel", "isNone", "(II)Z"⟩ ∈ jTB := jtb (List.mem_of_getElem? (i := 1841) (by decide +kernel)) (by decide +kernel)
theorem kw_1842 : Cond.code ⟨"PrivateViewsModel", "isNone", "(II)Z"⟩ prog_14_method_79_code 3 (some .boolean) ∈ jTB := jtb (List.mem_of_getElem? (i := 1842) (by decide +kernel)) (by decide +kernel)
theorem kw_1843 : Cond.methodLink "PrivateViewsModel" 311 ⟨"PrivateViewsModel", "valueAt", "(III)I"⟩ ∈ jTB := jtb (List.mem_of_getElem? (i := 1843) (by decide +kernel)) (by decide +kernel)
theorem kw_1845 : Cond.instanceMethod ⟨"PrivateViewsModel", "valueAt", "(III)I"⟩ ∈ jTB := jtb (List.mem_of_getElem? (i := 1845) (by decide +kernel)) (by decide +kernel)
theorem kw_1846 : Cond.code ⟨"PrivateViewsModel", "valueAt", "(III)I"⟩ prog_14_method_114_code 4 (some .int) ∈ jTB := jtb (List.mem_of_getElem? (i := 1846) (by decide +kernel)) (by decide +kernel)
theorem kw_1848 : Cond.instanceMethod ⟨"PrivateViewsModel", "swap", "(IIII)I"⟩ ∈ jTB := jtb (List.mem_of_getElem? (i := 1848) (by decide +kernel)) (by decide +kernel)
theorem kw_1849 : Cond.selects "PrivateViewsModel" ⟨"PrivateViewsModel", "swap", "(IIII)I"⟩ ⟨"PrivateViewsModel", "swap", "(IIII)I"⟩ ∈ jTB := jtb (List.mem_of_getElem? (i := 1849) (by decide +kernel)) (by decide +kernel)
theorem kw_1850 : Cond.code ⟨"PrivateViewsModel", "swap", "(IIII)I"⟩ prog_14_method_81_code 7 (some .int) ∈ jTB := jtb (List.mem_of_getElem? (i := 1850) (by decide +kernel)) (by decide +kernel)
theorem kw_1852 : Cond.instanceMethod ⟨"PrivateViewsModel", "paste", "(III)I"⟩ ∈ jTB := jtb (List.mem_of_getElem? (i := 1852) (by decide +kernel)) (by decide +kernel)
theorem kw_1853 : Cond.selects "PrivateViewsModel" ⟨"PrivateViewsModel", "paste", "(III)I"⟩ ⟨"PrivateViewsModel", "paste", "(III)I"⟩ ∈ jTB := jtb (List.mem_of_getElem? (i := 1853) (by decide +kernel)) (by decide +kernel)
theorem kw_1854 : Cond.code ⟨"PrivateViewsModel", "paste", "(III)I"⟩ prog_14_method_86_code 9 (some .int) ∈ jTB := jtb (List.mem_of_getElem? (i := 1854) (by decide +kernel)) (by decide +kernel)
theorem kw_1855 : Cond.methodLink "PrivateViewsModel" 323 ⟨"PrivateViewsModel", "readGrids", "(II)Z"⟩ ∈ jTB := jtb (List.mem_of_getElem? (i := 1855) (by decide +kernel)) (by decide +kernel)
theorem kw_1857 : Cond.instanceMethod ⟨"PrivateViewsModel", "readGrids", "(II)Z"⟩ ∈ jTB := jtb (List.mem_of_getElem? (i := 1857) (by decide +kernel)) (by decide +kernel)
theorem kw_1858 : Cond.code ⟨"PrivateViewsModel", "readGrids", "(II)Z"⟩ prog_14_method_84_code 3 (some .boolean) ∈ jTB := jtb (List.mem_of_getElem? (i := 1858) (by decide +kernel)) (by decide +kernel)
theorem kw_1859 : Cond.methodLink "PrivateViewsModel" 320 ⟨"PrivateViewsModel", "readGrid", "(II)Z"⟩ ∈ jTB := jtb (List.mem_of_getElem? (i := 1859) (by decide +kernel)) (by decide +kernel)
theorem kw_1861 : Cond.instanceMethod ⟨"PrivateViewsModel", "readGrid", "(II)Z"⟩ ∈ jTB := jtb (List.mem_of_getElem? (i := 1861) (by decide +kernel)) (by decide +kernel)
theorem kw_1862 : Cond.code ⟨"PrivateViewsModel", "readGrid", "(II)Z"⟩ prog_14_method_83_code 6 (some .boolean) ∈ jTB := jtb (List.mem_of_getElem? (i := 1862) (by decide +kernel)) (by decide +kernel)
theorem kw_1863 : Cond.methodLink "PrivateViewsModel" 317 ⟨"PrivateViewsModel", "seenFrom", "(II)I"⟩ ∈ jTB := jtb (List.mem_of_getElem? (i := 1863) (by decide +kernel)) (by decide +kernel)
theorem kw_1865 : Cond.instanceMethod ⟨"PrivateViewsModel", "seenFrom", "(II)I"⟩ ∈ jTB := jtb (List.mem_of_getElem? (i := 1865) (by decide +kernel)) (by decide +kernel)
theorem kw_1866 : Cond.code ⟨"PrivateViewsModel", "seenFrom", "(II)I"⟩ prog_14_method_82_code 4 (some .int) ∈ jTB := jtb (List.mem_of_getElem? (i := 1866) (by decide +kernel)) (by decide +kernel)
theorem kw_1867 : Cond.methodLink "PrivateViewsModel" 326 ⟨"java/lang/Math", "max", "(II)I"⟩ ∈ jTB := jtb (List.mem_of_getElem? (i := 1867) (by decide +kernel)) (by decide +kernel)
theorem kw_1868 : Cond.methodLink "PrivateViewsModel" 329 ⟨"PrivateViewsModel", "isPasted", "(IIII)V"⟩ ∈ jTB := jtb (List.mem_of_getElem? (i := 1868) (by decide +kernel)) (by decide +kernel)
theorem kw_1870 : Cond.instanceMethod ⟨"PrivateViewsModel", "isPasted", "(IIII)V"⟩ ∈ jTB := jtb (List.mem_of_getElem? (i := 1870) (by decide +kernel)) (by decide +kernel)
theorem kw_1871 : Cond.code ⟨"PrivateViewsModel", "isPasted", "(IIII)V"⟩ prog_14_method_85_code 7 none ∈ jTB := jtb (List.mem_of_getElem? (i := 1871) (by decide +kernel)) (by decide +kernel)
theorem kw_1873 : Cond.instanceMethod ⟨"PrivateViewsModel", "barred", "(I)I"⟩ ∈ jTB := jtb (List.mem_of_getElem? (i := 1873) (by decide +kernel)) (by decide +kernel)
theorem kw_1874 : Cond.selects "PrivateViewsModel" ⟨"PrivateViewsModel", "barred", "(I)I"⟩ ⟨"PrivateViewsModel", "barred", "(I)I"⟩ ∈ jTB := jtb (List.mem_of_getElem? (i := 1874) (by decide +kernel)) (by decide +kernel)
theorem kw_1875 : Cond.code ⟨"PrivateViewsModel", "barred", "(I)I"⟩ prog_14_method_89_code 4 (some .int) ∈ jTB := jtb (List.mem_of_getElem? (i := 1875) (by decide +kernel)) (by decide +kernel)
theorem kw_1876 : Cond.methodLink "PrivateViewsModel" 335 ⟨"PrivateViewsModel", "firstBar", "(I)I"⟩ ∈ jTB := jtb (List.mem_of_getElem? (i := 1876) (by decide +kernel)) (by decide +kernel)
theorem kw_1878 : Cond.instanceMethod ⟨"PrivateViewsModel", "firstBar", "(I)I"⟩ ∈ jTB := jtb (List.mem_of_getElem? (i := 1878) (by decide +kernel)) (by decide +kernel)
theorem kw_1879 : Cond.code ⟨"PrivateViewsModel", "firstBar", "(I)I"⟩ prog_14_method_88_code 3 (some .int) ∈ jTB := jtb (List.mem_of_getElem? (i := 1879) (by decide +kernel)) (by decide +kernel)
theorem kw_1880 : Cond.methodLink "PrivateViewsModel" 332 ⟨"PrivateViewsModel", "stands", "(I)Z"⟩ ∈ jTB := jtb (List.mem_of_getElem? (i := 1880) (by decide +kernel)) (by decide +kernel)
theorem kw_1882 : Cond.instanceMethod ⟨"PrivateViewsModel", "stands", "(I)Z"⟩ ∈ jTB := jtb (List.mem_of_getElem? (i := 1882) (by decide +kernel)) (by decide +kernel)
theorem kw_1883 : Cond.code ⟨"PrivateViewsModel", "stands", "(I)Z"⟩ prog_14_method_87_code 3 (some .boolean) ∈ jTB := jtb (List.mem_of_getElem? (i := 1883) (by decide +kernel)) (by decide +kernel)
theorem kw_1885 : Cond.instanceMethod ⟨"PrivateViewsModel", "undo", "(I)I"⟩ ∈ jTB := jtb (List.mem_of_getElem? (i := 1885) (by decide +kernel)) (by decide +kernel)
theorem kw_1886 : Cond.selects "PrivateViewsModel" ⟨"PrivateViewsModel", "undo", "(I)I"⟩ ⟨"PrivateViewsModel", "undo", "(I)I"⟩ ∈ jTB := jtb (List.mem_of_getElem? (i := 1886) (by decide +kernel)) (by decide +kernel)
theorem kw_1887 : Cond.code ⟨"PrivateViewsModel", "undo", "(I)I"⟩ prog_14_method_90_code 6 (some .int) ∈ jTB := jtb (List.mem_of_getElem? (i := 1887) (by decide +kernel)) (by decide +kernel)
theorem kw_1889 : Cond.instanceMethod ⟨"PrivateViewsModel", "add", "(II)I"⟩ ∈ jTB := jtb (List.mem_of_getElem? (i := 1889) (by decide +kernel)) (by decide +kernel)
theorem kw_1890 : Cond.selects "PrivateViewsModel" ⟨"PrivateViewsModel", "add", "(II)I"⟩ ⟨"PrivateViewsModel", "add", "(II)I"⟩ ∈ jTB := jtb (List.mem_of_getElem? (i := 1890) (by decide +kernel)) (by decide +kernel)
theorem kw_1891 : Cond.code ⟨"PrivateViewsModel", "add", "(II)I"⟩ prog_14_method_91_code 7 (some .int) ∈ jTB := jtb (List.mem_of_getElem? (i := 1891) (by decide +kernel)) (by decide +kernel)
theorem kw_1893 : Cond.instanceMethod ⟨"PrivateViewsModel", "drop", "(II)I"⟩ ∈ jTB := jtb (List.mem_of_getElem? (i := 1893) (by decide +kernel)) (by decide +kernel)
theorem kw_1894 : Cond.selects "PrivateViewsModel" ⟨"PrivateViewsModel", "drop", "(II)I"⟩ ⟨"PrivateViewsModel", "drop", "(II)I"⟩ ∈ jTB := jtb (List.mem_of_getElem? (i := 1894) (by decide +kernel)) (by decide +kernel)
theorem kw_1895 : Cond.code ⟨"PrivateViewsModel", "drop", "(II)I"⟩ prog_14_method_92_code 5 (some .int) ∈ jTB := jtb (List.mem_of_getElem? (i := 1895) (by decide +kernel)) (by decide +kernel)
theorem kw_1896 : Cond.methodLink "PrivateViewsModel" 338 ⟨"PrivateViewsModel", "takes", "(II)V"⟩ ∈ jTB := jtb (List.mem_of_getElem? (i := 1896) (by decide +kernel)) (by decide +kernel)
theorem kw_1898 : Cond.instanceMethod ⟨"PrivateViewsModel", "takes", "(II)V"⟩ ∈ jTB := jtb (List.mem_of_getElem? (i := 1898) (by decide +kernel)) (by decide +kernel)
theorem kw_1899 : Cond.code ⟨"PrivateViewsModel", "takes", "(II)V"⟩ prog_14_method_22_code 5 none ∈ jTB := jtb (List.mem_of_getElem? (i := 1899) (by decide +kernel)) (by decide +kernel)
theorem kw_1901 : Cond.instanceMethod ⟨"PrivateViewsModel", "drag", "(III)I"⟩ ∈ jTB := jtb (List.mem_of_getElem? (i := 1901) (by decide +kernel)) (by decide +kernel)
theorem kw_1902 : Cond.selects "PrivateViewsModel" ⟨"PrivateViewsModel", "drag", "(III)I"⟩ ⟨"PrivateViewsModel", "drag", "(III)I"⟩ ∈ jTB := jtb (List.mem_of_getElem? (i := 1902) (by decide +kernel)) (by decide +kernel)
theorem kw_1903 : Cond.code ⟨"PrivateViewsModel", "drag", "(III)I"⟩ prog_14_method_93_code 6 (some .int) ∈ jTB := jtb (List.mem_of_getElem? (i := 1903) (by decide +kernel)) (by decide +kernel)
theorem kw_1905 : Cond.instanceMethod ⟨"PrivateViewsModel", "kind", "(I)I"⟩ ∈ jTB := jtb (List.mem_of_getElem? (i := 1905) (by decide +kernel)) (by decide +kernel)
theorem kw_1906 : Cond.selects "PrivateViewsModel" ⟨"PrivateViewsModel", "kind", "(I)I"⟩ ⟨"PrivateViewsModel", "kind", "(I)I"⟩ ∈ jTB := jtb (List.mem_of_getElem? (i := 1906) (by decide +kernel)) (by decide +kernel)
theorem kw_1907 : Cond.code ⟨"PrivateViewsModel", "kind", "(I)I"⟩ prog_14_method_94_code 2 (some .int) ∈ jTB := jtb (List.mem_of_getElem? (i := 1907) (by decide +kernel)) (by decide +kernel)
theorem kw_1909 : Cond.instanceMethod ⟨"PrivateViewsModel", "cell", "(II)I"⟩ ∈ jTB := jtb (List.mem_of_getElem? (i := 1909) (by decide +kernel)) (by decide +kernel)
theorem kw_1910 : Cond.selects "PrivateViewsModel" ⟨"PrivateViewsModel", "cell", "(II)I"⟩ ⟨"PrivateViewsModel", "cell", "(II)I"⟩ ∈ jTB := jtb (List.mem_of_getElem? (i := 1910) (by decide +kernel)) (by decide +kernel)
theorem kw_1911 : Cond.code ⟨"PrivateViewsModel", "cell", "(II)I"⟩ prog_14_method_95_code 3 (some .int) ∈ jTB := jtb (List.mem_of_getElem? (i := 1911) (by decide +kernel)) (by decide +kernel)
theorem kw_1913 : Cond.instanceMethod ⟨"PrivateViewsModel", "order", "(I)I"⟩ ∈ jTB := jtb (List.mem_of_getElem? (i := 1913) (by decide +kernel)) (by decide +kernel)
theorem kw_1914 : Cond.selects "PrivateViewsModel" ⟨"PrivateViewsModel", "order", "(I)I"⟩ ⟨"PrivateViewsModel", "order", "(I)I"⟩ ∈ jTB := jtb (List.mem_of_getElem? (i := 1914) (by decide +kernel)) (by decide +kernel)
theorem kw_1915 : Cond.code ⟨"PrivateViewsModel", "order", "(I)I"⟩ prog_14_method_96_code 2 (some .int) ∈ jTB := jtb (List.mem_of_getElem? (i := 1915) (by decide +kernel)) (by decide +kernel)
theorem kw_1917 : Cond.instanceMethod ⟨"PrivateViewsModel", "row", "(II)I"⟩ ∈ jTB := jtb (List.mem_of_getElem? (i := 1917) (by decide +kernel)) (by decide +kernel)
theorem kw_1918 : Cond.selects "PrivateViewsModel" ⟨"PrivateViewsModel", "row", "(II)I"⟩ ⟨"PrivateViewsModel", "row", "(II)I"⟩ ∈ jTB := jtb (List.mem_of_getElem? (i := 1918) (by decide +kernel)) (by decide +kernel)
theorem kw_1919 : Cond.code ⟨"PrivateViewsModel", "row", "(II)I"⟩ prog_14_method_97_code 3 (some .int) ∈ jTB := jtb (List.mem_of_getElem? (i := 1919) (by decide +kernel)) (by decide +kernel)
theorem kw_1921 : Cond.instanceMethod ⟨"PrivateViewsModel", "place", "(II)I"⟩ ∈ jTB := jtb (List.mem_of_getElem? (i := 1921) (by decide +kernel)) (by decide +kernel)
theorem kw_1922 : Cond.selects "PrivateViewsModel" ⟨"PrivateViewsModel", "place", "(II)I"⟩ ⟨"PrivateViewsModel", "place", "(II)I"⟩ ∈ jTB := jtb (List.mem_of_getElem? (i := 1922) (by decide +kernel)) (by decide +kernel)
theorem kw_1923 : Cond.code ⟨"PrivateViewsModel", "place", "(II)I"⟩ prog_14_method_99_code 3 (some .int) ∈ jTB := jtb (List.mem_of_getElem? (i := 1923) (by decide +kernel)) (by decide +kernel)
theorem kw_1924 : Cond.methodLink "PrivateViewsModel" 341 ⟨"PrivateViewsModel", "noKey", "(II)Z"⟩ ∈ jTB := jtb (List.mem_of_getElem? (i := 1924) (by decide +kernel)) (by decide +kernel)
theorem kw_1926 : Cond.instanceMethod ⟨"PrivateViewsModel", "noKey", "(II)Z"⟩ ∈ jTB := jtb (List.mem_of_getElem? (i := 1926) (by decide +kernel)) (by decide +kernel)
theorem kw_1927 : Cond.code ⟨"PrivateViewsModel", "noKey", "(II)Z"⟩ prog_14_method_98_code 3 (some .boolean) ∈ jTB := jtb (List.mem_of_getElem? (i := 1927) (by decide +kernel)) (by decide +kernel)
theorem kw_1929 : Cond.instanceMethod ⟨"PrivateViewsModel", "about", "(II)I"⟩ ∈ jTB := jtb (List.mem_of_getElem? (i := 1929) (by decide +kernel)) (by decide +kernel)
theorem kw_1930 : Cond.selects "PrivateViewsModel" ⟨"PrivateViewsModel", "about", "(II)I"⟩ ⟨"PrivateViewsModel", "about", "(II)I"⟩ ∈ jTB := jtb (List.mem_of_getElem? (i := 1930) (by decide +kernel)) (by decide +kernel)
theorem kw_1931 : Cond.code ⟨"PrivateViewsModel", "about", "(II)I"⟩ prog_14_method_100_code 5 (some .int) ∈ jTB := jtb (List.mem_of_getElem? (i := 1931) (by decide +kernel)) (by decide +kernel)
theorem kw_1933 : Cond.instanceMethod ⟨"PrivateViewsModel", "sorts", "(II)I"⟩ ∈ jTB := jtb (List.mem_of_getElem? (i := 1933) (by decide +kernel)) (by decide +kernel)
theorem kw_1934 : Cond.selects "PrivateViewsModel" ⟨"PrivateViewsModel", "sorts", "(II)I"⟩ ⟨"PrivateViewsModel", "sorts", "(II)I"⟩ ∈ jTB := jtb (List.mem_of_getElem? (i := 1934) (by decide +kernel)) (by decide +kernel)
theorem kw_1935 : Cond.code ⟨"PrivateViewsModel", "sorts", "(II)I"⟩ prog_14_method_101_code 3 (some .int) ∈ jTB := jtb (List.mem_of_getElem? (i := 1935) (by decide +kernel)) (by decide +kernel)
theorem kw_1937 : Cond.instanceMethod ⟨"PrivateViewsModel", "fits", "(II)Z"⟩ ∈ jTB := jtb (List.mem_of_getElem? (i := 1937) (by decide +kernel)) (by decide +kernel)
theorem kw_1938 : Cond.selects "PrivateViewsModel" ⟨"PrivateViewsModel", "fits", "(II)Z"⟩ ⟨"PrivateViewsModel", "fits", "(II)Z"⟩ ∈ jTB := jtb (List.mem_of_getElem? (i := 1938) (by decide +kernel)) (by decide +kernel)
theorem kw_1939 : Cond.code ⟨"PrivateViewsModel", "fits", "(II)Z"⟩ prog_14_method_102_code 3 (some .boolean) ∈ jTB := jtb (List.mem_of_getElem? (i := 1939) (by decide +kernel)) (by decide +kernel)
theorem kw_1941 : Cond.instanceMethod ⟨"PrivateViewsModel", "why", "(II)I"⟩ ∈ jTB := jtb (List.mem_of_getElem? (i := 1941) (by decide +kernel)) (by decide +kernel)
theorem kw_1942 : Cond.selects "PrivateViewsModel" ⟨"PrivateViewsModel", "why", "(II)I"⟩ ⟨"PrivateViewsModel", "why", "(II)I"⟩ ∈ jTB := jtb (List.mem_of_getElem? (i := 1942) (by decide +kernel)) (by decide +kernel)
theorem kw_1943 : Cond.code ⟨"PrivateViewsModel", "why", "(II)I"⟩ prog_14_method_103_code 3 (some .int) ∈ jTB := jtb (List.mem_of_getElem? (i := 1943) (by decide +kernel)) (by decide +kernel)
theorem kw_1945 : Cond.instanceMethod ⟨"PrivateViewsModel", "stale", "(I)I"⟩ ∈ jTB := jtb (List.mem_of_getElem? (i := 1945) (by decide +kernel)) (by decide +kernel)
theorem kw_1946 : Cond.selects "PrivateViewsModel" ⟨"PrivateViewsModel", "stale", "(I)I"⟩ ⟨"PrivateViewsModel", "stale", "(I)I"⟩ ∈ jTB := jtb (List.mem_of_getElem? (i := 1946) (by decide +kernel)) (by decide +kernel)
theorem kw_1947 : Cond.code ⟨"PrivateViewsModel", "stale", "(I)I"⟩ prog_14_method_104_code 4 (some .int) ∈ jTB := jtb (List.mem_of_getElem? (i := 1947) (by decide +kernel)) (by decide +kernel)
theorem kw_1949 : Cond.instanceMethod ⟨"PrivateViewsModel", "pending", "(I)I"⟩ ∈ jTB := jtb (List.mem_of_getElem? (i := 1949) (by decide +kernel)) (by decide +kernel)
theorem kw_1950 : Cond.selects "PrivateViewsModel" ⟨"PrivateViewsModel", "pending", "(I)I"⟩ ⟨"PrivateViewsModel", "pending", "(I)I"⟩ ∈ jTB := jtb (List.mem_of_getElem? (i := 1950) (by decide +kernel)) (by decide +kernel)
theorem kw_1951 : Cond.code ⟨"PrivateViewsModel", "pending", "(I)I"⟩ prog_14_method_105_code 4 (some .int) ∈ jTB := jtb (List.mem_of_getElem? (i := 1951) (by decide +kernel)) (by decide +kernel)
theorem kw_1953 : Cond.instanceMethod ⟨"PrivateViewsModel", "rank", "(II)I"⟩ ∈ jTB := jtb (List.mem_of_getElem? (i := 1953) (by decide +kernel)) (by decide +kernel)
theorem kw_1954 : Cond.selects "PrivateViewsModel" ⟨"PrivateViewsModel", "rank", "(II)I"⟩ ⟨"PrivateViewsModel", "rank", "(II)I"⟩ ∈ jTB := jtb (List.mem_of_getElem? (i := 1954) (by decide +kernel)) (by decide +kernel)
theorem kw_1955 : Cond.code ⟨"PrivateViewsModel", "rank", "(II)I"⟩ prog_14_method_106_code 3 (some .int) ∈ jTB := jtb (List.mem_of_getElem? (i := 1955) (by decide +kernel)) (by decide +kernel)
theorem kw_1956 : Cond.methodLink "PrivateViewsModel" 344 ⟨"PrivateViewsModel", "rankOf", "(II)I"⟩ ∈ jTB := jtb (List.mem_of_getElem? (i := 1956) (by decide +kernel)) (by decide +kernel)
theorem kw_1958 : Cond.instanceMethod ⟨"PrivateViewsModel", "rankOf", "(II)I"⟩ ∈ jTB := jtb (List.mem_of_getElem? (i := 1958) (by decide +kernel)) (by decide +kernel)
theorem kw_1959 : Cond.code ⟨"PrivateViewsModel", "rankOf", "(II)I"⟩ prog_14_method_66_code 4 (some .int) ∈ jTB := jtb (List.mem_of_getElem? (i := 1959) (by decide +kernel)) (by decide +kernel)
theorem kw_1961 : Cond.instanceMethod ⟨"PrivateViewsModel", "moves", "(I)I"⟩ ∈ jTB := jtb (List.mem_of_getElem? (i := 1961) (by decide +kernel)) (by decide +kernel)
theorem kw_1962 : Cond.selects "PrivateViewsModel" ⟨"PrivateViewsModel", "moves", "(I)I"⟩ ⟨"PrivateViewsModel", "moves", "(I)I"⟩ ∈ jTB := jtb (List.mem_of_getElem? (i := 1962) (by decide +kernel)) (by decide +kernel)
theorem kw_1963 : Cond.code ⟨"PrivateViewsModel", "moves", "(I)I"⟩ prog_14_method_107_code 9 (some .int) ∈ jTB := jtb (List.mem_of_getElem? (i := 1963) (by decide +kernel)) (by decide +kernel)
theorem kw_1965 : Cond.instanceMethod ⟨"PrivateViewsModel", "unlike", "(II)I"⟩ ∈ jTB := jtb (List.mem_of_getElem? (i := 1965) (by decide +kernel)) (by decide +kernel)
theorem kw_1966 : Cond.selects "PrivateViewsModel" ⟨"PrivateViewsModel", "unlike", "(II)I"⟩ ⟨"PrivateViewsModel", "unlike", "(II)I"⟩ ∈ jTB := jtb (List.mem_of_getElem? (i := 1966) (by decide +kernel)) (by decide +kernel)
theorem kw_1967 : Cond.code ⟨"PrivateViewsModel", "unlike", "(II)I"⟩ prog_14_method_108_code 9 (some .int) ∈ jTB := jtb (List.mem_of_getElem? (i := 1967) (by decide +kernel)) (by decide +kernel)
theorem kw_1969 : Cond.instanceMethod ⟨"PrivateViewsModel", "told", "(II)I"⟩ ∈ jTB := jtb (List.mem_of_getElem? (i := 1969) (by decide +kernel)) (by decide +kernel)
theorem kw_1970 : Cond.selects "PrivateViewsModel" ⟨"PrivateViewsModel", "told", "(II)I"⟩ ⟨"PrivateViewsModel", "told", "(II)I"⟩ ∈ jTB := jtb (List.mem_of_getElem? (i := 1970) (by decide +kernel)) (by decide +kernel)
theorem kw_1971 : Cond.code ⟨"PrivateViewsModel", "told", "(II)I"⟩ prog_14_method_112_code 4 (some .int) ∈ jTB := jtb (List.mem_of_getElem? (i := 1971) (by decide +kernel)) (by decide +kernel)
theorem kw_1972 : Cond.methodLink "PrivateViewsModel" 353 ⟨"PrivateViewsModel", "sortsTelling", "(I)I"⟩ ∈ jTB := jtb (List.mem_of_getElem? (i := 1972) (by decide +kernel)) (by decide +kernel)
theorem kw_1974 : Cond.instanceMethod ⟨"PrivateViewsModel", "sortsTelling", "(I)I"⟩ ∈ jTB := jtb (List.mem_of_getElem? (i := 1974) (by decide +kernel)) (by decide +kernel)
theorem kw_1975 : Cond.code ⟨"PrivateViewsModel", "sortsTelling", "(I)I"⟩ prog_14_method_111_code 5 (some .int) ∈ jTB := jtb (List.mem_of_getElem? (i := 1975) (by decide +kernel)) (by decide +kernel)
theorem kw_1976 : Cond.methodLink "PrivateViewsModel" 350 ⟨"PrivateViewsModel", "isSorted", "(II)Z"⟩ ∈ jTB := jtb (List.mem_of_getElem? (i := 1976) (by decide +kernel)) (by decide +kernel)
theorem kw_1978 : Cond.instanceMethod ⟨"PrivateViewsModel", "isSorted", "(II)Z"⟩ ∈ jTB := jtb (List.mem_of_getElem? (i := 1978) (by decide +kernel)) (by decide +kernel)
theorem kw_1979 : Cond.code ⟨"PrivateViewsModel", "isSorted", "(II)Z"⟩ prog_14_method_109_code 5 (some .boolean) ∈ jTB := jtb (List.mem_of_getElem? (i := 1979) (by decide +kernel)) (by decide +kernel)
theorem kw_1980 : Cond.methodLink "PrivateViewsModel" 347 ⟨"PrivateViewsModel", "byTried", "(III)I"⟩ ∈ jTB := jtb (List.mem_of_getElem? (i := 1980) (by decide +kernel)) (by decide +kernel)
theorem kw_1982 : Cond.instanceMethod ⟨"PrivateViewsModel", "byTried", "(III)I"⟩ ∈ jTB := jtb (List.mem_of_getElem? (i := 1982) (by decide +kernel)) (by decide +kernel)
theorem kw_1983 : Cond.code ⟨"PrivateViewsModel", "byTried", "(III)I"⟩ prog_14_method_110_code 6 (some .int) ∈ jTB := jtb (List.mem_of_getElem? (i := 1983) (by decide +kernel)) (by decide +kernel)
theorem kw_1985 : Cond.instanceMethod ⟨"PrivateViewsModel", "between", "(III)I"⟩ ∈ jTB := jtb (List.mem_of_getElem? (i := 1985) (by decide +kernel)) (by decide +kernel)
theorem kw_1986 : Cond.selects "PrivateViewsModel" ⟨"PrivateViewsModel", "between", "(III)I"⟩ ⟨"PrivateViewsModel", "between", "(III)I"⟩ ∈ jTB := jtb (List.mem_of_getElem? (i := 1986) (by decide +kernel)) (by decide +kernel)
theorem kw_1987 : Cond.code ⟨"PrivateViewsModel", "between", "(III)I"⟩ prog_14_method_113_code 9 (some .int) ∈ jTB := jtb (List.mem_of_getElem? (i := 1987) (by decide +kernel)) (by decide +kernel)
theorem kw_1989 : Cond.instanceMethod ⟨"PrivateViewsModel", "sum", "(II)I"⟩ ∈ jTB := jtb (List.mem_of_getElem? (i := 1989) (by decide +kernel)) (by decide +kernel)
theorem kw_1990 : Cond.selects "PrivateViewsModel" ⟨"PrivateViewsModel", "sum", "(II)I"⟩ ⟨"PrivateViewsModel", "sum", "(II)I"⟩ ∈ jTB := jtb (List.mem_of_getElem? (i := 1990) (by decide +kernel)) (by decide +kernel)
theorem kw_1991 : Cond.code ⟨"PrivateViewsModel", "sum", "(II)I"⟩ prog_14_method_115_code 5 (some .int) ∈ jTB := jtb (List.mem_of_getElem? (i := 1991) (by decide +kernel)) (by decide +kernel)
theorem kw_1993 : Cond.instanceMethod ⟨"PrivateViewsModel", "kinds", "(II)I"⟩ ∈ jTB := jtb (List.mem_of_getElem? (i := 1993) (by decide +kernel)) (by decide +kernel)
theorem kw_1994 : Cond.selects "PrivateViewsModel" ⟨"PrivateViewsModel", "kinds", "(II)I"⟩ ⟨"PrivateViewsModel", "kinds", "(II)I"⟩ ∈ jTB := jtb (List.mem_of_getElem? (i := 1994) (by decide +kernel)) (by decide +kernel)
theorem kw_1995 : Cond.code ⟨"PrivateViewsModel", "kinds", "(II)I"⟩ prog_14_method_117_code 5 (some .int) ∈ jTB := jtb (List.mem_of_getElem? (i := 1995) (by decide +kernel)) (by decide +kernel)
theorem kw_1996 : Cond.methodLink "PrivateViewsModel" 356 ⟨"PrivateViewsModel", "firstPlace", "(IIII)I"⟩ ∈ jTB := jtb (List.mem_of_getElem? (i := 1996) (by decide +kernel)) (by decide +kernel)
theorem kw_1998 : Cond.instanceMethod ⟨"PrivateViewsModel", "firstPlace", "(IIII)I"⟩ ∈ jTB := jtb (List.mem_of_getElem? (i := 1998) (by decide +kernel)) (by decide +kernel)
theorem kw_1999 : Cond.code ⟨"PrivateViewsModel", "firstPlace", "(IIII)I"⟩ prog_14_method_116_code 6 (some .int) ∈ jTB := jtb (List.mem_of_getElem? (i := 1999) (by decide +kernel)) (by decide +kernel)
theorem kw_2001 : Cond.instanceMethod ⟨"PrivateViewsModel", "by", "(II)I"⟩ ∈ jTB := jtb (List.mem_of_getElem? (i := 2001) (by decide +kernel)) (by decide +kernel)
theorem kw_2002 : Cond.selects "PrivateViewsModel" ⟨"PrivateViewsModel", "by", "(II)I"⟩ ⟨"PrivateViewsModel", "by", "(II)I"⟩ ∈ jTB := jtb (List.mem_of_getElem? (i := 2002) (by decide +kernel)) (by decide +kernel)
theorem kw_2003 : Cond.code ⟨"PrivateViewsModel", "by", "(II)I"⟩ prog_14_method_118_code 3 (some .int) ∈ jTB := jtb (List.mem_of_getElem? (i := 2003) (by decide +kernel)) (by decide +kernel)
theorem kw_2005 : Cond.instanceMethod ⟨"PrivateViewsModel", "group", "(IIII)I"⟩ ∈ jTB := jtb (List.mem_of_getElem? (i := 2005) (by decide +kernel)) (by decide +kernel)
theorem kw_2006 : Cond.selects "PrivateViewsModel" ⟨"PrivateViewsModel", "group", "(IIII)I"⟩ ⟨"PrivateViewsModel", "group", "(IIII)I"⟩ ∈ jTB := jtb (List.mem_of_getElem? (i := 2006) (by decide +kernel)) (by decide +kernel)
theorem kw_2007 : Cond.code ⟨"PrivateViewsModel", "group", "(IIII)I"⟩ prog_14_method_121_code 10 (some .int) ∈ jTB := jtb (List.mem_of_getElem? (i := 2007) (by decide +kernel)) (by decide +kernel)
theorem kw_2008 : Cond.methodLink "PrivateViewsModel" 362 ⟨"PrivateViewsModel", "groupAt", "(III)I"⟩ ∈ jTB := jtb (List.mem_of_getElem? (i := 2008) (by decide +kernel)) (by decide +kernel)
theorem kw_2010 : Cond.instanceMethod ⟨"PrivateViewsModel", "groupAt", "(III)I"⟩ ∈ jTB := jtb (List.mem_of_getElem? (i := 2010) (by decide +kernel)) (by decide +kernel)
theorem kw_2011 : Cond.code ⟨"PrivateViewsModel", "groupAt", "(III)I"⟩ prog_14_method_120_code 6 (some .int) ∈ jTB := jtb (List.mem_of_getElem? (i := 2011) (by decide +kernel)) (by decide +kernel)
theorem kw_2012 : Cond.methodLink "PrivateViewsModel" 359 ⟨"PrivateViewsModel", "isFirst", "(III)Z"⟩ ∈ jTB := jtb (List.mem_of_getElem? (i := 2012) (by decide +kernel)) (by decide +kernel)
theorem kw_2014 : Cond.instanceMethod ⟨"PrivateViewsModel", "isFirst", "(III)Z"⟩ ∈ jTB := jtb (List.mem_of_getElem? (i := 2014) (by decide +kernel)) (by decide +kernel)
theorem kw_2015 : Cond.code ⟨"PrivateViewsModel", "isFirst", "(III)Z"⟩ prog_14_method_119_code 4 (some .boolean) ∈ jTB := jtb (List.mem_of_getElem? (i := 2015) (by decide +kernel)) (by decide +kernel)
theorem kw_2017 : Cond.instanceMethod ⟨"PrivateViewsModel", "total", "(IIII)I"⟩ ∈ jTB := jtb (List.mem_of_getElem? (i := 2017) (by decide +kernel)) (by decide +kernel)
theorem kw_2018 : Cond.selects "PrivateViewsModel" ⟨"PrivateViewsModel", "total", "(IIII)I"⟩ ⟨"PrivateViewsModel", "total", "(IIII)I"⟩ ∈ jTB := jtb (List.mem_of_getElem? (i := 2018) (by decide +kernel)) (by decide +kernel)
theorem kw_2019 : Cond.code ⟨"PrivateViewsModel", "total", "(IIII)I"⟩ prog_14_method_122_code 9 (some .int) ∈ jTB := jtb (List.mem_of_getElem? (i := 2019) (by decide +kernel)) (by decide +kernel)
theorem kw_2021 : Cond.instanceMethod ⟨"PrivateViewsModel", "middle", "(II)I"⟩ ∈ jTB := jtb (List.mem_of_getElem? (i := 2021) (by decide +kernel)) (by decide +kernel)
theorem kw_2022 : Cond.selects "PrivateViewsModel" ⟨"PrivateViewsModel", "middle", "(II)I"⟩ ⟨"PrivateViewsModel", "middle", "(II)I"⟩ ∈ jTB := jtb (List.mem_of_getElem? (i := 2022) (by decide +kernel)) (by decide +kernel)
theorem kw_2023 : Cond.code ⟨"PrivateViewsModel", "middle", "(II)I"⟩ prog_14_method_124_code 7 (some .int) ∈ jTB := jtb (List.mem_of_getElem? (i := 2023) (by decide +kernel)) (by decide +kernel)
theorem kw_2024 : Cond.methodLink "PrivateViewsModel" 365 ⟨"PrivateViewsModel", "upTo", "(IIIZ)I"⟩ ∈ jTB := jtb (List.mem_of_getElem? (i := 2024) (by decide +kernel)) (by decide +kernel)
theorem kw_2026 : Cond.instanceMethod ⟨"PrivateViewsModel", "upTo", "(IIIZ)I"⟩ ∈ jTB := jtb (List.mem_of_getElem? (i := 2026) (by decide +kernel)) (by decide +kernel)
theorem kw_2027 : Cond.code ⟨"PrivateViewsModel", "upTo", "(IIIZ)I"⟩ prog_14_method_123_code 8 (some .int) ∈ jTB := jtb (List.mem_of_getElem? (i := 2027) (by decide +kernel)) (by decide +kernel)
theorem kw_2029 : Cond.instanceMethod ⟨"PrivateViewsModel", "twice", "(I)I"⟩ ∈ jTB := jtb (List.mem_of_getElem? (i := 2029) (by decide +kernel)) (by decide +kernel)
theorem kw_2030 : Cond.selects "PrivateViewsModel" ⟨"PrivateViewsModel", "twice", "(I)I"⟩ ⟨"PrivateViewsModel", "twice", "(I)I"⟩ ∈ jTB := jtb (List.mem_of_getElem? (i := 2030) (by decide +kernel)) (by decide +kernel)
theorem kw_2031 : Cond.code ⟨"PrivateViewsModel", "twice", "(I)I"⟩ prog_14_method_126_code 5 (some .int) ∈ jTB := jtb (List.mem_of_getElem? (i := 2031) (by decide +kernel)) (by decide +kernel)
theorem kw_2032 : Cond.methodLink "PrivateViewsModel" 369 ⟨"PrivateViewsModel", "areTwins", "(III)Z"⟩ ∈ jTB := jtb (List.mem_of_getElem? (i := 2032) (by decide +kernel)) (by decide +kernel)
theorem kw_2034 : Cond.instanceMethod ⟨"PrivateViewsModel", "areTwins", "(III)Z"⟩ ∈ jTB := jtb (List.mem_of_getElem? (i := 2034) (by decide +kernel)) (by decide +kernel)
theorem kw_2035 : Cond.code ⟨"PrivateViewsModel", "areTwins", "(III)Z"⟩ prog_14_method_125_code 6 (some .boolean) ∈ jTB := jtb (List.mem_of_getElem? (i := 2035) (by decide +kernel)) (by decide +kernel)
theorem kw_2037 : Cond.instanceMethod ⟨"PrivateViewsModel", "find", "(IIII)I"⟩ ∈ jTB := jtb (List.mem_of_getElem? (i := 2037) (by decide +kernel)) (by decide +kernel)
theorem kw_2038 : Cond.selects "PrivateViewsModel" ⟨"PrivateViewsModel", "find", "(IIII)I"⟩ ⟨"PrivateViewsModel", "find", "(IIII)I"⟩ ∈ jTB := jtb (List.mem_of_getElem? (i := 2038) (by decide +kernel)) (by decide +kernel)
theorem kw_2039 : Cond.code ⟨"PrivateViewsModel", "find", "(IIII)I"⟩ prog_14_method_127_code 5 (some .int) ∈ jTB := jtb (List.mem_of_getElem? (i := 2039) (by decide +kernel)) (by decide +kernel)
theorem kw_2041 : Cond.instanceMethod ⟨"PrivateViewsModel", "log", "(II)I"⟩ ∈ jTB := jtb (List.mem_of_getElem? (i := 2041) (by decide +kernel)) (by decide +kernel)
theorem kw_2042 : Cond.selects "PrivateViewsModel" ⟨"PrivateViewsModel", "log", "(II)I"⟩ ⟨"PrivateViewsModel", "log", "(II)I"⟩ ∈ jTB := jtb (List.mem_of_getElem? (i := 2042) (by decide +kernel)) (by decide +kernel)
theorem kw_2043 : Cond.code ⟨"PrivateViewsModel", "log", "(II)I"⟩ prog_14_method_128_code 3 (some .int) ∈ jTB := jtb (List.mem_of_getElem? (i := 2043) (by decide +kernel)) (by decide +kernel)
theorem kw_2045 : Cond.instanceMethod ⟨"PrivateViewsModel", "count", "(I)I"⟩ ∈ jTB := jtb (List.mem_of_getElem? (i := 2045) (by decide +kernel)) (by decide +kernel)
theorem kw_2046 : Cond.selects "PrivateViewsModel" ⟨"PrivateViewsModel", "count", "(I)I"⟩ ⟨"PrivateViewsModel", "count", "(I)I"⟩ ∈ jTB := jtb (List.mem_of_getElem? (i := 2046) (by decide +kernel)) (by decide +kernel)
theorem kw_2047 : Cond.code ⟨"PrivateViewsModel", "count", "(I)I"⟩ prog_14_method_129_code 2 (some .int) ∈ jTB := jtb (List.mem_of_getElem? (i := 2047) (by decide +kernel)) (by decide +kernel)
theorem kw_cp3 : Cond.initialized "java/lang/System" ∈ jTB := jtb (List.mem_of_getElem? (i := 14) (by decide +kernel)) (by decide +kernel)
theorem kw_ma : Cond.initialized "java/lang/Math" ∈ jTB := jtb (List.mem_of_getElem? (i := 27) (by decide +kernel)) (by decide +kernel)
theorem kw_cp2 : Cond.static ⟨"java/lang/System", "arraycopy", "(Ljava/lang/Object;ILjava/lang/Object;II)V"⟩ ∈ jTB := jtb (List.mem_of_getElem? (i := 397) (by decide +kernel)) (by decide +kernel)
theorem kw_cp1 : Cond.native ⟨"java/lang/System", "arraycopy", "(Ljava/lang/Object;ILjava/lang/Object;II)V"⟩ ∈ jTB := jtb (List.mem_of_getElem? (i := 398) (by decide +kernel)) (by decide +kernel)
theorem kw_min1 : Cond.static ⟨"java/lang/Math", "min", "(II)I"⟩ ∈ jTB := jtb (List.mem_of_getElem? (i := 424) (by decide +kernel)) (by decide +kernel)
theorem kw_min2 : Cond.code ⟨"java/lang/Math", "min", "(II)I"⟩ prog_22_method_69_code 2 (some .int) ∈ jTB := jtb (List.mem_of_getElem? (i := 425) (by decide +kernel)) (by decide +kernel)
theorem kw_max1 : Cond.static ⟨"java/lang/Math", "max", "(II)I"⟩ ∈ jTB := jtb (List.mem_of_getElem? (i := 1107) (by decide +kernel)) (by decide +kernel)
theorem kw_max2 : Cond.code ⟨"java/lang/Math", "max", "(II)I"⟩ prog_22_method_65_code 2 (some .int) ∈ jTB := jtb (List.mem_of_getElem? (i := 1108) (by decide +kernel)) (by decide +kernel)
theorem kn_43 : Cond.fieldLinkNest "PrivateViews" 37 "PrivateViews$Reader" "fed" "I" "PrivateViews" ∈ jNest := jnest (List.mem_of_getElem? (i := 43) (by decide +kernel)) (by decide +kernel)
theorem kn_47 : Cond.fieldLinkNest "PrivateViews$Texts" 78 "PrivateViews$Reader" "at" "I" "PrivateViews" ∈ jNest := jnest (List.mem_of_getElem? (i := 47) (by decide +kernel)) (by decide +kernel)
theorem kn_49 : Cond.fieldLinkNest "PrivateViews" 110 "PrivateViews$Reader" "wrong" "I" "PrivateViews" ∈ jNest := jnest (List.mem_of_getElem? (i := 49) (by decide +kernel)) (by decide +kernel)
theorem kn_50 : Cond.fieldLinkNest "PrivateViews$Texts" 112 "PrivateViews$Reader" "value" "I" "PrivateViews" ∈ jNest := jnest (List.mem_of_getElem? (i := 50) (by decide +kernel)) (by decide +kernel)
theorem kn_52 : Cond.fieldLinkNest "PrivateViews$Texts" 148 "PrivateViews$Reader" "began" "I" "PrivateViews" ∈ jNest := jnest (List.mem_of_getElem? (i := 52) (by decide +kernel)) (by decide +kernel)
theorem kn_90 : Cond.fieldLinkNest "PrivateViews$Lens" 22 "PrivateViews$Filter" "tests" "I" "PrivateViews" ∈ jNest := jnest (List.mem_of_getElem? (i := 90) (by decide +kernel)) (by decide +kernel)
theorem kn_91 : Cond.fieldLinkNest "PrivateViews$Texts" 173 "PrivateViews$Filter" "tests" "I" "PrivateViews" ∈ jNest := jnest (List.mem_of_getElem? (i := 91) (by decide +kernel)) (by decide +kernel)
theorem kn_110 : Cond.fieldLinkNest "PrivateViews" 139 "PrivateViews$Lens" "sortsTold" "I" "PrivateViews" ∈ jNest := jnest (List.mem_of_getElem? (i := 110) (by decide +kernel)) (by decide +kernel)
theorem kn_111 : Cond.fieldLinkNest "PrivateViews$Texts" 151 "PrivateViews$Lens" "sortsTold" "I" "PrivateViews" ∈ jNest := jnest (List.mem_of_getElem? (i := 111) (by decide +kernel)) (by decide +kernel)
theorem kn_113 : Cond.fieldLinkNest "PrivateViews" 142 "PrivateViews$Lens" "hidden" "I" "PrivateViews" ∈ jNest := jnest (List.mem_of_getElem? (i := 113) (by decide +kernel)) (by decide +kernel)
theorem kn_114 : Cond.fieldLinkNest "PrivateViews$Texts" 166 "PrivateViews$Lens" "hidden" "I" "PrivateViews" ∈ jNest := jnest (List.mem_of_getElem? (i := 114) (by decide +kernel)) (by decide +kernel)
theorem kn_124 : Cond.fieldLinkNest "PrivateViews$State" 39 "PrivateViews$Texts" "columns" "I" "PrivateViews" ∈ jNest := jnest (List.mem_of_getElem? (i := 124) (by decide +kernel)) (by decide +kernel)
theorem kn_127 : Cond.fieldLinkNest "PrivateViews$State" 46 "PrivateViews$Texts" "kindsTold" "[I" "PrivateViews" ∈ jNest := jnest (List.mem_of_getElem? (i := 127) (by decide +kernel)) (by decide +kernel)
theorem kn_129 : Cond.fieldLinkNest "PrivateViews$State" 57 "PrivateViews$Texts" "rowsTold" "I" "PrivateViews" ∈ jNest := jnest (List.mem_of_getElem? (i := 129) (by decide +kernel)) (by decide +kernel)
theorem kn_130 : Cond.fieldLinkNest "PrivateViews" 191 "PrivateViews$Texts" "rowsTold" "I" "PrivateViews" ∈ jNest := jnest (List.mem_of_getElem? (i := 130) (by decide +kernel)) (by decide +kernel)
theorem kn_134 : Cond.fieldLinkNest "PrivateViews" 89 "PrivateViews$Texts" "lens" "LPrivateViews$Lens;" "PrivateViews" ∈ jNest := jnest (List.mem_of_getElem? (i := 134) (by decide +kernel)) (by decide +kernel)
theorem kn_173 : Cond.fieldLinkNest "PrivateViews$State" 45 "PrivateViews$Sheet" "columns" "I" "PrivateViews" ∈ jNest := jnest (List.mem_of_getElem? (i := 173) (by decide +kernel)) (by decide +kernel)
theorem kn_175 : Cond.fieldLinkNest "PrivateViews$Texts" 37 "PrivateViews$Sheet" "columns" "I" "PrivateViews" ∈ jNest := jnest (List.mem_of_getElem? (i := 175) (by decide +kernel)) (by decide +kernel)
theorem kn_176 : Cond.fieldLinkNest "PrivateViews$Questions" 107 "PrivateViews$Sheet" "columns" "I" "PrivateViews" ∈ jNest := jnest (List.mem_of_getElem? (i := 176) (by decide +kernel)) (by decide +kernel)
theorem kn_177 : Cond.fieldLinkNest "PrivateViews" 206 "PrivateViews$Sheet" "columns" "I" "PrivateViews" ∈ jNest := jnest (List.mem_of_getElem? (i := 177) (by decide +kernel)) (by decide +kernel)
theorem kn_179 : Cond.fieldLinkNest "PrivateViews$State" 50 "PrivateViews$Sheet" "kindsTold" "[I" "PrivateViews" ∈ jNest := jnest (List.mem_of_getElem? (i := 179) (by decide +kernel)) (by decide +kernel)
theorem kn_180 : Cond.fieldLinkNest "PrivateViews$Texts" 43 "PrivateViews$Sheet" "kindsTold" "[I" "PrivateViews" ∈ jNest := jnest (List.mem_of_getElem? (i := 180) (by decide +kernel)) (by decide +kernel)
theorem kn_185 : Cond.fieldLinkNest "PrivateViews$State" 76 "PrivateViews$Sheet" "ordered" "LPrivateViews$RowList;" "PrivateViews" ∈ jNest := jnest (List.mem_of_getElem? (i := 185) (by decide +kernel)) (by decide +kernel)
theorem kn_186 : Cond.fieldLinkNest "PrivateViews$Questions" 69 "PrivateViews$Sheet" "ordered" "LPrivateViews$RowList;" "PrivateViews" ∈ jNest := jnest (List.mem_of_getElem? (i := 186) (by decide +kernel)) (by decide +kernel)
theorem kn_187 : Cond.fieldLinkNest "PrivateViews" 127 "PrivateViews$Sheet" "ordered" "LPrivateViews$RowList;" "PrivateViews" ∈ jNest := jnest (List.mem_of_getElem? (i := 187) (by decide +kernel)) (by decide +kernel)
theorem kn_188 : Cond.fieldLinkNest "PrivateViews$State" 90 "PrivateViews$Sheet" "texts" "I" "PrivateViews" ∈ jNest := jnest (List.mem_of_getElem? (i := 188) (by decide +kernel)) (by decide +kernel)
theorem kn_189 : Cond.fieldLinkNest "PrivateViews" 59 "PrivateViews$Sheet" "texts" "I" "PrivateViews" ∈ jNest := jnest (List.mem_of_getElem? (i := 189) (by decide +kernel)) (by decide +kernel)
theorem kn_192 : Cond.fieldLinkNest "PrivateViews" 339 "PrivateViews$Sheet" "keysSoFar" "I" "PrivateViews" ∈ jNest := jnest (List.mem_of_getElem? (i := 192) (by decide +kernel)) (by decide +kernel)
theorem kn_221 : Cond.fieldLinkNest "PrivateViews" 342 "PrivateViews$Log" "size" "I" "PrivateViews" ∈ jNest := jnest (List.mem_of_getElem? (i := 221) (by decide +kernel)) (by decide +kernel)
theorem kn_236 : Cond.fieldLinkNest "PrivateViews$State" 125 "PrivateViews$Edit" "changes" "I" "PrivateViews" ∈ jNest := jnest (List.mem_of_getElem? (i := 236) (by decide +kernel)) (by decide +kernel)
theorem kn_238 : Cond.fieldLinkNest "PrivateViews$State" 161 "PrivateViews$Edit" "keys" "[I" "PrivateViews" ∈ jNest := jnest (List.mem_of_getElem? (i := 238) (by decide +kernel)) (by decide +kernel)
theorem kn_240 : Cond.fieldLinkNest "PrivateViews$State" 164 "PrivateViews$Edit" "columns" "[I" "PrivateViews" ∈ jNest := jnest (List.mem_of_getElem? (i := 240) (by decide +kernel)) (by decide +kernel)
theorem kn_242 : Cond.fieldLinkNest "PrivateViews$State" 169 "PrivateViews$Edit" "were" "[I" "PrivateViews" ∈ jNest := jnest (List.mem_of_getElem? (i := 242) (by decide +kernel)) (by decide +kernel)
theorem kn_244 : Cond.fieldLinkNest "PrivateViews$State" 172 "PrivateViews$Edit" "became" "[I" "PrivateViews" ∈ jNest := jnest (List.mem_of_getElem? (i := 244) (by decide +kernel)) (by decide +kernel)
theorem kn_269 : Cond.fieldLinkNest "PrivateViews$Questions" 28 "PrivateViews$View" "lens" "LPrivateViews$Lens;" "PrivateViews" ∈ jNest := jnest (List.mem_of_getElem? (i := 269) (by decide +kernel)) (by decide +kernel)
theorem kn_270 : Cond.fieldLinkNest "PrivateViews$State" 93 "PrivateViews$View" "lens" "LPrivateViews$Lens;" "PrivateViews" ∈ jNest := jnest (List.mem_of_getElem? (i := 270) (by decide +kernel)) (by decide +kernel)
theorem kn_271 : Cond.fieldLinkNest "PrivateViews" 83 "PrivateViews$View" "lens" "LPrivateViews$Lens;" "PrivateViews" ∈ jNest := jnest (List.mem_of_getElem? (i := 271) (by decide +kernel)) (by decide +kernel)
theorem kn_273 : Cond.fieldLinkNest "PrivateViews$Questions" 44 "PrivateViews$View" "list" "LPrivateViews$RowList;" "PrivateViews" ∈ jNest := jnest (List.mem_of_getElem? (i := 273) (by decide +kernel)) (by decide +kernel)
theorem kn_274 : Cond.fieldLinkNest "PrivateViews$State" 103 "PrivateViews$View" "list" "LPrivateViews$RowList;" "PrivateViews" ∈ jNest := jnest (List.mem_of_getElem? (i := 274) (by decide +kernel)) (by decide +kernel)
theorem kn_275 : Cond.fieldLinkNest "PrivateViews" 96 "PrivateViews$View" "list" "LPrivateViews$RowList;" "PrivateViews" ∈ jNest := jnest (List.mem_of_getElem? (i := 275) (by decide +kernel)) (by decide +kernel)
theorem kn_278 : Cond.fieldLinkNest "PrivateViews" 148 "PrivateViews$View" "remembered" "I" "PrivateViews" ∈ jNest := jnest (List.mem_of_getElem? (i := 278) (by decide +kernel)) (by decide +kernel)
theorem kn_289 : Cond.fieldLinkNest "PrivateViews$Questions" 59 "PrivateViews$State" "sheet" "LPrivateViews$Sheet;" "PrivateViews" ∈ jNest := jnest (List.mem_of_getElem? (i := 289) (by decide +kernel)) (by decide +kernel)
theorem kn_290 : Cond.fieldLinkNest "PrivateViews" 48 "PrivateViews$State" "sheet" "LPrivateViews$Sheet;" "PrivateViews" ∈ jNest := jnest (List.mem_of_getElem? (i := 290) (by decide +kernel)) (by decide +kernel)
theorem kn_292 : Cond.fieldLinkNest "PrivateViews" 348 "PrivateViews$State" "views" "[LPrivateViews$View;" "PrivateViews" ∈ jNest := jnest (List.mem_of_getElem? (i := 292) (by decide +kernel)) (by decide +kernel)
theorem kn_294 : Cond.fieldLinkNest "PrivateViews" 326 "PrivateViews$State" "log" "LPrivateViews$Log;" "PrivateViews" ∈ jNest := jnest (List.mem_of_getElem? (i := 294) (by decide +kernel)) (by decide +kernel)
theorem kn_318 : Cond.fieldLinkNest "PrivateViews" 279 "PrivateViews$Questions" "sortsNeeded" "I" "PrivateViews" ∈ jNest := jnest (List.mem_of_getElem? (i := 318) (by decide +kernel)) (by decide +kernel)
theorem jM_5_takeIn : jMy y_5_takeIn prog_7_method_2_code 3 none 1 := ⟨kw_357, kw_358, kw_2, kw_359, ⟨by decide, by decide, by decide +kernel⟩⟩
theorem jM_11_feed : jMy y_11_feed prog_1_method_2_code 6 (some .int) 5 := ⟨kw_353, kw_354, kw_1, kw_355, ⟨by decide, by decide, by decide +kernel⟩⟩
theorem jM_11_end : jMy y_11_end prog_1_method_3_code 2 (some .boolean) 1 := ⟨kw_361, kw_362, kw_1, kw_363, ⟨by decide, by decide, by decide +kernel⟩⟩
theorem jM_11_fault : jMy y_11_fault prog_1_method_6_code 1 (some .int) 0 := ⟨kw_365, kw_366, kw_1, kw_367, ⟨by decide, by decide, by decide +kernel⟩⟩
theorem jM_6_at : jMy y_6_at prog_8_method_3_code 2 (some .int) 1 := ⟨kw_373, kw_374, kw_8, kw_375, ⟨by decide, by decide, by decide +kernel⟩⟩
theorem jM_7_isSeat : jMy y_7_isSeat prog_9_method_4_code 2 (some .boolean) 1 := ⟨kw_382, (jtbs (by decide +kernel) (by decide +kernel)), kw_7, kw_383, ⟨by decide, by decide, by decide +kernel⟩⟩
theorem jM_7_keyAt : jMy y_7_keyAt prog_9_method_6_code 2 (some .int) 1 := ⟨kw_377, kw_378, kw_7, kw_379, ⟨by decide, by decide, by decide +kernel⟩⟩
theorem jM_11_order : jMy y_11_order prog_1_method_9_code 2 (some .int) 1 := ⟨kw_369, kw_370, kw_1, kw_371, ⟨by decide, by decide, by decide +kernel⟩⟩
theorem jM_6_copyFrom : jMy y_6_copyFrom prog_8_method_10_code 2 none 1 := ⟨kw_400, kw_401, kw_8, kw_402, ⟨by decide, by decide, by decide +kernel⟩⟩
theorem jM_7_copyFrom : jMy y_7_copyFrom prog_9_method_16_code 2 none 1 := ⟨kw_393, kw_394, kw_7, kw_395, ⟨by decide, by decide, by decide +kernel⟩⟩
theorem jM_1_copyFrom : jMy y_1_copyFrom prog_3_method_8_code 2 none 1 := ⟨kw_413, kw_414, kw_5, kw_415, ⟨by decide, by decide, by decide +kernel⟩⟩
theorem jM_2_copyFrom : jMy y_2_copyFrom prog_4_method_12_code 3 none 1 := ⟨kw_409, kw_410, kw_4, kw_411, ⟨by decide, by decide, by decide +kernel⟩⟩
theorem jM_0_copyFrom : jMy y_0_copyFrom prog_2_method_4_code 2 none 1 := ⟨kw_420, kw_421, kw_10, kw_422, ⟨by decide, by decide, by decide +kernel⟩⟩
theorem jM_10_copyFrom : jMy y_10_copyFrom prog_12_method_6_code 3 none 1 := ⟨kw_405, kw_406, kw_11, kw_407, ⟨by decide, by decide, by decide +kernel⟩⟩
theorem jM_3_copyFrom : jMy y_3_copyFrom prog_5_method_4_code 2 none 1 := ⟨kw_428, kw_429, kw_9, kw_430, ⟨by decide, by decide, by decide +kernel⟩⟩
theorem jM_8_copyFrom : jMy y_8_copyFrom prog_10_method_12_code 3 none 1 := ⟨kw_389, kw_390, kw_6, kw_391, ⟨by decide, by decide, by decide +kernel⟩⟩
theorem jM_11_back : jMy y_11_back prog_1_method_45_code 1 (some .boolean) 0 := ⟨kw_433, kw_434, kw_1, kw_435, ⟨by decide, by decide, by decide +kernel⟩⟩
theorem jM_6_length : jMy y_6_length prog_8_method_2_code 1 (some .int) 0 := ⟨kw_445, kw_446, kw_8, kw_447, ⟨by decide, by decide, by decide +kernel⟩⟩
theorem jM_7_rowsNow : jMy y_7_rowsNow prog_9_method_2_code 1 (some .int) 0 := ⟨kw_441, kw_442, kw_7, kw_443, ⟨by decide, by decide, by decide +kernel⟩⟩
theorem jM_11_count : jMy y_11_count prog_1_method_46_code 2 (some .int) 1 := ⟨kw_437, kw_438, kw_1, kw_439, ⟨by decide, by decide, by decide +kernel⟩⟩
theorem jM_5_useUp : jMy y_5_useUp prog_7_method_3_code 1 none 0 := ⟨kw_462, kw_463, kw_2, kw_464, ⟨by decide, by decide, by decide +kernel⟩⟩
theorem jM_5_openUsedText : jMy y_5_openUsedText prog_7_method_4_code 1 none 0 := ⟨kw_466, kw_467, kw_2, kw_468, ⟨by decide, by decide, by decide +kernel⟩⟩
theorem jM_5_openText : jMy y_5_openText prog_7_method_5_code 1 none 0 := ⟨kw_458, kw_459, kw_2, kw_460, ⟨by decide, by decide, by decide +kernel⟩⟩
theorem jM_9_knowColumns : jMy y_9_knowColumns prog_11_method_4_code 2 none 1 := ⟨kw_475, (jtbs (by decide +kernel) (by decide +kernel)), kw_3, kw_476, ⟨by decide, by decide, by decide +kernel⟩⟩
theorem jM_5_skipBlanks : jMy y_5_skipBlanks prog_7_method_11_code 1 none 0 := ⟨kw_483, kw_484, kw_2, kw_485, ⟨by decide, by decide, by decide +kernel⟩⟩
theorem jM_5_isOver : jMy y_5_isOver prog_7_method_12_code 1 (some .boolean) 0 := ⟨kw_479, kw_480, kw_2, kw_481, ⟨by decide, by decide, by decide +kernel⟩⟩
theorem jM_5_isWordHere : jMy y_5_isWordHere prog_7_method_14_code 4 (some .boolean) 1 := ⟨kw_498, kw_499, kw_2, kw_500, ⟨by decide, by decide, by decide +kernel⟩⟩
theorem jM_5_takeWord : jMy y_5_takeWord prog_7_method_15_code 2 (some .boolean) 1 := ⟨kw_494, kw_495, kw_2, kw_496, ⟨by decide, by decide, by decide +kernel⟩⟩
theorem jM_5_failHere : jMy y_5_failHere prog_7_method_7_code 1 (some .boolean) 0 := ⟨kw_556, kw_557, kw_2, kw_558, ⟨by decide, by decide, by decide +kernel⟩⟩
theorem jM_9_readKinds : jMy y_9_readKinds prog_11_method_10_code 3 (some .boolean) 1 := ⟨kw_551, (jtbs (by decide +kernel) (by decide +kernel)), kw_3, kw_552, ⟨by decide, by decide, by decide +kernel⟩⟩
theorem jM_5_failAt : jMy y_5_failAt prog_7_method_6_code 2 (some .boolean) 1 := ⟨kw_560, kw_561, kw_2, kw_562, ⟨by decide, by decide, by decide +kernel⟩⟩
theorem jM_9_beginRow : jMy y_9_beginRow prog_11_method_6_code 1 none 0 := ⟨kw_570, (jtbs (by decide +kernel) (by decide +kernel)), kw_3, kw_571, ⟨by decide, by decide, by decide +kernel⟩⟩
theorem jM_9_kindAsked : jMy y_9_kindAsked prog_11_method_5_code 2 (some .int) 1 := ⟨kw_574, (jtbs (by decide +kernel) (by decide +kernel)), kw_3, kw_575, ⟨by decide, by decide, by decide +kernel⟩⟩
theorem jM_5_byteAt : jMy y_5_byteAt prog_7_method_8_code 2 (some .int) 1 := ⟨kw_585, kw_586, kw_2, kw_587, ⟨by decide, by decide, by decide +kernel⟩⟩
theorem jM_5_takeSign : jMy y_5_takeSign prog_7_method_13_code 2 (some .boolean) 1 := ⟨kw_581, kw_582, kw_2, kw_583, ⟨by decide, by decide, by decide +kernel⟩⟩
theorem jM_5_isDigitAt : jMy y_5_isDigitAt prog_7_method_10_code 2 (some .boolean) 1 := ⟨kw_594, kw_595, kw_2, kw_596, ⟨by decide, by decide, by decide +kernel⟩⟩
theorem jM_5_takeNumber : jMy y_5_takeNumber prog_7_method_16_code 6 (some .boolean) 1 := ⟨kw_590, kw_591, kw_2, kw_592, ⟨by decide, by decide, by decide +kernel⟩⟩
theorem jM_5_isLetterAt : jMy y_5_isLetterAt prog_7_method_9_code 2 (some .boolean) 1 := ⟨kw_603, kw_604, kw_2, kw_605, ⟨by decide, by decide, by decide +kernel⟩⟩
theorem jM_5_takeLetters : jMy y_5_takeLetters prog_7_method_18_code 4 (some .boolean) 0 := ⟨kw_600, (jtbs (by decide +kernel) (by decide +kernel)), kw_2, kw_601, ⟨by decide, by decide, by decide +kernel⟩⟩
theorem jM_5_takeCell : jMy y_5_takeCell prog_7_method_17_code 2 (some .boolean) 1 := ⟨kw_577, kw_578, kw_2, kw_579, ⟨by decide, by decide, by decide +kernel⟩⟩
theorem jM_9_takeValue : jMy y_9_takeValue prog_11_method_7_code 2 none 1 := ⟨kw_609, (jtbs (by decide +kernel) (by decide +kernel)), kw_3, kw_610, ⟨by decide, by decide, by decide +kernel⟩⟩
theorem jM_9_readCells : jMy y_9_readCells prog_11_method_11_code 3 (some .boolean) 1 := ⟨kw_566, (jtbs (by decide +kernel) (by decide +kernel)), kw_3, kw_567, ⟨by decide, by decide, by decide +kernel⟩⟩
theorem jM_9_readLine : jMy y_9_readLine prog_11_method_9_code 5 (some .boolean) 2 := ⟨kw_489, (jtbs (by decide +kernel) (by decide +kernel)), kw_3, kw_490, ⟨by decide, by decide, by decide +kernel⟩⟩
theorem jM_9_readSheet : jMy y_9_readSheet prog_11_method_8_code 4 (some .boolean) 2 := ⟨kw_470, kw_471, kw_3, kw_472, ⟨by decide, by decide, by decide +kernel⟩⟩
theorem jM_6_placeOf : jMy y_6_placeOf prog_8_method_4_code 3 (some .int) 1 := ⟨kw_707, kw_708, kw_8, kw_709, ⟨by decide, by decide, by decide +kernel⟩⟩
theorem jM_6_holds : jMy y_6_holds prog_8_method_5_code 2 (some .boolean) 1 := ⟨kw_703, kw_704, kw_8, kw_705, ⟨by decide, by decide, by decide +kernel⟩⟩
theorem jM_7_isColumn : jMy y_7_isColumn prog_9_method_3_code 2 (some .boolean) 1 := ⟨kw_717, kw_718, kw_7, kw_719, ⟨by decide, by decide, by decide +kernel⟩⟩
theorem jM_7_write : jMy y_7_write prog_9_method_10_code 5 none 4 := ⟨kw_713, kw_714, kw_7, kw_715, ⟨by decide, by decide, by decide +kernel⟩⟩
theorem jM_7_seatNewRow : jMy y_7_seatNewRow prog_9_method_13_code 3 (some .int) 0 := ⟨kw_699, kw_700, kw_7, kw_701, ⟨by decide, by decide, by decide +kernel⟩⟩
theorem jM_9_widthOf : jMy y_9_widthOf prog_11_method_3_code 2 (some .int) 1 := ⟨kw_721, kw_722, kw_3, kw_723, ⟨by decide, by decide, by decide +kernel⟩⟩
theorem jM_9_toldAt : jMy y_9_toldAt prog_11_method_2_code 4 (some .int) 2 := ⟨kw_725, kw_726, kw_3, kw_727, ⟨by decide, by decide, by decide +kernel⟩⟩
theorem jM_6_putAt : jMy y_6_putAt prog_8_method_6_code 4 none 2 := ⟨kw_736, kw_737, kw_8, kw_738, ⟨by decide, by decide, by decide +kernel⟩⟩
theorem jM_6_putLast : jMy y_6_putLast prog_8_method_7_code 2 none 1 := ⟨kw_732, kw_733, kw_8, kw_734, ⟨by decide, by decide, by decide +kernel⟩⟩
theorem jM_7_valueAt : jMy y_7_valueAt prog_9_method_8_code 3 (some .int) 2 := ⟨kw_748, kw_749, kw_7, kw_750, ⟨by decide, by decide, by decide +kernel⟩⟩
theorem jM_1_matches : jMs y_1_matches prog_3_method_5_code 7 (some .boolean) 3 := ⟨kw_761, kw_5, kw_762, ⟨by decide, by decide, by decide +kernel⟩⟩
theorem jM_1_isAs : jMy y_1_isAs prog_3_method_4_code 3 (some .boolean) 2 := ⟨kw_757, (jtbs (by decide +kernel) (by decide +kernel)), kw_5, kw_758, ⟨by decide, by decide, by decide +kernel⟩⟩
theorem jM_1_accepts : jMy y_1_accepts prog_3_method_3_code 4 (some .boolean) 1 := ⟨kw_752, kw_753, kw_5, kw_754, ⟨by decide, by decide, by decide +kernel⟩⟩
theorem jM_2_firstUnlike : jMy y_2_firstUnlike prog_4_method_9_code 4 (some .int) 2 := ⟨kw_744, kw_745, kw_4, kw_746, ⟨by decide, by decide, by decide +kernel⟩⟩
theorem jM_8_joinOthers : jMy y_8_joinOthers prog_10_method_3_code 4 none 2 := ⟨kw_740, kw_741, kw_6, kw_742, ⟨by decide, by decide, by decide +kernel⟩⟩
theorem jM_8_takeSheetText : jMy y_8_takeSheetText prog_10_method_2_code 5 none 1 := ⟨kw_694, kw_695, kw_6, kw_696, ⟨by decide, by decide, by decide +kernel⟩⟩
theorem jM_11_sheet : jMy y_11_sheet prog_1_method_4_code 1 (some .int) 0 := ⟨kw_454, kw_455, kw_1, kw_456, ⟨by decide, by decide, by decide +kernel⟩⟩
theorem jM_11_viewNumbered : jMy y_11_viewNumbered prog_1_method_47_code 2 (some ((.object "PrivateViews$View"))) 1 := ⟨kw_774, (jtbs (by decide +kernel) (by decide +kernel)), kw_1, kw_775, ⟨by decide, by decide, by decide +kernel⟩⟩
theorem jM_2_forget : jMy y_2_forget prog_4_method_2_code 2 none 0 := ⟨kw_797, kw_798, kw_4, kw_799, ⟨by decide, by decide, by decide +kernel⟩⟩
theorem jM_9_readColumn : jMy y_9_readColumn prog_11_method_14_code 2 (some .boolean) 1 := ⟨kw_811, (jtbs (by decide +kernel) (by decide +kernel)), kw_3, kw_812, ⟨by decide, by decide, by decide +kernel⟩⟩
theorem jM_2_filterOf : jMy y_2_filterOf prog_4_method_3_code 2 (some ((.object "PrivateViews$Filter"))) 1 := ⟨kw_815, kw_816, kw_4, kw_817, ⟨by decide, by decide, by decide +kernel⟩⟩
theorem jM_9_takeNots : jMy y_9_takeNots prog_11_method_18_code 3 (some .int) 1 := ⟨kw_820, (jtbs (by decide +kernel) (by decide +kernel)), kw_3, kw_821, ⟨by decide, by decide, by decide +kernel⟩⟩
theorem jM_1_takeTest : jMy y_1_takeTest prog_3_method_2_code 5 none 4 := ⟨kw_825, kw_826, kw_5, kw_827, ⟨by decide, by decide, by decide +kernel⟩⟩
theorem jM_9_readRange : jMy y_9_readRange prog_11_method_19_code 5 (some .boolean) 3 := ⟨kw_830, (jtbs (by decide +kernel) (by decide +kernel)), kw_3, kw_831, ⟨by decide, by decide, by decide +kernel⟩⟩
theorem jM_9_isPatternSign : jMy y_9_isPatternSign prog_11_method_21_code 3 (some .boolean) 2 := ⟨kw_844, (jtbs (by decide +kernel) (by decide +kernel)), kw_3, kw_845, ⟨by decide, by decide, by decide +kernel⟩⟩
theorem jM_1_withSign : jMs y_1_withSign prog_3_method_6_code 3 (some .int) 3 := ⟨kw_849, kw_5, kw_850, ⟨by decide, by decide, by decide +kernel⟩⟩
theorem jM_9_readPattern : jMy y_9_readPattern prog_11_method_20_code 8 (some .boolean) 3 := ⟨kw_835, (jtbs (by decide +kernel) (by decide +kernel)), kw_3, kw_836, ⟨by decide, by decide, by decide +kernel⟩⟩
theorem jM_9_readFilter : jMy y_9_readFilter prog_11_method_17_code 7 (some .boolean) 1 := ⟨kw_807, (jtbs (by decide +kernel) (by decide +kernel)), kw_3, kw_808, ⟨by decide, by decide, by decide +kernel⟩⟩
theorem jM_2_sortAt : jMy y_2_sortAt prog_4_method_5_code 2 (some .int) 1 := ⟨kw_860, kw_861, kw_4, kw_862, ⟨by decide, by decide, by decide +kernel⟩⟩
theorem jM_2_sortsBy : jMy y_2_sortsBy prog_4_method_6_code 3 (some .boolean) 1 := ⟨kw_856, kw_857, kw_4, kw_858, ⟨by decide, by decide, by decide +kernel⟩⟩
theorem jM_2_takeSort : jMy y_2_takeSort prog_4_method_7_code 2 none 1 := ⟨kw_864, kw_865, kw_4, kw_866, ⟨by decide, by decide, by decide +kernel⟩⟩
theorem jM_9_readSort : jMy y_9_readSort prog_11_method_15_code 4 (some .boolean) 3 := ⟨kw_853, (jtbs (by decide +kernel) (by decide +kernel)), kw_3, kw_854, ⟨by decide, by decide, by decide +kernel⟩⟩
theorem jM_2_hides : jMy y_2_hides prog_4_method_4_code 2 (some .boolean) 1 := ⟨kw_872, kw_873, kw_4, kw_874, ⟨by decide, by decide, by decide +kernel⟩⟩
theorem jM_9_readHide : jMy y_9_readHide prog_11_method_16_code 2 (some .boolean) 1 := ⟨kw_869, (jtbs (by decide +kernel) (by decide +kernel)), kw_3, kw_870, ⟨by decide, by decide, by decide +kernel⟩⟩
theorem jM_9_readPart : jMy y_9_readPart prog_11_method_13_code 3 (some .boolean) 1 := ⟨kw_802, (jtbs (by decide +kernel) (by decide +kernel)), kw_3, kw_803, ⟨by decide, by decide, by decide +kernel⟩⟩
theorem jM_9_readView : jMy y_9_readView prog_11_method_12_code 4 (some .boolean) 2 := ⟨kw_793, kw_794, kw_3, kw_795, ⟨by decide, by decide, by decide +kernel⟩⟩
theorem jM_6_takeAllOut : jMy y_6_takeAllOut prog_8_method_9_code 1 none 0 := ⟨kw_881, kw_882, kw_8, kw_883, ⟨by decide, by decide, by decide +kernel⟩⟩
theorem jM_7_compareBy : jMy y_7_compareBy prog_9_method_14_code 7 (some .int) 3 := ⟨kw_891, kw_892, kw_7, kw_893, ⟨by decide, by decide, by decide +kernel⟩⟩
theorem jM_2_isAhead : jMy y_2_isAhead prog_4_method_11_code 6 (some .boolean) 3 := ⟨kw_887, kw_888, kw_4, kw_889, ⟨by decide, by decide, by decide +kernel⟩⟩
theorem jM_8_freshInto : jMy y_8_freshInto prog_10_method_5_code 6 none 2 := ⟨kw_877, kw_878, kw_6, kw_879, ⟨by decide, by decide, by decide +kernel⟩⟩
theorem jM_11_view : jMy y_11_view prog_1_method_5_code 3 (some .int) 1 := ⟨kw_768, kw_769, kw_1, kw_770, ⟨by decide, by decide, by decide +kernel⟩⟩
theorem jM_11_needColumn : jMy y_11_needColumn prog_1_method_50_code 2 none 1 := ⟨kw_906, (jtbs (by decide +kernel) (by decide +kernel)), kw_1, kw_907, ⟨by decide, by decide, by decide +kernel⟩⟩
theorem jM_7_kindOf : jMy y_7_kindOf prog_9_method_5_code 2 (some .int) 1 := ⟨kw_910, kw_911, kw_7, kw_912, ⟨by decide, by decide, by decide +kernel⟩⟩
theorem jM_11_kind : jMy y_11_kind prog_1_method_7_code 2 (some .int) 1 := ⟨kw_901, kw_902, kw_1, kw_903, ⟨by decide, by decide, by decide +kernel⟩⟩
theorem jM_7_seatOf : jMy y_7_seatOf prog_9_method_7_code 4 (some .int) 1 := ⟨kw_925, kw_926, kw_7, kw_927, ⟨by decide, by decide, by decide +kernel⟩⟩
theorem jM_11_seatOfKey : jMy y_11_seatOfKey prog_1_method_49_code 3 (some .int) 1 := ⟨kw_922, (jtbs (by decide +kernel) (by decide +kernel)), kw_1, kw_923, ⟨by decide, by decide, by decide +kernel⟩⟩
theorem jM_11_cell : jMy y_11_cell prog_1_method_8_code 4 (some .int) 2 := ⟨kw_917, kw_918, kw_1, kw_919, ⟨by decide, by decide, by decide +kernel⟩⟩
theorem jM_11_row : jMy y_11_row prog_1_method_10_code 3 (some .int) 2 := ⟨kw_935, kw_936, kw_1, kw_937, ⟨by decide, by decide, by decide +kernel⟩⟩
theorem jM_11_place : jMy y_11_place prog_1_method_11_code 4 (some .int) 2 := ⟨kw_942, kw_943, kw_1, kw_944, ⟨by decide, by decide, by decide +kernel⟩⟩
theorem jM_2_filteredBits : jMy y_2_filteredBits prog_4_method_8_code 3 (some .int) 0 := ⟨kw_955, kw_956, kw_4, kw_957, ⟨by decide, by decide, by decide +kernel⟩⟩
theorem jM_11_about : jMy y_11_about prog_1_method_12_code 4 (some .int) 2 := ⟨kw_951, kw_952, kw_1, kw_953, ⟨by decide, by decide, by decide +kernel⟩⟩
theorem jM_11_sorts : jMy y_11_sorts prog_1_method_13_code 3 (some .int) 2 := ⟨kw_977, kw_978, kw_1, kw_979, ⟨by decide, by decide, by decide +kernel⟩⟩
theorem jM_11_seatAtPlace : jMy y_11_seatAtPlace prog_1_method_48_code 4 (some .int) 2 := ⟨kw_991, (jtbs (by decide +kernel) (by decide +kernel)), kw_1, kw_992, ⟨by decide, by decide, by decide +kernel⟩⟩
theorem jM_11_needShown : jMy y_11_needShown prog_1_method_51_code 3 none 2 := ⟨kw_995, (jtbs (by decide +kernel) (by decide +kernel)), kw_1, kw_996, ⟨by decide, by decide, by decide +kernel⟩⟩
theorem jM_1_isWord : jMs y_1_isWord prog_3_method_7_code 4 (some .boolean) 1 := ⟨kw_1019, kw_5, kw_1020, ⟨by decide, by decide, by decide +kernel⟩⟩
theorem jM_7_mayHold : jMy y_7_mayHold prog_9_method_11_code 3 (some .boolean) 2 := ⟨kw_1014, kw_1015, kw_7, kw_1016, ⟨by decide, by decide, by decide +kernel⟩⟩
theorem jM_8_beginEdit : jMy y_8_beginEdit prog_10_method_6_code 1 none 0 := ⟨kw_1027, kw_1028, kw_6, kw_1029, ⟨by decide, by decide, by decide +kernel⟩⟩
theorem jM_0_takeChange : jMy y_0_takeChange prog_2_method_2_code 5 none 4 := ⟨kw_1037, kw_1038, kw_10, kw_1039, ⟨by decide, by decide, by decide +kernel⟩⟩
theorem jM_3_takeChange : jMy y_3_takeChange prog_5_method_2_code 7 none 5 := ⟨kw_1041, kw_1042, kw_9, kw_1043, ⟨by decide, by decide, by decide +kernel⟩⟩
theorem jM_8_changeCell : jMy y_8_changeCell prog_10_method_7_code 7 none 4 := ⟨kw_1031, kw_1032, kw_6, kw_1033, ⟨by decide, by decide, by decide +kernel⟩⟩
theorem jM_10_forgetOldest : jMy y_10_forgetOldest prog_12_method_4_code 3 none 0 := ⟨kw_1055, (jtbs (by decide +kernel) (by decide +kernel)), kw_11, kw_1056, ⟨by decide, by decide, by decide +kernel⟩⟩
theorem jM_10_remember : jMy y_10_remember prog_12_method_3_code 2 none 1 := ⟨kw_1050, kw_1051, kw_11, kw_1052, ⟨by decide, by decide, by decide +kernel⟩⟩
theorem jM_8_finishEdit : jMy y_8_finishEdit prog_10_method_8_code 2 (some .int) 1 := ⟨kw_1046, kw_1047, kw_6, kw_1048, ⟨by decide, by decide, by decide +kernel⟩⟩
theorem jM_11_changeOne : jMy y_11_changeOne prog_1_method_54_code 5 (some .int) 4 := ⟨kw_1024, (jtbs (by decide +kernel) (by decide +kernel)), kw_1, kw_1025, ⟨by decide, by decide, by decide +kernel⟩⟩
theorem jM_11_set : jMy y_11_set prog_1_method_14_code 7 (some .int) 4 := ⟨kw_986, kw_987, kw_1, kw_988, ⟨by decide, by decide, by decide +kernel⟩⟩
theorem jM_11_clear : jMy y_11_clear prog_1_method_15_code 6 (some .int) 3 := ⟨kw_1061, kw_1062, kw_1, kw_1063, ⟨by decide, by decide, by decide +kernel⟩⟩
theorem jM_11_fill : jMy y_11_fill prog_1_method_16_code 9 (some .int) 4 := ⟨kw_1069, kw_1070, kw_1, kw_1071, ⟨by decide, by decide, by decide +kernel⟩⟩
theorem jM_7_mayHoldOrBlank : jMy y_7_mayHoldOrBlank prog_9_method_12_code 3 (some .boolean) 2 := ⟨kw_1080, kw_1081, kw_7, kw_1082, ⟨by decide, by decide, by decide +kernel⟩⟩
theorem jM_11_replace : jMy y_11_replace prog_1_method_17_code 8 (some .int) 4 := ⟨kw_1076, kw_1077, kw_1, kw_1078, ⟨by decide, by decide, by decide +kernel⟩⟩
theorem jM_11_swap : jMy y_11_swap prog_1_method_18_code 10 (some .int) 4 := ⟨kw_1088, kw_1089, kw_1, kw_1090, ⟨by decide, by decide, by decide +kernel⟩⟩
theorem jM_9_readGrid : jMy y_9_readGrid prog_11_method_23_code 5 (some .boolean) 3 := ⟨kw_1104, (jtbs (by decide +kernel) (by decide +kernel)), kw_3, kw_1105, ⟨by decide, by decide, by decide +kernel⟩⟩
theorem jM_9_readGrids : jMy y_9_readGrids prog_11_method_22_code 6 (some .boolean) 4 := ⟨kw_1099, kw_1100, kw_3, kw_1101, ⟨by decide, by decide, by decide +kernel⟩⟩
theorem jM_8_pasteGrid : jMy y_8_pasteGrid prog_10_method_10_code 8 none 5 := ⟨kw_1116, (jtbs (by decide +kernel) (by decide +kernel)), kw_6, kw_1117, ⟨by decide, by decide, by decide +kernel⟩⟩
theorem jM_8_pasteGrids : jMy y_8_pasteGrids prog_10_method_9_code 9 (some .int) 4 := ⟨kw_1110, kw_1111, kw_6, kw_1112, ⟨by decide, by decide, by decide +kernel⟩⟩
theorem jM_11_paste : jMy y_11_paste prog_1_method_19_code 6 (some .int) 3 := ⟨kw_1095, kw_1096, kw_1, kw_1097, ⟨by decide, by decide, by decide +kernel⟩⟩
theorem jM_11_add : jMy y_11_add prog_1_method_20_code 6 (some .int) 2 := ⟨kw_1125, kw_1126, kw_1, kw_1127, ⟨by decide, by decide, by decide +kernel⟩⟩
theorem jM_6_takeOut : jMy y_6_takeOut prog_8_method_8_code 4 none 1 := ⟨kw_1143, kw_1144, kw_8, kw_1145, ⟨by decide, by decide, by decide +kernel⟩⟩
theorem jM_8_removeRow : jMy y_8_removeRow prog_10_method_4_code 3 none 1 := ⟨kw_1139, kw_1140, kw_6, kw_1141, ⟨by decide, by decide, by decide +kernel⟩⟩
theorem jM_11_drop : jMy y_11_drop prog_1_method_21_code 5 (some .int) 2 := ⟨kw_1135, kw_1136, kw_1, kw_1137, ⟨by decide, by decide, by decide +kernel⟩⟩
theorem jM_7_followList : jMy y_7_followList prog_9_method_15_code 4 none 2 := ⟨kw_1155, kw_1156, kw_7, kw_1157, ⟨by decide, by decide, by decide +kernel⟩⟩
theorem jM_11_drag : jMy y_11_drag prog_1_method_22_code 6 (some .int) 3 := ⟨kw_1150, kw_1151, kw_1, kw_1152, ⟨by decide, by decide, by decide +kernel⟩⟩
theorem jM_4_takeFresh : jMy y_4_takeFresh prog_6_method_2_code 5 (some .int) 2 := ⟨kw_1170, kw_1171, kw_12, kw_1172, ⟨by decide, by decide, by decide +kernel⟩⟩
theorem jM_11_refresh : jMy y_11_refresh prog_1_method_23_code 2 (some .int) 1 := ⟨kw_1166, kw_1167, kw_1, kw_1168, ⟨by decide, by decide, by decide +kernel⟩⟩
theorem jM_10_latestEdit : jMy y_10_latestEdit prog_12_method_2_code 1 (some ((.object "PrivateViews$Edit"))) 0 := ⟨kw_1186, kw_1187, kw_11, kw_1188, ⟨by decide, by decide, by decide +kernel⟩⟩
theorem jM_0_firstBarred : jMy y_0_firstBarred prog_2_method_3_code 4 (some .int) 1 := ⟨kw_1190, kw_1191, kw_10, kw_1192, ⟨by decide, by decide, by decide +kernel⟩⟩
theorem jM_10_forgetLatest : jMy y_10_forgetLatest prog_12_method_5_code 1 none 0 := ⟨kw_1201, kw_1202, kw_11, kw_1203, ⟨by decide, by decide, by decide +kernel⟩⟩
theorem jM_8_takeBack : jMy y_8_takeBack prog_10_method_11_code 6 (some .int) 2 := ⟨kw_1196, kw_1197, kw_6, kw_1198, ⟨by decide, by decide, by decide +kernel⟩⟩
theorem jM_11_undo : jMy y_11_undo prog_1_method_24_code 4 (some .int) 1 := ⟨kw_1182, kw_1183, kw_1, kw_1184, ⟨by decide, by decide, by decide +kernel⟩⟩
theorem jM_2_suits : jMy y_2_suits prog_4_method_10_code 3 (some .boolean) 2 := ⟨kw_1213, kw_1214, kw_4, kw_1215, ⟨by decide, by decide, by decide +kernel⟩⟩
theorem jM_11_fits : jMy y_11_fits prog_1_method_25_code 4 (some .boolean) 2 := ⟨kw_1209, kw_1210, kw_1, kw_1211, ⟨by decide, by decide, by decide +kernel⟩⟩
theorem jM_11_why : jMy y_11_why prog_1_method_26_code 4 (some .int) 2 := ⟨kw_1221, kw_1222, kw_1, kw_1223, ⟨by decide, by decide, by decide +kernel⟩⟩
theorem jM_4_staleBits : jMy y_4_staleBits prog_6_method_3_code 5 (some .int) 2 := ⟨kw_1233, kw_1234, kw_12, kw_1235, ⟨by decide, by decide, by decide +kernel⟩⟩
theorem jM_11_stale : jMy y_11_stale prog_1_method_27_code 2 (some .int) 1 := ⟨kw_1229, kw_1230, kw_1, kw_1231, ⟨by decide, by decide, by decide +kernel⟩⟩
theorem jM_4_pendingBits : jMy y_4_pendingBits prog_6_method_4_code 7 (some .int) 2 := ⟨kw_1245, kw_1246, kw_12, kw_1247, ⟨by decide, by decide, by decide +kernel⟩⟩
theorem jM_11_pending : jMy y_11_pending prog_1_method_28_code 2 (some .int) 1 := ⟨kw_1241, kw_1242, kw_1, kw_1243, ⟨by decide, by decide, by decide +kernel⟩⟩
theorem jM_4_freshPlace : jMy y_4_freshPlace prog_6_method_5_code 4 (some .int) 3 := ⟨kw_1256, kw_1257, kw_12, kw_1258, ⟨by decide, by decide, by decide +kernel⟩⟩
theorem jM_11_rank : jMy y_11_rank prog_1_method_29_code 4 (some .int) 2 := ⟨kw_1252, kw_1253, kw_1, kw_1254, ⟨by decide, by decide, by decide +kernel⟩⟩
theorem jM_4_longestBelow : jMy y_4_longestBelow prog_6_method_7_code 4 (some .int) 1 := ⟨kw_1273, (jtbs (by decide +kernel) (by decide +kernel)), kw_12, kw_1274, ⟨by decide, by decide, by decide +kernel⟩⟩
theorem jM_4_fewestMoves : jMy y_4_fewestMoves prog_6_method_6_code 7 (some .int) 2 := ⟨kw_1268, kw_1269, kw_12, kw_1270, ⟨by decide, by decide, by decide +kernel⟩⟩
theorem jM_11_moves : jMy y_11_moves prog_1_method_30_code 2 (some .int) 1 := ⟨kw_1264, kw_1265, kw_1, kw_1266, ⟨by decide, by decide, by decide +kernel⟩⟩
theorem jM_4_pairsTurned : jMy y_4_pairsTurned prog_6_method_8_code 8 (some .int) 2 := ⟨kw_1284, kw_1285, kw_12, kw_1286, ⟨by decide, by decide, by decide +kernel⟩⟩
theorem jM_11_unlike : jMy y_11_unlike prog_1_method_31_code 5 (some .int) 2 := ⟨kw_1280, kw_1281, kw_1, kw_1282, ⟨by decide, by decide, by decide +kernel⟩⟩
theorem jM_4_isTold : jMy y_4_isTold prog_6_method_13_code 9 (some .boolean) 4 := ⟨kw_1300, (jtbs (by decide +kernel) (by decide +kernel)), kw_12, kw_1301, ⟨by decide, by decide, by decide +kernel⟩⟩
theorem jM_4_tellOneSort : jMy y_4_tellOneSort prog_6_method_11_code 4 (some .boolean) 2 := ⟨kw_1305, (jtbs (by decide +kernel) (by decide +kernel)), kw_12, kw_1306, ⟨by decide, by decide, by decide +kernel⟩⟩
theorem jM_4_tellTwoSorts : jMy y_4_tellTwoSorts prog_6_method_12_code 5 (some .boolean) 2 := ⟨kw_1309, (jtbs (by decide +kernel) (by decide +kernel)), kw_12, kw_1310, ⟨by decide, by decide, by decide +kernel⟩⟩
theorem jM_4_tellSorts : jMy y_4_tellSorts prog_6_method_10_code 4 none 2 := ⟨kw_1295, kw_1296, kw_12, kw_1297, ⟨by decide, by decide, by decide +kernel⟩⟩
theorem jM_4_sortNeeded : jMy y_4_sortNeeded prog_6_method_9_code 2 (some .int) 1 := ⟨kw_1312, kw_1313, kw_12, kw_1314, ⟨by decide, by decide, by decide +kernel⟩⟩
theorem jM_11_told : jMy y_11_told prog_1_method_32_code 3 (some .int) 2 := ⟨kw_1291, kw_1292, kw_1, kw_1293, ⟨by decide, by decide, by decide +kernel⟩⟩
theorem jM_4_unseenBetween : jMy y_4_unseenBetween prog_6_method_14_code 9 (some .int) 4 := ⟨kw_1323, kw_1324, kw_12, kw_1325, ⟨by decide, by decide, by decide +kernel⟩⟩
theorem jM_11_between : jMy y_11_between prog_1_method_33_code 7 (some .int) 3 := ⟨kw_1319, kw_1320, kw_1, kw_1321, ⟨by decide, by decide, by decide +kernel⟩⟩
theorem jM_11_needNumbers : jMy y_11_needNumbers prog_1_method_52_code 2 none 1 := ⟨kw_1336, (jtbs (by decide +kernel) (by decide +kernel)), kw_1, kw_1337, ⟨by decide, by decide, by decide +kernel⟩⟩
theorem jM_4_sumOf : jMy y_4_sumOf prog_6_method_15_code 7 (some .int) 3 := ⟨kw_1339, kw_1340, kw_12, kw_1341, ⟨by decide, by decide, by decide +kernel⟩⟩
theorem jM_11_sum : jMy y_11_sum prog_1_method_34_code 4 (some .int) 2 := ⟨kw_1331, kw_1332, kw_1, kw_1333, ⟨by decide, by decide, by decide +kernel⟩⟩
theorem jM_4_isAlike : jMy y_4_isAlike prog_6_method_16_code 6 (some .boolean) 5 := ⟨kw_1361, (jtbs (by decide +kernel) (by decide +kernel)), kw_12, kw_1362, ⟨by decide, by decide, by decide +kernel⟩⟩
theorem jM_4_isFirstLike : jMy y_4_isFirstLike prog_6_method_17_code 6 (some .boolean) 4 := ⟨kw_1357, (jtbs (by decide +kernel) (by decide +kernel)), kw_12, kw_1358, ⟨by decide, by decide, by decide +kernel⟩⟩
theorem jM_4_groupsOf : jMy y_4_groupsOf prog_6_method_18_code 6 (some .int) 3 := ⟨kw_1352, kw_1353, kw_12, kw_1354, ⟨by decide, by decide, by decide +kernel⟩⟩
theorem jM_11_kinds : jMy y_11_kinds prog_1_method_35_code 4 (some .int) 2 := ⟨kw_1348, kw_1349, kw_1, kw_1350, ⟨by decide, by decide, by decide +kernel⟩⟩
theorem jM_7_writerAt : jMy y_7_writerAt prog_9_method_9_code 3 (some .int) 2 := ⟨kw_1371, kw_1372, kw_7, kw_1373, ⟨by decide, by decide, by decide +kernel⟩⟩
theorem jM_11_by : jMy y_11_by prog_1_method_36_code 4 (some .int) 2 := ⟨kw_1367, kw_1368, kw_1, kw_1369, ⟨by decide, by decide, by decide +kernel⟩⟩
theorem jM_4_groupStart : jMy y_4_groupStart prog_6_method_19_code 7 (some .int) 4 := ⟨kw_1386, kw_1387, kw_12, kw_1388, ⟨by decide, by decide, by decide +kernel⟩⟩
theorem jM_11_firstOfGroup : jMy y_11_firstOfGroup prog_1_method_53_code 5 (some .int) 3 := ⟨kw_1383, (jtbs (by decide +kernel) (by decide +kernel)), kw_1, kw_1384, ⟨by decide, by decide, by decide +kernel⟩⟩
theorem jM_4_rowsLike : jMy y_4_rowsLike prog_6_method_20_code 7 (some .int) 4 := ⟨kw_1390, kw_1391, kw_12, kw_1392, ⟨by decide, by decide, by decide +kernel⟩⟩
theorem jM_4_lastLike : jMy y_4_lastLike prog_6_method_21_code 7 (some .int) 4 := ⟨kw_1394, kw_1395, kw_12, kw_1396, ⟨by decide, by decide, by decide +kernel⟩⟩
theorem jM_11_group : jMy y_11_group prog_1_method_37_code 7 (some .int) 4 := ⟨kw_1378, kw_1379, kw_1, kw_1380, ⟨by decide, by decide, by decide +kernel⟩⟩
theorem jM_4_sumLike : jMy y_4_sumLike prog_6_method_22_code 9 (some .int) 5 := ⟨kw_1405, kw_1406, kw_12, kw_1407, ⟨by decide, by decide, by decide +kernel⟩⟩
theorem jM_11_total : jMy y_11_total prog_1_method_38_code 7 (some .int) 4 := ⟨kw_1401, kw_1402, kw_1, kw_1403, ⟨by decide, by decide, by decide +kernel⟩⟩
theorem jM_4_middleOf : jMy y_4_middleOf prog_6_method_23_code 8 (some .int) 3 := ⟨kw_1416, kw_1417, kw_12, kw_1418, ⟨by decide, by decide, by decide +kernel⟩⟩
theorem jM_11_middle : jMy y_11_middle prog_1_method_39_code 4 (some .int) 2 := ⟨kw_1412, kw_1413, kw_1, kw_1414, ⟨by decide, by decide, by decide +kernel⟩⟩
theorem jM_4_isSeenAlike : jMy y_4_isSeenAlike prog_6_method_25_code 6 (some .boolean) 4 := ⟨kw_1432, (jtbs (by decide +kernel) (by decide +kernel)), kw_12, kw_1433, ⟨by decide, by decide, by decide +kernel⟩⟩
theorem jM_4_repeatedBits : jMy y_4_repeatedBits prog_6_method_24_code 6 (some .int) 2 := ⟨kw_1427, kw_1428, kw_12, kw_1429, ⟨by decide, by decide, by decide +kernel⟩⟩
theorem jM_11_twice : jMy y_11_twice prog_1_method_40_code 2 (some .int) 1 := ⟨kw_1423, kw_1424, kw_1, kw_1425, ⟨by decide, by decide, by decide +kernel⟩⟩
theorem jM_11_barred : jMy y_11_barred prog_1_method_41_code 3 (some .int) 1 := ⟨kw_1439, kw_1440, kw_1, kw_1441, ⟨by decide, by decide, by decide +kernel⟩⟩
theorem jM_11_find : jMy y_11_find prog_1_method_42_code 7 (some .int) 4 := ⟨kw_1446, kw_1447, kw_1, kw_1448, ⟨by decide, by decide, by decide +kernel⟩⟩
theorem jM_3_partOf : jMy y_3_partOf prog_5_method_3_code 3 (some .int) 2 := ⟨kw_1457, kw_1458, kw_9, kw_1459, ⟨by decide, by decide, by decide +kernel⟩⟩
theorem jM_11_log : jMy y_11_log prog_1_method_43_code 3 (some .int) 2 := ⟨kw_1453, kw_1454, kw_1, kw_1455, ⟨by decide, by decide, by decide +kernel⟩⟩
theorem jM_12_thrown : jMy y_12_thrown prog_14_method_1_code 1 (some .int) 0 := ⟨kw_1464, kw_1465, kw_13, kw_1466, ⟨by decide, by decide, by decide +kernel⟩⟩
theorem jM_12_image : jMy y_12_image prog_14_method_6_code 2 none 0 := ⟨kw_1532, kw_1533, kw_13, kw_1534, ⟨by decide, by decide, by decide +kernel⟩⟩
theorem jM_12_back : jMy y_12_back prog_14_method_7_code 2 (some .boolean) 0 := ⟨kw_1536, kw_1537, kw_13, kw_1538, ⟨by decide, by decide, by decide +kernel⟩⟩
theorem jM_12_feed : jMy y_12_feed prog_14_method_27_code 7 (some .int) 5 := ⟨kw_1540, kw_1541, kw_13, kw_1542, ⟨by decide, by decide, by decide +kernel⟩⟩
theorem jM_12_end : jMy y_12_end prog_14_method_28_code 2 (some .boolean) 1 := ⟨kw_1544, kw_1545, kw_13, kw_1546, ⟨by decide, by decide, by decide +kernel⟩⟩
theorem jM_12_fault : jMy y_12_fault prog_14_method_39_code 1 (some .int) 0 := ⟨kw_1548, kw_1549, kw_13, kw_1550, ⟨by decide, by decide, by decide +kernel⟩⟩
theorem jM_12_uses : jMy y_12_uses prog_14_method_29_code 1 none 0 := ⟨kw_1557, (jtbs (by decide +kernel) (by decide +kernel)), kw_13, kw_1558, ⟨by decide, by decide, by decide +kernel⟩⟩
theorem jM_12_keepsAll : jMy y_12_keepsAll prog_14_method_8_code 2 none 0 := ⟨kw_1561, (jtbs (by decide +kernel) (by decide +kernel)), kw_13, kw_1562, ⟨by decide, by decide, by decide +kernel⟩⟩
theorem jM_12_isAt : jMy y_12_isAt prog_14_method_30_code 3 (some .boolean) 2 := ⟨kw_1573, (jtbs (by decide +kernel) (by decide +kernel)), kw_13, kw_1574, ⟨by decide, by decide, by decide +kernel⟩⟩
theorem jM_12_blanks : jMy y_12_blanks prog_14_method_31_code 1 none 0 := ⟨kw_1569, (jtbs (by decide +kernel) (by decide +kernel)), kw_13, kw_1570, ⟨by decide, by decide, by decide +kernel⟩⟩
theorem jM_12_letters : jMy y_12_letters prog_14_method_32_code 1 none 0 := ⟨kw_1577, (jtbs (by decide +kernel) (by decide +kernel)), kw_13, kw_1578, ⟨by decide, by decide, by decide +kernel⟩⟩
theorem jM_12_isWord : jMy y_12_isWord prog_14_method_33_code 4 (some .boolean) 1 := ⟨kw_1582, (jtbs (by decide +kernel) (by decide +kernel)), kw_13, kw_1583, ⟨by decide, by decide, by decide +kernel⟩⟩
theorem jM_12_columns : jMy y_12_columns prog_14_method_10_code 1 (some .int) 0 := ⟨kw_1592, (jtbs (by decide +kernel) (by decide +kernel)), kw_13, kw_1593, ⟨by decide, by decide, by decide +kernel⟩⟩
theorem jM_12_isLetter : jMy y_12_isLetter prog_14_method_41_code 1 (some .boolean) 0 := ⟨kw_1598, (jtbs (by decide +kernel) (by decide +kernel)), kw_13, kw_1599, ⟨by decide, by decide, by decide +kernel⟩⟩
theorem jM_12_readColumns : jMy y_12_readColumns prog_14_method_42_code 3 (some .boolean) 0 := ⟨kw_1588, (jtbs (by decide +kernel) (by decide +kernel)), kw_13, kw_1589, ⟨by decide, by decide, by decide +kernel⟩⟩
theorem jM_12_size : jMy y_12_size prog_14_method_15_code 2 (some .int) 1 := ⟨kw_1611, (jtbs (by decide +kernel) (by decide +kernel)), kw_13, kw_1612, ⟨by decide, by decide, by decide +kernel⟩⟩
theorem jM_12_rows : jMy y_12_rows prog_14_method_16_code 1 (some .int) 0 := ⟨kw_1607, (jtbs (by decide +kernel) (by decide +kernel)), kw_13, kw_1608, ⟨by decide, by decide, by decide +kernel⟩⟩
theorem jM_12_comes : jMy y_12_comes prog_14_method_25_code 4 (some .int) 0 := ⟨kw_1615, (jtbs (by decide +kernel) (by decide +kernel)), kw_13, kw_1616, ⟨by decide, by decide, by decide +kernel⟩⟩
theorem jM_12_sign : jMy y_12_sign prog_14_method_35_code 2 (some .boolean) 1 := ⟨kw_1624, (jtbs (by decide +kernel) (by decide +kernel)), kw_13, kw_1625, ⟨by decide, by decide, by decide +kernel⟩⟩
theorem jM_12_isWords : jMy y_12_isWords prog_14_method_26_code 2 (some .boolean) 1 := ⟨kw_1628, (jtbs (by decide +kernel) (by decide +kernel)), kw_13, kw_1629, ⟨by decide, by decide, by decide +kernel⟩⟩
theorem jM_12_in : jMs y_12_in prog_14_method_3_code 3 (some .boolean) 3 := ⟨kw_1639, kw_13, kw_1640, ⟨by decide, by decide, by decide +kernel⟩⟩
theorem jM_12_figures : jMy y_12_figures prog_14_method_36_code 6 (some .boolean) 3 := ⟨kw_1636, (jtbs (by decide +kernel) (by decide +kernel)), kw_13, kw_1637, ⟨by decide, by decide, by decide +kernel⟩⟩
theorem jM_12_signed : jMy y_12_signed prog_14_method_38_code 3 (some .boolean) 1 := ⟨kw_1632, (jtbs (by decide +kernel) (by decide +kernel)), kw_13, kw_1633, ⟨by decide, by decide, by decide +kernel⟩⟩
theorem jM_12_aValue : jMy y_12_aValue prog_14_method_40_code 4 (some .boolean) 1 := ⟨kw_1620, (jtbs (by decide +kernel) (by decide +kernel)), kw_13, kw_1621, ⟨by decide, by decide, by decide +kernel⟩⟩
theorem jM_12_rowOf : jMy y_12_rowOf prog_14_method_23_code 3 (some .int) 1 := ⟨kw_1643, (jtbs (by decide +kernel) (by decide +kernel)), kw_13, kw_1644, ⟨by decide, by decide, by decide +kernel⟩⟩
theorem jM_12_puts : jMy y_12_puts prog_14_method_20_code 5 none 3 := ⟨kw_1651, (jtbs (by decide +kernel) (by decide +kernel)), kw_13, kw_1652, ⟨by decide, by decide, by decide +kernel⟩⟩
theorem jM_12_putsLast : jMy y_12_putsLast prog_14_method_21_code 3 none 2 := ⟨kw_1647, (jtbs (by decide +kernel) (by decide +kernel)), kw_13, kw_1648, ⟨by decide, by decide, by decide +kernel⟩⟩
theorem jM_12_viewAt : jMs y_12_viewAt prog_14_method_11_code 2 (some .int) 2 := ⟨kw_1669, kw_13, kw_1670, ⟨by decide, by decide, by decide +kernel⟩⟩
theorem jM_12_filterAt : jMs y_12_filterAt prog_14_method_47_code 2 (some .int) 2 := ⟨kw_1666, kw_13, kw_1667, ⟨by decide, by decide, by decide +kernel⟩⟩
theorem jM_12_cellOf : jMy y_12_cellOf prog_14_method_24_code 3 (some .int) 2 := ⟨kw_1673, (jtbs (by decide +kernel) (by decide +kernel)), kw_13, kw_1674, ⟨by decide, by decide, by decide +kernel⟩⟩
theorem jM_12_testAt : jMs y_12_testAt prog_14_method_48_code 3 (some .int) 3 := ⟨kw_1676, kw_13, kw_1677, ⟨by decide, by decide, by decide +kernel⟩⟩
theorem jM_12_isPattern : jMy y_12_isPattern prog_14_method_58_code 11 (some .boolean) 2 := ⟨kw_1684, (jtbs (by decide +kernel) (by decide +kernel)), kw_13, kw_1685, ⟨by decide, by decide, by decide +kernel⟩⟩
theorem jM_12_isAsTest : jMy y_12_isAsTest prog_14_method_59_code 5 (some .boolean) 2 := ⟨kw_1680, (jtbs (by decide +kernel) (by decide +kernel)), kw_13, kw_1681, ⟨by decide, by decide, by decide +kernel⟩⟩
theorem jM_12_isAsFilter : jMy y_12_isAsFilter prog_14_method_60_code 7 (some .boolean) 3 := ⟨kw_1663, (jtbs (by decide +kernel) (by decide +kernel)), kw_13, kw_1664, ⟨by decide, by decide, by decide +kernel⟩⟩
theorem jM_12_whyNot : jMy y_12_whyNot prog_14_method_61_code 4 (some .int) 2 := ⟨kw_1659, (jtbs (by decide +kernel) (by decide +kernel)), kw_13, kw_1660, ⟨by decide, by decide, by decide +kernel⟩⟩
theorem jM_12_isFit : jMy y_12_isFit prog_14_method_62_code 3 (some .boolean) 2 := ⟨kw_1655, (jtbs (by decide +kernel) (by decide +kernel)), kw_13, kw_1656, ⟨by decide, by decide, by decide +kernel⟩⟩
theorem jM_12_listOf : jMs y_12_listOf prog_14_method_12_code 1 (some .int) 1 := ⟨kw_1687, kw_13, kw_1688, ⟨by decide, by decide, by decide +kernel⟩⟩
theorem jM_12_readRow : jMy y_12_readRow prog_14_method_43_code 3 (some .boolean) 0 := ⟨kw_1603, (jtbs (by decide +kernel) (by decide +kernel)), kw_13, kw_1604, ⟨by decide, by decide, by decide +kernel⟩⟩
theorem jM_12_readSheet : jMy y_12_readSheet prog_14_method_44_code 2 (some .boolean) 0 := ⟨kw_1565, (jtbs (by decide +kernel) (by decide +kernel)), kw_13, kw_1566, ⟨by decide, by decide, by decide +kernel⟩⟩
theorem jM_12_bringsBack : jMy y_12_bringsBack prog_14_method_9_code 2 none 0 := ⟨kw_1695, (jtbs (by decide +kernel) (by decide +kernel)), kw_13, kw_1696, ⟨by decide, by decide, by decide +kernel⟩⟩
theorem jM_12_isRight : jMy y_12_isRight prog_14_method_45_code 2 (some .boolean) 1 := ⟨kw_1691, (jtbs (by decide +kernel) (by decide +kernel)), kw_13, kw_1692, ⟨by decide, by decide, by decide +kernel⟩⟩
theorem jM_12_throwsIf : jMy y_12_throwsIf prog_14_method_2_code 3 (some .boolean) 2 := ⟨kw_1699, (jtbs (by decide +kernel) (by decide +kernel)), kw_13, kw_1700, ⟨by decide, by decide, by decide +kernel⟩⟩
theorem jM_12_sheet : jMy y_12_sheet prog_14_method_46_code 1 (some .int) 0 := ⟨kw_1552, kw_1553, kw_13, kw_1554, ⟨by decide, by decide, by decide +kernel⟩⟩
theorem jM_12_noView : jMs y_12_noView prog_14_method_13_code 1 (some .boolean) 1 := ⟨kw_1706, kw_13, kw_1707, ⟨by decide, by decide, by decide +kernel⟩⟩
theorem jM_12_passes : jMy y_12_passes prog_14_method_34_code 2 (some .boolean) 1 := ⟨kw_1719, (jtbs (by decide +kernel) (by decide +kernel)), kw_13, kw_1720, ⟨by decide, by decide, by decide +kernel⟩⟩
theorem jM_12_number : jMy y_12_number prog_14_method_37_code 3 (some .boolean) 2 := ⟨kw_1727, (jtbs (by decide +kernel) (by decide +kernel)), kw_13, kw_1728, ⟨by decide, by decide, by decide +kernel⟩⟩
theorem jM_12_readSort : jMy y_12_readSort prog_14_method_53_code 5 (some .boolean) 2 := ⟨kw_1723, (jtbs (by decide +kernel) (by decide +kernel)), kw_13, kw_1724, ⟨by decide, by decide, by decide +kernel⟩⟩
theorem jM_12_has : jMs y_12_has prog_14_method_4_code 2 (some .boolean) 2 := ⟨kw_1736, kw_13, kw_1737, ⟨by decide, by decide, by decide +kernel⟩⟩
theorem jM_12_readHide : jMy y_12_readHide prog_14_method_54_code 2 (some .boolean) 1 := ⟨kw_1733, (jtbs (by decide +kernel) (by decide +kernel)), kw_13, kw_1734, ⟨by decide, by decide, by decide +kernel⟩⟩
theorem jM_12_isAWord : jMy y_12_isAWord prog_14_method_49_code 1 (some .boolean) 0 := ⟨kw_1754, (jtbs (by decide +kernel) (by decide +kernel)), kw_13, kw_1755, ⟨by decide, by decide, by decide +kernel⟩⟩
theorem jM_12_readPattern : jMy y_12_readPattern prog_14_method_50_code 5 (some .boolean) 1 := ⟨kw_1750, (jtbs (by decide +kernel) (by decide +kernel)), kw_13, kw_1751, ⟨by decide, by decide, by decide +kernel⟩⟩
theorem jM_12_readTest : jMy y_12_readTest prog_14_method_51_code 5 (some .boolean) 2 := ⟨kw_1744, (jtbs (by decide +kernel) (by decide +kernel)), kw_13, kw_1745, ⟨by decide, by decide, by decide +kernel⟩⟩
theorem jM_12_readFilter : jMy y_12_readFilter prog_14_method_52_code 4 (some .boolean) 1 := ⟨kw_1740, (jtbs (by decide +kernel) (by decide +kernel)), kw_13, kw_1741, ⟨by decide, by decide, by decide +kernel⟩⟩
theorem jM_12_readPart : jMy y_12_readPart prog_14_method_55_code 2 (some .boolean) 1 := ⟨kw_1714, (jtbs (by decide +kernel) (by decide +kernel)), kw_13, kw_1715, ⟨by decide, by decide, by decide +kernel⟩⟩
theorem jM_12_readView : jMy y_12_readView prog_14_method_56_code 3 (some .boolean) 1 := ⟨kw_1710, (jtbs (by decide +kernel) (by decide +kernel)), kw_13, kw_1711, ⟨by decide, by decide, by decide +kernel⟩⟩
theorem jM_12_keyAt : jMy y_12_keyAt prog_14_method_18_code 3 (some .int) 2 := ⟨kw_1768, (jtbs (by decide +kernel) (by decide +kernel)), kw_13, kw_1769, ⟨by decide, by decide, by decide +kernel⟩⟩
theorem jM_12_bySort : jMy y_12_bySort prog_14_method_63_code 6 (some .int) 3 := ⟨kw_1776, (jtbs (by decide +kernel) (by decide +kernel)), kw_13, kw_1777, ⟨by decide, by decide, by decide +kernel⟩⟩
theorem jM_12_placeIn : jMy y_12_placeIn prog_14_method_19_code 4 (some .int) 2 := ⟨kw_1780, (jtbs (by decide +kernel) (by decide +kernel)), kw_13, kw_1781, ⟨by decide, by decide, by decide +kernel⟩⟩
theorem jM_12_bySorts : jMy y_12_bySorts prog_14_method_64_code 7 (some .int) 4 := ⟨kw_1772, (jtbs (by decide +kernel) (by decide +kernel)), kw_13, kw_1773, ⟨by decide, by decide, by decide +kernel⟩⟩
theorem jM_12_laysFresh : jMy y_12_laysFresh prog_14_method_65_code 6 (some .int) 1 := ⟨kw_1764, (jtbs (by decide +kernel) (by decide +kernel)), kw_13, kw_1765, ⟨by decide, by decide, by decide +kernel⟩⟩
theorem jM_12_isRefreshed : jMy y_12_isRefreshed prog_14_method_67_code 7 (some .int) 1 := ⟨kw_1760, (jtbs (by decide +kernel) (by decide +kernel)), kw_13, kw_1761, ⟨by decide, by decide, by decide +kernel⟩⟩
theorem jM_12_view : jMy y_12_view prog_14_method_57_code 2 (some .int) 1 := ⟨kw_1702, kw_1703, kw_13, kw_1704, ⟨by decide, by decide, by decide +kernel⟩⟩
theorem jM_12_refresh : jMy y_12_refresh prog_14_method_68_code 2 (some .int) 1 := ⟨kw_1783, kw_1784, kw_13, kw_1785, ⟨by decide, by decide, by decide +kernel⟩⟩
theorem jM_12_noPlace : jMy y_12_noPlace prog_14_method_17_code 3 (some .boolean) 2 := ⟨kw_1796, (jtbs (by decide +kernel) (by decide +kernel)), kw_13, kw_1797, ⟨by decide, by decide, by decide +kernel⟩⟩
theorem jM_12_noColumn : jMy y_12_noColumn prog_14_method_14_code 2 (some .boolean) 1 := ⟨kw_1800, (jtbs (by decide +kernel) (by decide +kernel)), kw_13, kw_1801, ⟨by decide, by decide, by decide +kernel⟩⟩
theorem jM_12_noCell : jMy y_12_noCell prog_14_method_74_code 4 (some .boolean) 3 := ⟨kw_1792, (jtbs (by decide +kernel) (by decide +kernel)), kw_13, kw_1793, ⟨by decide, by decide, by decide +kernel⟩⟩
theorem jM_12_isHidden : jMy y_12_isHidden prog_14_method_73_code 3 (some .boolean) 2 := ⟨kw_1804, (jtbs (by decide +kernel) (by decide +kernel)), kw_13, kw_1805, ⟨by decide, by decide, by decide +kernel⟩⟩
theorem jM_12_isValue : jMy y_12_isValue prog_14_method_75_code 6 (some .boolean) 2 := ⟨kw_1808, (jtbs (by decide +kernel) (by decide +kernel)), kw_13, kw_1809, ⟨by decide, by decide, by decide +kernel⟩⟩
theorem jM_12_isTold : jMy y_12_isTold prog_14_method_70_code 7 none 5 := ⟨kw_1817, (jtbs (by decide +kernel) (by decide +kernel)), kw_13, kw_1818, ⟨by decide, by decide, by decide +kernel⟩⟩
theorem jM_12_alters : jMy y_12_alters prog_14_method_71_code 7 none 4 := ⟨kw_1813, (jtbs (by decide +kernel) (by decide +kernel)), kw_13, kw_1814, ⟨by decide, by decide, by decide +kernel⟩⟩
theorem jM_12_editAt : jMs y_12_editAt prog_14_method_69_code 2 (some .int) 2 := ⟨kw_1825, kw_13, kw_1826, ⟨by decide, by decide, by decide +kernel⟩⟩
theorem jM_12_isEdit : jMy y_12_isEdit prog_14_method_72_code 4 (some .int) 1 := ⟨kw_1822, (jtbs (by decide +kernel) (by decide +kernel)), kw_13, kw_1823, ⟨by decide, by decide, by decide +kernel⟩⟩
theorem jM_12_set : jMy y_12_set prog_14_method_76_code 6 (some .int) 4 := ⟨kw_1787, kw_1788, kw_13, kw_1789, ⟨by decide, by decide, by decide +kernel⟩⟩
theorem jM_12_clear : jMy y_12_clear prog_14_method_77_code 5 (some .int) 3 := ⟨kw_1828, kw_1829, kw_13, kw_1830, ⟨by decide, by decide, by decide +kernel⟩⟩
theorem jM_12_fill : jMy y_12_fill prog_14_method_78_code 7 (some .int) 4 := ⟨kw_1832, kw_1833, kw_13, kw_1834, ⟨by decide, by decide, by decide +kernel⟩⟩
theorem jM_12_isNone : jMy y_12_isNone prog_14_method_79_code 3 (some .boolean) 2 := ⟨kw_1841, (jtbs (by decide +kernel) (by decide +kernel)), kw_13, kw_1842, ⟨by decide, by decide, by decide +kernel⟩⟩
theorem jM_12_valueAt : jMy y_12_valueAt prog_14_method_114_code 4 (some .int) 3 := ⟨kw_1845, (jtbs (by decide +kernel) (by decide +kernel)), kw_13, kw_1846, ⟨by decide, by decide, by decide +kernel⟩⟩
theorem jM_12_replace : jMy y_12_replace prog_14_method_80_code 6 (some .int) 4 := ⟨kw_1836, kw_1837, kw_13, kw_1838, ⟨by decide, by decide, by decide +kernel⟩⟩
theorem jM_12_swap : jMy y_12_swap prog_14_method_81_code 7 (some .int) 4 := ⟨kw_1848, kw_1849, kw_13, kw_1850, ⟨by decide, by decide, by decide +kernel⟩⟩
theorem jM_12_seenFrom : jMy y_12_seenFrom prog_14_method_82_code 4 (some .int) 2 := ⟨kw_1865, (jtbs (by decide +kernel) (by decide +kernel)), kw_13, kw_1866, ⟨by decide, by decide, by decide +kernel⟩⟩
theorem jM_12_readGrid : jMy y_12_readGrid prog_14_method_83_code 6 (some .boolean) 2 := ⟨kw_1861, (jtbs (by decide +kernel) (by decide +kernel)), kw_13, kw_1862, ⟨by decide, by decide, by decide +kernel⟩⟩
theorem jM_12_readGrids : jMy y_12_readGrids prog_14_method_84_code 3 (some .boolean) 2 := ⟨kw_1857, (jtbs (by decide +kernel) (by decide +kernel)), kw_13, kw_1858, ⟨by decide, by decide, by decide +kernel⟩⟩
theorem jM_12_isPasted : jMy y_12_isPasted prog_14_method_85_code 7 none 4 := ⟨kw_1870, (jtbs (by decide +kernel) (by decide +kernel)), kw_13, kw_1871, ⟨by decide, by decide, by decide +kernel⟩⟩
theorem jM_12_paste : jMy y_12_paste prog_14_method_86_code 9 (some .int) 3 := ⟨kw_1852, kw_1853, kw_13, kw_1854, ⟨by decide, by decide, by decide +kernel⟩⟩
theorem jM_12_stands : jMy y_12_stands prog_14_method_87_code 3 (some .boolean) 1 := ⟨kw_1882, (jtbs (by decide +kernel) (by decide +kernel)), kw_13, kw_1883, ⟨by decide, by decide, by decide +kernel⟩⟩
theorem jM_12_firstBar : jMy y_12_firstBar prog_14_method_88_code 3 (some .int) 1 := ⟨kw_1878, (jtbs (by decide +kernel) (by decide +kernel)), kw_13, kw_1879, ⟨by decide, by decide, by decide +kernel⟩⟩
theorem jM_12_barred : jMy y_12_barred prog_14_method_89_code 4 (some .int) 1 := ⟨kw_1873, kw_1874, kw_13, kw_1875, ⟨by decide, by decide, by decide +kernel⟩⟩
theorem jM_12_undo : jMy y_12_undo prog_14_method_90_code 6 (some .int) 1 := ⟨kw_1885, kw_1886, kw_13, kw_1887, ⟨by decide, by decide, by decide +kernel⟩⟩
theorem jM_12_add : jMy y_12_add prog_14_method_91_code 7 (some .int) 2 := ⟨kw_1889, kw_1890, kw_13, kw_1891, ⟨by decide, by decide, by decide +kernel⟩⟩
theorem jM_12_takes : jMy y_12_takes prog_14_method_22_code 5 none 2 := ⟨kw_1898, (jtbs (by decide +kernel) (by decide +kernel)), kw_13, kw_1899, ⟨by decide, by decide, by decide +kernel⟩⟩
theorem jM_12_drop : jMy y_12_drop prog_14_method_92_code 5 (some .int) 2 := ⟨kw_1893, kw_1894, kw_13, kw_1895, ⟨by decide, by decide, by decide +kernel⟩⟩
theorem jM_12_drag : jMy y_12_drag prog_14_method_93_code 6 (some .int) 3 := ⟨kw_1901, kw_1902, kw_13, kw_1903, ⟨by decide, by decide, by decide +kernel⟩⟩
theorem jM_12_kind : jMy y_12_kind prog_14_method_94_code 2 (some .int) 1 := ⟨kw_1905, kw_1906, kw_13, kw_1907, ⟨by decide, by decide, by decide +kernel⟩⟩
theorem jM_12_cell : jMy y_12_cell prog_14_method_95_code 3 (some .int) 2 := ⟨kw_1909, kw_1910, kw_13, kw_1911, ⟨by decide, by decide, by decide +kernel⟩⟩
theorem jM_12_order : jMy y_12_order prog_14_method_96_code 2 (some .int) 1 := ⟨kw_1913, kw_1914, kw_13, kw_1915, ⟨by decide, by decide, by decide +kernel⟩⟩
theorem jM_12_row : jMy y_12_row prog_14_method_97_code 3 (some .int) 2 := ⟨kw_1917, kw_1918, kw_13, kw_1919, ⟨by decide, by decide, by decide +kernel⟩⟩
theorem jM_12_noKey : jMy y_12_noKey prog_14_method_98_code 3 (some .boolean) 2 := ⟨kw_1926, (jtbs (by decide +kernel) (by decide +kernel)), kw_13, kw_1927, ⟨by decide, by decide, by decide +kernel⟩⟩
theorem jM_12_place : jMy y_12_place prog_14_method_99_code 3 (some .int) 2 := ⟨kw_1921, kw_1922, kw_13, kw_1923, ⟨by decide, by decide, by decide +kernel⟩⟩
theorem jM_12_about : jMy y_12_about prog_14_method_100_code 5 (some .int) 2 := ⟨kw_1929, kw_1930, kw_13, kw_1931, ⟨by decide, by decide, by decide +kernel⟩⟩
theorem jM_12_sorts : jMy y_12_sorts prog_14_method_101_code 3 (some .int) 2 := ⟨kw_1933, kw_1934, kw_13, kw_1935, ⟨by decide, by decide, by decide +kernel⟩⟩
theorem jM_12_fits : jMy y_12_fits prog_14_method_102_code 3 (some .boolean) 2 := ⟨kw_1937, kw_1938, kw_13, kw_1939, ⟨by decide, by decide, by decide +kernel⟩⟩
theorem jM_12_why : jMy y_12_why prog_14_method_103_code 3 (some .int) 2 := ⟨kw_1941, kw_1942, kw_13, kw_1943, ⟨by decide, by decide, by decide +kernel⟩⟩
theorem jM_12_stale : jMy y_12_stale prog_14_method_104_code 4 (some .int) 1 := ⟨kw_1945, kw_1946, kw_13, kw_1947, ⟨by decide, by decide, by decide +kernel⟩⟩
theorem jM_12_pending : jMy y_12_pending prog_14_method_105_code 4 (some .int) 1 := ⟨kw_1949, kw_1950, kw_13, kw_1951, ⟨by decide, by decide, by decide +kernel⟩⟩
theorem jM_12_rankOf : jMy y_12_rankOf prog_14_method_66_code 4 (some .int) 2 := ⟨kw_1958, (jtbs (by decide +kernel) (by decide +kernel)), kw_13, kw_1959, ⟨by decide, by decide, by decide +kernel⟩⟩
theorem jM_12_rank : jMy y_12_rank prog_14_method_106_code 3 (some .int) 2 := ⟨kw_1953, kw_1954, kw_13, kw_1955, ⟨by decide, by decide, by decide +kernel⟩⟩
theorem jM_12_moves : jMy y_12_moves prog_14_method_107_code 9 (some .int) 1 := ⟨kw_1961, kw_1962, kw_13, kw_1963, ⟨by decide, by decide, by decide +kernel⟩⟩
theorem jM_12_unlike : jMy y_12_unlike prog_14_method_108_code 9 (some .int) 2 := ⟨kw_1965, kw_1966, kw_13, kw_1967, ⟨by decide, by decide, by decide +kernel⟩⟩
theorem jM_12_byTried : jMy y_12_byTried prog_14_method_110_code 6 (some .int) 3 := ⟨kw_1982, (jtbs (by decide +kernel) (by decide +kernel)), kw_13, kw_1983, ⟨by decide, by decide, by decide +kernel⟩⟩
theorem jM_12_isSorted : jMy y_12_isSorted prog_14_method_109_code 5 (some .boolean) 2 := ⟨kw_1978, (jtbs (by decide +kernel) (by decide +kernel)), kw_13, kw_1979, ⟨by decide, by decide, by decide +kernel⟩⟩
theorem jM_12_sortsTelling : jMy y_12_sortsTelling prog_14_method_111_code 5 (some .int) 1 := ⟨kw_1974, (jtbs (by decide +kernel) (by decide +kernel)), kw_13, kw_1975, ⟨by decide, by decide, by decide +kernel⟩⟩
theorem jM_12_told : jMy y_12_told prog_14_method_112_code 4 (some .int) 2 := ⟨kw_1969, kw_1970, kw_13, kw_1971, ⟨by decide, by decide, by decide +kernel⟩⟩
theorem jM_12_between : jMy y_12_between prog_14_method_113_code 9 (some .int) 3 := ⟨kw_1985, kw_1986, kw_13, kw_1987, ⟨by decide, by decide, by decide +kernel⟩⟩
theorem jM_12_sum : jMy y_12_sum prog_14_method_115_code 5 (some .int) 2 := ⟨kw_1989, kw_1990, kw_13, kw_1991, ⟨by decide, by decide, by decide +kernel⟩⟩
theorem jM_12_firstPlace : jMy y_12_firstPlace prog_14_method_116_code 6 (some .int) 4 := ⟨kw_1998, (jtbs (by decide +kernel) (by decide +kernel)), kw_13, kw_1999, ⟨by decide, by decide, by decide +kernel⟩⟩
theorem jM_12_kinds : jMy y_12_kinds prog_14_method_117_code 5 (some .int) 2 := ⟨kw_1993, kw_1994, kw_13, kw_1995, ⟨by decide, by decide, by decide +kernel⟩⟩
theorem jM_12_by : jMy y_12_by prog_14_method_118_code 3 (some .int) 2 := ⟨kw_2001, kw_2002, kw_13, kw_2003, ⟨by decide, by decide, by decide +kernel⟩⟩
theorem jM_12_isFirst : jMy y_12_isFirst prog_14_method_119_code 4 (some .boolean) 3 := ⟨kw_2014, (jtbs (by decide +kernel) (by decide +kernel)), kw_13, kw_2015, ⟨by decide, by decide, by decide +kernel⟩⟩
theorem jM_12_groupAt : jMy y_12_groupAt prog_14_method_120_code 6 (some .int) 3 := ⟨kw_2010, (jtbs (by decide +kernel) (by decide +kernel)), kw_13, kw_2011, ⟨by decide, by decide, by decide +kernel⟩⟩
theorem jM_12_group : jMy y_12_group prog_14_method_121_code 10 (some .int) 4 := ⟨kw_2005, kw_2006, kw_13, kw_2007, ⟨by decide, by decide, by decide +kernel⟩⟩
theorem jM_12_total : jMy y_12_total prog_14_method_122_code 9 (some .int) 4 := ⟨kw_2017, kw_2018, kw_13, kw_2019, ⟨by decide, by decide, by decide +kernel⟩⟩
theorem jM_12_upTo : jMy y_12_upTo prog_14_method_123_code 8 (some .int) 4 := ⟨kw_2026, (jtbs (by decide +kernel) (by decide +kernel)), kw_13, kw_2027, ⟨by decide, by decide, by decide +kernel⟩⟩
theorem jM_12_middle : jMy y_12_middle prog_14_method_124_code 7 (some .int) 2 := ⟨kw_2021, kw_2022, kw_13, kw_2023, ⟨by decide, by decide, by decide +kernel⟩⟩
theorem jM_12_areTwins : jMy y_12_areTwins prog_14_method_125_code 6 (some .boolean) 3 := ⟨kw_2034, (jtbs (by decide +kernel) (by decide +kernel)), kw_13, kw_2035, ⟨by decide, by decide, by decide +kernel⟩⟩
theorem jM_12_twice : jMy y_12_twice prog_14_method_126_code 5 (some .int) 1 := ⟨kw_2029, kw_2030, kw_13, kw_2031, ⟨by decide, by decide, by decide +kernel⟩⟩
theorem jM_12_find : jMy y_12_find prog_14_method_127_code 5 (some .int) 4 := ⟨kw_2037, kw_2038, kw_13, kw_2039, ⟨by decide, by decide, by decide +kernel⟩⟩
theorem jM_12_log : jMy y_12_log prog_14_method_128_code 3 (some .int) 2 := ⟨kw_2041, kw_2042, kw_13, kw_2043, ⟨by decide, by decide, by decide +kernel⟩⟩
theorem jM_12_count : jMy y_12_count prog_14_method_129_code 2 (some .int) 1 := ⟨kw_2045, kw_2046, kw_13, kw_2047, ⟨by decide, by decide, by decide +kernel⟩⟩
theorem th_58 : ∀ w ∈ vx_at0 "PrivateViews" 58 "java/lang/IllegalArgumentException" ["java/lang/RuntimeException", "java/lang/Exception"], w ∈ jTB ∨ w ∈ jNest := by decide +kernel
theorem tg_58 : ∀ w ∈ Cond.classLink "PrivateViews" 56 "java/lang/IllegalArgumentException" :: Cond.initialized "java/lang/IllegalArgumentException" :: vx_at0 "PrivateViews" 58 "java/lang/IllegalArgumentException" ["java/lang/RuntimeException", "java/lang/Exception"], vx_ot w = true := by decide +kernel
theorem th_65 : ∀ w ∈ vx_at0 "PrivateViews" 65 "java/lang/UnsupportedOperationException" ["java/lang/RuntimeException", "java/lang/Exception"], w ∈ jTB ∨ w ∈ jNest := by decide +kernel
theorem tg_65 : ∀ w ∈ Cond.classLink "PrivateViews" 63 "java/lang/UnsupportedOperationException" :: Cond.initialized "java/lang/UnsupportedOperationException" :: vx_at0 "PrivateViews" 65 "java/lang/UnsupportedOperationException" ["java/lang/RuntimeException", "java/lang/Exception"], vx_ot w = true := by decide +kernel
theorem th_153 : ∀ w ∈ vx_at0 "PrivateViews" 153 "java/util/NoSuchElementException" ["java/lang/RuntimeException", "java/lang/Exception"], w ∈ jTB ∨ w ∈ jNest := by decide +kernel
theorem tg_153 : ∀ w ∈ Cond.classLink "PrivateViews" 151 "java/util/NoSuchElementException" :: Cond.initialized "java/util/NoSuchElementException" :: vx_at0 "PrivateViews" 153 "java/util/NoSuchElementException" ["java/lang/RuntimeException", "java/lang/Exception"], vx_ot w = true := by decide +kernel
theorem th_245 : ∀ w ∈ vx_at0 "PrivateViews" 245 "java/lang/IllegalStateException" ["java/lang/RuntimeException", "java/lang/Exception"], w ∈ jTB ∨ w ∈ jNest := by decide +kernel
theorem tg_245 : ∀ w ∈ Cond.classLink "PrivateViews" 243 "java/lang/IllegalStateException" :: Cond.initialized "java/lang/IllegalStateException" :: vx_at0 "PrivateViews" 245 "java/lang/IllegalStateException" ["java/lang/RuntimeException", "java/lang/Exception"], vx_ot w = true := by decide +kernel
theorem th_347 : ∀ w ∈ vx_at0 "PrivateViews" 347 "java/lang/IndexOutOfBoundsException" ["java/lang/RuntimeException", "java/lang/Exception"], w ∈ jTB ∨ w ∈ jNest := by decide +kernel
theorem tg_347 : ∀ w ∈ Cond.classLink "PrivateViews" 345 "java/lang/IndexOutOfBoundsException" :: Cond.initialized "java/lang/IndexOutOfBoundsException" :: vx_at0 "PrivateViews" 347 "java/lang/IndexOutOfBoundsException" ["java/lang/RuntimeException", "java/lang/Exception"], vx_ot w = true := by decide +kernel
theorem jl_0_11 {n : Nat} (hn : jOkn n) : jT n 0 11 := ⟨by decide, by (rcases hn with rfl | rfl <;> decide), by decide +kernel⟩
theorem jl_1_5 {n : Nat} (hn : jOkn n) : jT n 1 5 := ⟨by decide, by (rcases hn with rfl | rfl <;> decide), by decide +kernel⟩
theorem jl_2_1400 {n : Nat} (hn : jOkn n) : jT n 2 1400 := ⟨by decide, by (rcases hn with rfl | rfl <;> decide), by decide +kernel⟩
theorem jl_3_9 {n : Nat} (hn : jOkn n) : jT n 3 9 := ⟨by decide, by (rcases hn with rfl | rfl <;> decide), by decide +kernel⟩
theorem jl_4_1005 {n : Nat} (hn : jOkn n) : jT n 4 1005 := ⟨by decide, by (rcases hn with rfl | rfl <;> decide), by decide +kernel⟩
theorem jl_5_1014 {n : Nat} (hn : jOkn n) : jT n 5 1014 := ⟨by decide, by (rcases hn with rfl | rfl <;> decide), by decide +kernel⟩
theorem jl_6_1070 {n : Nat} (hn : jOkn n) : jT n 6 1070 := ⟨by decide, by (rcases hn with rfl | rfl <;> decide), by decide +kernel⟩
theorem jl_7_2 {n : Nat} (hn : jOkn n) : jT n 7 2 := ⟨by decide, by (rcases hn with rfl | rfl <;> decide), by decide +kernel⟩
theorem jl_35_8 {n : Nat} (hn : jOkn n) : jT n 35 8 := ⟨by decide, by (rcases hn with rfl | rfl <;> decide), by decide +kernel⟩
theorem jl_36_7 {n : Nat} (hn : jOkn n) : jT n 36 7 := ⟨by decide, by (rcases hn with rfl | rfl <;> decide), by decide +kernel⟩
theorem jl_41_6 {n : Nat} (hn : jOkn n) : jT n 41 6 := ⟨by decide, by (rcases hn with rfl | rfl <;> decide), by decide +kernel⟩
theorem jl_43_23 {n : Nat} (hn : jOkn n) : jT n 43 23 := ⟨by decide, by (rcases hn with rfl | rfl <;> decide), by decide +kernel⟩
theorem jl_44_3 {n : Nat} (hn : jOkn n) : jT n 44 3 := ⟨by decide, by (rcases hn with rfl | rfl <;> decide), by decide +kernel⟩
theorem jl_339_4 {n : Nat} (hn : jOkn n) : jT n 339 4 := ⟨by decide, by (rcases hn with rfl | rfl <;> decide), by decide +kernel⟩
theorem jl_340_6 {n : Nat} (hn : jOkn n) : jT n 340 6 := ⟨by decide, by (rcases hn with rfl | rfl <;> decide), by decide +kernel⟩
theorem jl_342_1024 {n : Nat} (hn : jOkn n) : jT n 342 1024 := ⟨by decide, by (rcases hn with rfl | rfl <;> decide), by decide +kernel⟩
theorem jl_343_1024 {n : Nat} (hn : jOkn n) : jT n 343 1024 := ⟨by decide, by (rcases hn with rfl | rfl <;> decide), by decide +kernel⟩
theorem jl_344_1024 {n : Nat} (hn : jOkn n) : jT n 344 1024 := ⟨by decide, by (rcases hn with rfl | rfl <;> decide), by decide +kernel⟩
theorem jl_345_12 {n : Nat} (hn : jOkn n) : jT n 345 12 := ⟨by decide, by (rcases hn with rfl | rfl <;> decide), by decide +kernel⟩
theorem jl_346_9954 {n : Nat} (hn : jOkn n) : jT n 346 9954 := ⟨by decide, by (rcases hn with rfl | rfl <;> decide), by decide +kernel⟩
theorem jl_347_9954 {n : Nat} (hn : jOkn n) : jT n 347 9954 := ⟨by decide, by (rcases hn with rfl | rfl <;> decide), by decide +kernel⟩
theorem jl_348_9954 {n : Nat} (hn : jOkn n) : jT n 348 9954 := ⟨by decide, by (rcases hn with rfl | rfl <;> decide), by decide +kernel⟩
theorem jl_349_20 {n : Nat} (hn : jOkn n) : jT n 349 20 := ⟨by decide, by (rcases hn with rfl | rfl <;> decide), by decide +kernel⟩
theorem jl_350_1005 {n : Nat} (hn : jOkn n) : jT n 350 1005 := ⟨by decide, by (rcases hn with rfl | rfl <;> decide), by decide +kernel⟩
theorem jl_351_1025 {n : Nat} (hn : jOkn n) : jT n 351 1025 := ⟨by decide, by (rcases hn with rfl | rfl <;> decide), by decide +kernel⟩
theorem jl_352_1241 {n : Nat} (hn : jOkn n) : jT n 352 1241 := ⟨by decide, by (rcases hn with rfl | rfl <;> decide), by decide +kernel⟩
theorem jl_353_1072 {n : Nat} (hn : jOkn n) : jT n 353 1072 := ⟨by decide, by (rcases hn with rfl | rfl <;> decide), by decide +kernel⟩
theorem jl_354_1024 {n : Nat} (hn : jOkn n) : jT n 354 1024 := ⟨by decide, by (rcases hn with rfl | rfl <;> decide), by decide +kernel⟩
theorem jl_355_1002 {n : Nat} (hn : jOkn n) : jT n 355 1002 := ⟨by decide, by (rcases hn with rfl | rfl <;> decide), by decide +kernel⟩

abbrev cX0_arrange : ByteArray := prog_2_method_6_code
def yX0_arrange : MethodName := ⟨RX0, "arrange", "(LTreeMerge$Grammar;)V"⟩
abbrev cX0_cut : ByteArray := prog_2_method_5_code
def yX0_cut : MethodName := ⟨RX0, "cut", "(I)V"⟩
abbrev cX0_find : ByteArray := prog_2_method_2_code
def yX0_find : MethodName := ⟨RX0, "find", "(I)I"⟩
abbrev cX0_hasPlace : ByteArray := prog_2_method_3_code
def yX0_hasPlace : MethodName := ⟨RX0, "hasPlace", "(IIILTreeMerge$Grammar;)Z"⟩
abbrev cX0_insert : ByteArray := prog_2_method_4_code
def yX0_insert : MethodName := ⟨RX0, "insert", "(IIIIJ)V"⟩
abbrev cX10_add : ByteArray := prog_12_method_3_code
def yX10_add : MethodName := ⟨RX10, "add", "(IIIJ)V"⟩
abbrev cX10_arrange : ByteArray := prog_12_method_10_code
def yX10_arrange : MethodName := ⟨RX10, "arrange", "(LTreeMerge$Tree;LTreeMerge$Grammar;)V"⟩
abbrev cX10_childCount : ByteArray := prog_12_method_14_code
def yX10_childCount : MethodName := ⟨RX10, "childCount", "(I)I"⟩
abbrev cX10_childIndex : ByteArray := prog_12_method_13_code
def yX10_childIndex : MethodName := ⟨RX10, "childIndex", "(II)I"⟩
abbrev cX10_clear : ByteArray := prog_12_method_2_code
def yX10_clear : MethodName := ⟨RX10, "clear", "()V"⟩
abbrev cX10_copy : ByteArray := prog_12_method_7_code
def yX10_copy : MethodName := ⟨RX10, "copy", "(LTreeMerge$Tree;)V"⟩
abbrev cX10_cut : ByteArray := prog_12_method_5_code
def yX10_cut : MethodName := ⟨RX10, "cut", "(I)V"⟩
abbrev cX10_extent : ByteArray := prog_12_method_16_code
def yX10_extent : MethodName := ⟨RX10, "extent", "(I)I"⟩
abbrev cX10_find : ByteArray := prog_12_method_8_code
def yX10_find : MethodName := ⟨RX10, "find", "(I)I"⟩
abbrev cX10_firstBreak : ByteArray := prog_12_method_19_code
def yX10_firstBreak : MethodName := ⟨RX10, "firstBreak", "(LTreeMerge$Grammar;LTreeMerge$Kids;)I"⟩
abbrev cX10_insert : ByteArray := prog_12_method_4_code
def yX10_insert : MethodName := ⟨RX10, "insert", "(IIIIJ)V"⟩
abbrev cX10_isSameFrom : ByteArray := prog_12_method_18_code
def yX10_isSameFrom : MethodName := ⟨RX10, "isSameFrom", "(ILTreeMerge$Tree;I)Z"⟩
abbrev cX10_isWithin : ByteArray := prog_12_method_17_code
def yX10_isWithin : MethodName := ⟨RX10, "isWithin", "(II)Z"⟩
abbrev cX10_moveEntry : ByteArray := prog_12_method_6_code
def yX10_moveEntry : MethodName := ⟨RX10, "moveEntry", "(II)V"⟩
abbrev cX10_nameOf : ByteArray := prog_12_method_20_code
def yX10_nameOf : MethodName := ⟨RX10, "nameOf", "(I[I)I"⟩
abbrev cX10_nextWaiting : ByteArray := prog_12_method_12_code
def yX10_nextWaiting : MethodName := ⟨RX10, "nextWaiting", "(IZ)I"⟩
abbrev cX10_placeOf : ByteArray := prog_12_method_15_code
def yX10_placeOf : MethodName := ⟨RX10, "placeOf", "(I)I"⟩
abbrev cX10_readFrom : ByteArray := prog_12_method_9_code
def yX10_readFrom : MethodName := ⟨RX10, "readFrom", "(LTreeMerge$Text;LTreeMerge$Grammar;)I"⟩
abbrev cX10_takeFrom : ByteArray := prog_12_method_11_code
def yX10_takeFrom : MethodName := ⟨RX10, "takeFrom", "(LTreeMerge$Tree;II)I"⟩
abbrev cX11_back : ByteArray := prog_1_method_26_code
def yX11_back : MethodName := ⟨RX11, "back", "(II)I"⟩
abbrev cX11_base : ByteArray := prog_1_method_23_code
def yX11_base : MethodName := ⟨RX11, "base", "(II)I"⟩
abbrev cX11_begin : ByteArray := prog_1_method_15_code
def yX11_begin : MethodName := ⟨RX11, "begin", "(I)Z"⟩
abbrev cX11_breaks : ByteArray := prog_1_method_6_code
def yX11_breaks : MethodName := ⟨RX11, "breaks", "()I"⟩
abbrev cX11_carry : ByteArray := prog_1_method_25_code
def yX11_carry : MethodName := ⟨RX11, "carry", "(II)I"⟩
abbrev cX11_close : ByteArray := prog_1_method_21_code
def yX11_close : MethodName := ⟨RX11, "close", "()I"⟩
abbrev cX11_comeOfText : ByteArray := prog_1_method_13_code
def yX11_comeOfText : MethodName := ⟨RX11, "comeOfText", "(I)I"⟩
abbrev cX11_count : ByteArray := prog_1_method_43_code
def yX11_count : MethodName := ⟨RX11, "count", "(I)I"⟩
abbrev cX11_drop : ByteArray := prog_1_method_16_code
def yX11_drop : MethodName := ⟨RX11, "drop", "()Z"⟩
abbrev cX11_editionOrDraft : ByteArray := prog_1_method_36_code
def yX11_editionOrDraft : MethodName := ⟨RX11, "editionOrDraft", "(I)LTreeMerge$Tree;"⟩
abbrev cX11_end : ByteArray := prog_1_method_3_code
def yX11_end : MethodName := ⟨RX11, "end", "(I)Z"⟩
abbrev cX11_endDraft : ByteArray := prog_1_method_22_code
def yX11_endDraft : MethodName := ⟨RX11, "endDraft", "(I)V"⟩
abbrev cX11_fault : ByteArray := prog_1_method_4_code
def yX11_fault : MethodName := ⟨RX11, "fault", "(Z)I"⟩
abbrev cX11_feed : ByteArray := prog_1_method_2_code
def yX11_feed : MethodName := ⟨RX11, "feed", "(IIIII)I"⟩
abbrev cX11_findBase : ByteArray := prog_1_method_27_code
def yX11_findBase : MethodName := ⟨RX11, "findBase", "(II)I"⟩
abbrev cX11_first : ByteArray := prog_1_method_9_code
def yX11_first : MethodName := ⟨RX11, "first", "()I"⟩
abbrev cX11_flushLeft : ByteArray := prog_1_method_46_code
def yX11_flushLeft : MethodName := ⟨RX11, "flushLeft", "(J)J"⟩
abbrev cX11_flushRight : ByteArray := prog_1_method_47_code
def yX11_flushRight : MethodName := ⟨RX11, "flushRight", "(J)J"⟩
abbrev cX11_from : ByteArray := prog_1_method_42_code
def yX11_from : MethodName := ⟨RX11, "from", "(II)Z"⟩
abbrev cX11_grammar : ByteArray := prog_1_method_5_code
def yX11_grammar : MethodName := ⟨RX11, "grammar", "()I"⟩
abbrev cX11_match : ByteArray := prog_1_method_10_code
def yX11_match : MethodName := ⟨RX11, "match", "(II)I"⟩
abbrev cX11_matchText : ByteArray := prog_1_method_12_code
def yX11_matchText : MethodName := ⟨RX11, "matchText", "(I)Z"⟩
abbrev cX11_merge : ByteArray := prog_1_method_24_code
def yX11_merge : MethodName := ⟨RX11, "merge", "(II)I"⟩
abbrev cX11_mergeOn : ByteArray := prog_1_method_29_code
def yX11_mergeOn : MethodName := ⟨RX11, "mergeOn", "(LTreeMerge$Tree;IIII)I"⟩
abbrev cX11_move : ByteArray := prog_1_method_19_code
def yX11_move : MethodName := ⟨RX11, "move", "(III)Z"⟩
abbrev cX11_name : ByteArray := prog_1_method_38_code
def yX11_name : MethodName := ⟨RX11, "name", "(I)I"⟩
abbrev cX11_newNumber : ByteArray := prog_1_method_14_code
def yX11_newNumber : MethodName := ⟨RX11, "newNumber", "(I)I"⟩
abbrev cX11_next : ByteArray := prog_1_method_11_code
def yX11_next : MethodName := ⟨RX11, "next", "(I)I"⟩
abbrev cX11_node : ByteArray := prog_1_method_33_code
def yX11_node : MethodName := ⟨RX11, "node", "(II)I"⟩
abbrev cX11_of : ByteArray := prog_1_method_34_code
def yX11_of : MethodName := ⟨RX11, "of", "(III)I"⟩
abbrev cX11_parent : ByteArray := prog_1_method_41_code
def yX11_parent : MethodName := ⟨RX11, "parent", "(II)I"⟩
abbrev cX11_print : ByteArray := prog_1_method_40_code
def yX11_print : MethodName := ⟨RX11, "print", "(II)I"⟩
abbrev cX11_put : ByteArray := prog_1_method_17_code
def yX11_put : MethodName := ⟨RX11, "put", "(IIIJ)I"⟩
abbrev cX11_quarrel : ByteArray := prog_1_method_30_code
def yX11_quarrel : MethodName := ⟨RX11, "quarrel", "(I)I"⟩
abbrev cX11_readTree : ByteArray := prog_1_method_7_code
def yX11_readTree : MethodName := ⟨RX11, "readTree", "()I"⟩
abbrev cX11_readsAndFits : ByteArray := prog_1_method_8_code
def yX11_readsAndFits : MethodName := ⟨RX11, "readsAndFits", "()Z"⟩
abbrev cX11_rename : ByteArray := prog_1_method_20_code
def yX11_rename : MethodName := ⟨RX11, "rename", "(IJ)Z"⟩
abbrev cX11_runMerging : ByteArray := prog_1_method_28_code
def yX11_runMerging : MethodName := ⟨RX11, "runMerging", "(LTreeMerge$Tree;II)Z"⟩
abbrev cX11_same : ByteArray := prog_1_method_39_code
def yX11_same : MethodName := ⟨RX11, "same", "(II)Z"⟩
abbrev cX11_settle : ByteArray := prog_1_method_31_code
def yX11_settle : MethodName := ⟨RX11, "settle", "(III)Z"⟩
abbrev cX11_take : ByteArray := prog_1_method_18_code
def yX11_take : MethodName := ⟨RX11, "take", "(I)Z"⟩
abbrev cX11_unsettle : ByteArray := prog_1_method_32_code
def yX11_unsettle : MethodName := ⟨RX11, "unsettle", "()I"⟩
abbrev cX11_word : ByteArray := prog_1_method_35_code
def yX11_word : MethodName := ⟨RX11, "word", "(II)J"⟩
abbrev cX11_writer : ByteArray := prog_1_method_37_code
def yX11_writer : MethodName := ⟨RX11, "writer", "(I)I"⟩
abbrev cX12_ahead : ByteArray := prog_14_method_99_code
def yX12_ahead : MethodName := ⟨RX12, "ahead", "(IIIIII)I"⟩
abbrev cX12_arePair : ByteArray := prog_14_method_56_code
def yX12_arePair : MethodName := ⟨RX12, "arePair", "(II)Z"⟩
abbrev cX12_arranges : ByteArray := prog_14_method_26_code
def yX12_arranges : MethodName := ⟨RX12, "arranges", "()V"⟩
abbrev cX12_back : ByteArray := prog_14_method_114_code
def yX12_back : MethodName := ⟨RX12, "back", "(II)I"⟩
abbrev cX12_base : ByteArray := prog_14_method_109_code
def yX12_base : MethodName := ⟨RX12, "base", "(II)I"⟩
abbrev cX12_baseRow : ByteArray := prog_14_method_108_code
def yX12_baseRow : MethodName := ⟨RX12, "baseRow", "(II)I"⟩
abbrev cX12_begin : ByteArray := prog_14_method_71_code
def yX12_begin : MethodName := ⟨RX12, "begin", "(I)Z"⟩
abbrev cX12_bound : ByteArray := prog_14_method_67_code
def yX12_bound : MethodName := ⟨RX12, "bound", "()I"⟩
abbrev cX12_breaks : ByteArray := prog_14_method_48_code
def yX12_breaks : MethodName := ⟨RX12, "breaks", "()I"⟩
abbrev cX12_canCome : ByteArray := prog_14_method_53_code
def yX12_canCome : MethodName := ⟨RX12, "canCome", "()Z"⟩
abbrev cX12_carry : ByteArray := prog_14_method_113_code
def yX12_carry : MethodName := ⟨RX12, "carry", "(II)I"⟩
abbrev cX12_close : ByteArray := prog_14_method_83_code
def yX12_close : MethodName := ⟨RX12, "close", "()I"⟩
abbrev cX12_closes : ByteArray := prog_14_method_42_code
def yX12_closes : MethodName := ⟨RX12, "closes", "([ZI)V"⟩
abbrev cX12_comes : ByteArray := prog_14_method_52_code
def yX12_comes : MethodName := ⟨RX12, "comes", "(I)I"⟩
abbrev cX12_copies : ByteArray := prog_14_method_70_code
def yX12_copies : MethodName := ⟨RX12, "copies", "(II)V"⟩
abbrev cX12_costNow : ByteArray := prog_14_method_58_code
def yX12_costNow : MethodName := ⟨RX12, "costNow", "(I)I"⟩
abbrev cX12_count : ByteArray := prog_14_method_133_code
def yX12_count : MethodName := ⟨RX12, "count", "(I)I"⟩
abbrev cX12_deepOf : ByteArray := prog_14_method_122_code
def yX12_deepOf : MethodName := ⟨RX12, "deepOf", "(II)I"⟩
abbrev cX12_drop : ByteArray := prog_14_method_73_code
def yX12_drop : MethodName := ⟨RX12, "drop", "()Z"⟩
abbrev cX12_edition : ByteArray := prog_14_method_50_code
def yX12_edition : MethodName := ⟨RX12, "edition", "(II)I"⟩
abbrev cX12_end : ByteArray := prog_14_method_5_code
def yX12_end : MethodName := ⟨RX12, "end", "(I)Z"⟩
abbrev cX12_fails : ByteArray := prog_14_method_10_code
def yX12_fails : MethodName := ⟨RX12, "fails", "()Z"⟩
abbrev cX12_fault : ByteArray := prog_14_method_27_code
def yX12_fault : MethodName := ⟨RX12, "fault", "(Z)I"⟩
abbrev cX12_feed : ByteArray := prog_14_method_4_code
def yX12_feed : MethodName := ⟨RX12, "feed", "(IIIII)I"⟩
abbrev cX12_feeds : ByteArray := prog_14_method_3_code
def yX12_feeds : MethodName := ⟨RX12, "feeds", "(I)V"⟩
abbrev cX12_first : ByteArray := prog_14_method_54_code
def yX12_first : MethodName := ⟨RX12, "first", "()I"⟩
abbrev cX12_firstBreak : ByteArray := prog_14_method_47_code
def yX12_firstBreak : MethodName := ⟨RX12, "firstBreak", "(I)I"⟩
abbrev cX12_firstKid : ByteArray := prog_14_method_31_code
def yX12_firstKid : MethodName := ⟨RX12, "firstKid", "(II)I"⟩
abbrev cX12_firstQuarrels : ByteArray := prog_14_method_91_code
def yX12_firstQuarrels : MethodName := ⟨RX12, "firstQuarrels", "(III)V"⟩
abbrev cX12_fitsBut : ByteArray := prog_14_method_45_code
def yX12_fitsBut : MethodName := ⟨RX12, "fitsBut", "(II)Z"⟩
abbrev cX12_fitsList : ByteArray := prog_14_method_43_code
def yX12_fitsList : MethodName := ⟨RX12, "fitsList", "(III)Z"⟩
abbrev cX12_fitsSet : ByteArray := prog_14_method_44_code
def yX12_fitsSet : MethodName := ⟨RX12, "fitsSet", "(III)Z"⟩
abbrev cX12_from : ByteArray := prog_14_method_105_code
def yX12_from : MethodName := ⟨RX12, "from", "(II)Z"⟩
abbrev cX12_goesOn : ByteArray := prog_14_method_9_code
def yX12_goesOn : MethodName := ⟨RX12, "goesOn", "()V"⟩
abbrev cX12_grammar : ByteArray := prog_14_method_28_code
def yX12_grammar : MethodName := ⟨RX12, "grammar", "()I"⟩
abbrev cX12_hasLike : ByteArray := prog_14_method_46_code
def yX12_hasLike : MethodName := ⟨RX12, "hasLike", "(II)Z"⟩
abbrev cX12_hasOneParent : ByteArray := prog_14_method_112_code
def yX12_hasOneParent : MethodName := ⟨RX12, "hasOneParent", "(I)Z"⟩
abbrev cX12_in : ByteArray := prog_14_method_2_code
def yX12_in : MethodName := ⟨RX12, "in", "(JJJ)Z"⟩
abbrev cX12_inDraft : ByteArray := prog_14_method_74_code
def yX12_inDraft : MethodName := ⟨RX12, "inDraft", "(I)Z"⟩
abbrev cX12_isAhead : ByteArray := prog_14_method_40_code
def yX12_isAhead : MethodName := ⟨RX12, "isAhead", "(III)Z"⟩
abbrev cX12_isAlike : ByteArray := prog_14_method_17_code
def yX12_isAlike : MethodName := ⟨RX12, "isAlike", "(III)Z"⟩
abbrev cX12_isBaseOf : ByteArray := prog_14_method_106_code
def yX12_isBaseOf : MethodName := ⟨RX12, "isBaseOf", "(III)Z"⟩
abbrev cX12_isCut : ByteArray := prog_14_method_16_code
def yX12_isCut : MethodName := ⟨RX12, "isCut", "()Z"⟩
abbrev cX12_isEdition : ByteArray := prog_14_method_51_code
def yX12_isEdition : MethodName := ⟨RX12, "isEdition", "(I)Z"⟩
abbrev cX12_isExact : ByteArray := prog_14_method_65_code
def yX12_isExact : MethodName := ⟨RX12, "isExact", "()Z"⟩
abbrev cX12_isFree : ByteArray := prog_14_method_100_code
def yX12_isFree : MethodName := ⟨RX12, "isFree", "(IIIII)Z"⟩
abbrev cX12_isFrom : ByteArray := prog_14_method_104_code
def yX12_isFrom : MethodName := ⟨RX12, "isFrom", "(II)Z"⟩
abbrev cX12_isGood : ByteArray := prog_14_method_75_code
def yX12_isGood : MethodName := ⟨RX12, "isGood", "(J)Z"⟩
abbrev cX12_isLeastOfRing : ByteArray := prog_14_method_94_code
def yX12_isLeastOfRing : MethodName := ⟨RX12, "isLeastOfRing", "(I)Z"⟩
abbrev cX12_isLess : ByteArray := prog_14_method_39_code
def yX12_isLess : MethodName := ⟨RX12, "isLess", "(JJ)Z"⟩
abbrev cX12_isLetter : ByteArray := prog_14_method_6_code
def yX12_isLetter : MethodName := ⟨RX12, "isLetter", "(I)Z"⟩
abbrev cX12_isName : ByteArray := prog_14_method_14_code
def yX12_isName : MethodName := ⟨RX12, "isName", "()Z"⟩
abbrev cX12_isNode : ByteArray := prog_14_method_120_code
def yX12_isNode : MethodName := ⟨RX12, "isNode", "(II)Z"⟩
abbrev cX12_isOfWord : ByteArray := prog_14_method_7_code
def yX12_isOfWord : MethodName := ⟨RX12, "isOfWord", "(I)Z"⟩
abbrev cX12_isOther : ByteArray := prog_14_method_88_code
def yX12_isOther : MethodName := ⟨RX12, "isOther", "(III)Z"⟩
abbrev cX12_isReserved : ByteArray := prog_14_method_13_code
def yX12_isReserved : MethodName := ⟨RX12, "isReserved", "(Ljava/lang/String;)Z"⟩
abbrev cX12_isRow : ByteArray := prog_14_method_119_code
def yX12_isRow : MethodName := ⟨RX12, "isRow", "(I)Z"⟩
abbrev cX12_isSame : ByteArray := prog_14_method_127_code
def yX12_isSame : MethodName := ⟨RX12, "isSame", "(IIII)Z"⟩
abbrev cX12_isSameFree : ByteArray := prog_14_method_61_code
def yX12_isSameFree : MethodName := ⟨RX12, "isSameFree", "(III)Z"⟩
abbrev cX12_isSign : ByteArray := prog_14_method_12_code
def yX12_isSign : MethodName := ⟨RX12, "isSign", "(I)Z"⟩
abbrev cX12_isTouched : ByteArray := prog_14_method_89_code
def yX12_isTouched : MethodName := ⟨RX12, "isTouched", "(III)Z"⟩
abbrev cX12_isUnder : ByteArray := prog_14_method_37_code
def yX12_isUnder : MethodName := ⟨RX12, "isUnder", "(III)Z"⟩
abbrev cX12_isWord : ByteArray := prog_14_method_15_code
def yX12_isWord : MethodName := ⟨RX12, "isWord", "()Z"⟩
abbrev cX12_items : ByteArray := prog_14_method_19_code
def yX12_items : MethodName := ⟨RX12, "items", "(I)Z"⟩
abbrev cX12_kidBehind : ByteArray := prog_14_method_30_code
def yX12_kidBehind : MethodName := ⟨RX12, "kidBehind", "(III)I"⟩
abbrev cX12_kidsOf : ByteArray := prog_14_method_33_code
def yX12_kidsOf : MethodName := ⟨RX12, "kidsOf", "(II)I"⟩
abbrev cX12_kindAt : ByteArray := prog_14_method_22_code
def yX12_kindAt : MethodName := ⟨RX12, "kindAt", "(I)I"⟩
abbrev cX12_kindNamed : ByteArray := prog_14_method_18_code
def yX12_kindNamed : MethodName := ⟨RX12, "kindNamed", "(II)I"⟩
abbrev cX12_kindOf : ByteArray := prog_14_method_29_code
def yX12_kindOf : MethodName := ⟨RX12, "kindOf", "(II)I"⟩
abbrev cX12_lays : ByteArray := prog_14_method_78_code
def yX12_lays : MethodName := ⟨RX12, "lays", "(III)V"⟩
abbrev cX12_leadsBack : ByteArray := prog_14_method_95_code
def yX12_leadsBack : MethodName := ⟨RX12, "leadsBack", "(I)Z"⟩
abbrev cX12_lines : ByteArray := prog_14_method_55_code
def yX12_lines : MethodName := ⟨RX12, "lines", "(I)V"⟩
abbrev cX12_longOf : ByteArray := prog_14_method_38_code
def yX12_longOf : MethodName := ⟨RX12, "longOf", "(J)I"⟩
abbrev cX12_made : ByteArray := prog_14_method_110_code
def yX12_made : MethodName := ⟨RX12, "made", "(II)I"⟩
abbrev cX12_match : ByteArray := prog_14_method_68_code
def yX12_match : MethodName := ⟨RX12, "match", "(II)I"⟩
abbrev cX12_matches : ByteArray := prog_14_method_66_code
def yX12_matches : MethodName := ⟨RX12, "matches", "(I)V"⟩
abbrev cX12_merge : ByteArray := prog_14_method_111_code
def yX12_merge : MethodName := ⟨RX12, "merge", "(II)I"⟩
abbrev cX12_merges : ByteArray := prog_14_method_103_code
def yX12_merges : MethodName := ⟨RX12, "merges", "(III)Z"⟩
abbrev cX12_move : ByteArray := prog_14_method_81_code
def yX12_move : MethodName := ⟨RX12, "move", "(III)Z"⟩
abbrev cX12_name : ByteArray := prog_14_method_126_code
def yX12_name : MethodName := ⟨RX12, "name", "(I)I"⟩
abbrev cX12_nameOf : ByteArray := prog_14_method_117_code
def yX12_nameOf : MethodName := ⟨RX12, "nameOf", "(II)I"⟩
abbrev cX12_newNode : ByteArray := prog_14_method_49_code
def yX12_newNode : MethodName := ⟨RX12, "newNode", "(II)I"⟩
abbrev cX12_next : ByteArray := prog_14_method_35_code
def yX12_next : MethodName := ⟨RX12, "next", "(III)I"⟩
abbrev cX12_nextKid : ByteArray := prog_14_method_32_code
def yX12_nextKid : MethodName := ⟨RX12, "nextKid", "(II)I"⟩
abbrev cX12_next_ : ByteArray := prog_14_method_69_code
def yX12_next_ : MethodName := ⟨RX12, "next", "(I)I"⟩
abbrev cX12_noPending : ByteArray := prog_14_method_72_code
def yX12_noPending : MethodName := ⟨RX12, "noPending", "(I)V"⟩
abbrev cX12_node : ByteArray := prog_14_method_116_code
def yX12_node : MethodName := ⟨RX12, "node", "(II)I"⟩
abbrev cX12_nthBase : ByteArray := prog_14_method_107_code
def yX12_nthBase : MethodName := ⟨RX12, "nthBase", "(III)I"⟩
abbrev cX12_of : ByteArray := prog_14_method_123_code
def yX12_of : MethodName := ⟨RX12, "of", "(III)I"⟩
abbrev cX12_orders : ByteArray := prog_14_method_41_code
def yX12_orders : MethodName := ⟨RX12, "orders", "(I)V"⟩
abbrev cX12_ordersKids : ByteArray := prog_14_method_101_code
def yX12_ordersKids : MethodName := ⟨RX12, "ordersKids", "(IIII)Z"⟩
abbrev cX12_outermost : ByteArray := prog_14_method_96_code
def yX12_outermost : MethodName := ⟨RX12, "outermost", "()I"⟩
abbrev cX12_packed : ByteArray := prog_14_method_76_code
def yX12_packed : MethodName := ⟨RX12, "packed", "(J)J"⟩
abbrev cX12_pairs : ByteArray := prog_14_method_59_code
def yX12_pairs : MethodName := ⟨RX12, "pairs", "(II)V"⟩
abbrev cX12_pairsAll : ByteArray := prog_14_method_62_code
def yX12_pairsAll : MethodName := ⟨RX12, "pairsAll", "(III)V"⟩
abbrev cX12_parent : ByteArray := prog_14_method_132_code
def yX12_parent : MethodName := ⟨RX12, "parent", "(II)I"⟩
abbrev cX12_parentsPair : ByteArray := prog_14_method_57_code
def yX12_parentsPair : MethodName := ⟨RX12, "parentsPair", "(III)Z"⟩
abbrev cX12_passes : ByteArray := prog_14_method_11_code
def yX12_passes : MethodName := ⟨RX12, "passes", "(Z)Z"⟩
abbrev cX12_placeOf : ByteArray := prog_14_method_121_code
def yX12_placeOf : MethodName := ⟨RX12, "placeOf", "(II)I"⟩
abbrev cX12_print : ByteArray := prog_14_method_131_code
def yX12_print : MethodName := ⟨RX12, "print", "(II)I"⟩
abbrev cX12_prints : ByteArray := prog_14_method_129_code
def yX12_prints : MethodName := ⟨RX12, "prints", "(I)V"⟩
abbrev cX12_prints_ : ByteArray := prog_14_method_130_code
def yX12_prints_ : MethodName := ⟨RX12, "prints", "(II)V"⟩
abbrev cX12_put : ByteArray := prog_14_method_79_code
def yX12_put : MethodName := ⟨RX12, "put", "(IIIJ)I"⟩
abbrev cX12_quarrel : ByteArray := prog_14_method_115_code
def yX12_quarrel : MethodName := ⟨RX12, "quarrel", "(I)I"⟩
abbrev cX12_quarrels : ByteArray := prog_14_method_87_code
def yX12_quarrels : MethodName := ⟨RX12, "quarrels", "(II)V"⟩
abbrev cX12_readsGrammar : ByteArray := prog_14_method_21_code
def yX12_readsGrammar : MethodName := ⟨RX12, "readsGrammar", "()V"⟩
abbrev cX12_readsNode : ByteArray := prog_14_method_24_code
def yX12_readsNode : MethodName := ⟨RX12, "readsNode", "(II)Z"⟩
abbrev cX12_readsTree : ByteArray := prog_14_method_25_code
def yX12_readsTree : MethodName := ⟨RX12, "readsTree", "()V"⟩
abbrev cX12_rename : ByteArray := prog_14_method_82_code
def yX12_rename : MethodName := ⟨RX12, "rename", "(IJ)Z"⟩
abbrev cX12_root : ByteArray := prog_14_method_34_code
def yX12_root : MethodName := ⟨RX12, "root", "(I)I"⟩
abbrev cX12_rounds : ByteArray := prog_14_method_64_code
def yX12_rounds : MethodName := ⟨RX12, "rounds", "(I)V"⟩
abbrev cX12_ruleRead : ByteArray := prog_14_method_20_code
def yX12_ruleRead : MethodName := ⟨RX12, "ruleRead", "()Z"⟩
abbrev cX12_same : ByteArray := prog_14_method_128_code
def yX12_same : MethodName := ⟨RX12, "same", "(II)Z"⟩
abbrev cX12_says : ByteArray := prog_14_method_98_code
def yX12_says : MethodName := ⟨RX12, "says", "(IIII)I"⟩
abbrev cX12_secondQuarrels : ByteArray := prog_14_method_97_code
def yX12_secondQuarrels : MethodName := ⟨RX12, "secondQuarrels", "()V"⟩
abbrev cX12_settle : ByteArray := prog_14_method_84_code
def yX12_settle : MethodName := ⟨RX12, "settle", "(III)Z"⟩
abbrev cX12_settledFor : ByteArray := prog_14_method_86_code
def yX12_settledFor : MethodName := ⟨RX12, "settledFor", "(IIII)I"⟩
abbrev cX12_shrinks : ByteArray := prog_14_method_77_code
def yX12_shrinks : MethodName := ⟨RX12, "shrinks", "(I)V"⟩
abbrev cX12_sideOf : ByteArray := prog_14_method_90_code
def yX12_sideOf : MethodName := ⟨RX12, "sideOf", "(IIIIZ)I"⟩
abbrev cX12_size : ByteArray := prog_14_method_36_code
def yX12_size : MethodName := ⟨RX12, "size", "(I)I"⟩
abbrev cX12_skips : ByteArray := prog_14_method_8_code
def yX12_skips : MethodName := ⟨RX12, "skips", "()V"⟩
abbrev cX12_stacks : ByteArray := prog_14_method_93_code
def yX12_stacks : MethodName := ⟨RX12, "stacks", "(III)V"⟩
abbrev cX12_stands : ByteArray := prog_14_method_92_code
def yX12_stands : MethodName := ⟨RX12, "stands", "(IIII)Z"⟩
abbrev cX12_suits : ByteArray := prog_14_method_63_code
def yX12_suits : MethodName := ⟨RX12, "suits", "(IIII)Z"⟩
abbrev cX12_take : ByteArray := prog_14_method_80_code
def yX12_take : MethodName := ⟨RX12, "take", "(I)Z"⟩
abbrev cX12_thirdQuarrels : ByteArray := prog_14_method_102_code
def yX12_thirdQuarrels : MethodName := ⟨RX12, "thirdQuarrels", "(III)V"⟩
abbrev cX12_tries : ByteArray := prog_14_method_60_code
def yX12_tries : MethodName := ⟨RX12, "tries", "(II)V"⟩
abbrev cX12_unsettle : ByteArray := prog_14_method_85_code
def yX12_unsettle : MethodName := ⟨RX12, "unsettle", "()I"⟩
abbrev cX12_word : ByteArray := prog_14_method_124_code
def yX12_word : MethodName := ⟨RX12, "word", "(II)J"⟩
abbrev cX12_wordHere : ByteArray := prog_14_method_23_code
def yX12_wordHere : MethodName := ⟨RX12, "wordHere", "()J"⟩
abbrev cX12_wordWriter : ByteArray := prog_14_method_118_code
def yX12_wordWriter : MethodName := ⟨RX12, "wordWriter", "(II)I"⟩
abbrev cX12_writer : ByteArray := prog_14_method_125_code
def yX12_writer : MethodName := ⟨RX12, "writer", "(I)I"⟩
abbrev cX1_add : ByteArray := prog_3_method_5_code
def yX1_add : MethodName := ⟨RX1, "add", "(LTreeMerge$Tree;II)I"⟩
abbrev cX1_comesFrom : ByteArray := prog_3_method_8_code
def yX1_comesFrom : MethodName := ⟨RX1, "comesFrom", "(II)Z"⟩
abbrev cX1_common : ByteArray := prog_3_method_9_code
def yX1_common : MethodName := ⟨RX1, "common", "(II)I"⟩
abbrev cX1_fromsOf : ByteArray := prog_3_method_7_code
def yX1_fromsOf : MethodName := ⟨RX1, "fromsOf", "(I)I"⟩
abbrev cX1_has : ByteArray := prog_3_method_2_code
def yX1_has : MethodName := ⟨RX1, "has", "(I)Z"⟩
abbrev cX1_isFull : ByteArray := prog_3_method_3_code
def yX1_isFull : MethodName := ⟨RX1, "isFull", "()Z"⟩
abbrev cX1_latest : ByteArray := prog_3_method_10_code
def yX1_latest : MethodName := ⟨RX1, "latest", "(I)I"⟩
abbrev cX1_leastOf : ByteArray := prog_3_method_11_code
def yX1_leastOf : MethodName := ⟨RX1, "leastOf", "(I)I"⟩
abbrev cX1_onlyParent : ByteArray := prog_3_method_12_code
def yX1_onlyParent : MethodName := ⟨RX1, "onlyParent", "(I)I"⟩
abbrev cX1_treeOf : ByteArray := prog_3_method_4_code
def yX1_treeOf : MethodName := ⟨RX1, "treeOf", "(I)LTreeMerge$Tree;"⟩
abbrev cX1_writerIn : ByteArray := prog_3_method_6_code
def yX1_writerIn : MethodName := ⟨RX1, "writerIn", "(IIJ)I"⟩
abbrev cX2_allows : ByteArray := prog_4_method_11_code
def yX2_allows : MethodName := ⟨RX2, "allows", "(ILTreeMerge$Kids;)Z"⟩
abbrev cX2_hasKind : ByteArray := prog_4_method_2_code
def yX2_hasKind : MethodName := ⟨RX2, "hasKind", "(I)Z"⟩
abbrev cX2_isNamed : ByteArray := prog_4_method_10_code
def yX2_isNamed : MethodName := ⟨RX2, "isNamed", "(I[III)Z"⟩
abbrev cX2_isSet : ByteArray := prog_4_method_3_code
def yX2_isSet : MethodName := ⟨RX2, "isSet", "(I)Z"⟩
abbrev cX2_kindAt : ByteArray := prog_4_method_8_code
def yX2_kindAt : MethodName := ⟨RX2, "kindAt", "(LTreeMerge$Text;)I"⟩
abbrev cX2_kindOf : ByteArray := prog_4_method_9_code
def yX2_kindOf : MethodName := ⟨RX2, "kindOf", "([III)I"⟩
abbrev cX2_namesAll : ByteArray := prog_4_method_12_code
def yX2_namesAll : MethodName := ⟨RX2, "namesAll", "(ILTreeMerge$Kids;)Z"⟩
abbrev cX2_passOver : ByteArray := prog_4_method_15_code
def yX2_passOver : MethodName := ⟨RX2, "passOver", "(II)V"⟩
abbrev cX2_readFrom : ByteArray := prog_4_method_4_code
def yX2_readFrom : MethodName := ⟨RX2, "readFrom", "(LTreeMerge$Text;)I"⟩
abbrev cX2_readItems : ByteArray := prog_4_method_6_code
def yX2_readItems : MethodName := ⟨RX2, "readItems", "(LTreeMerge$Text;Z)V"⟩
abbrev cX2_readRule : ByteArray := prog_4_method_5_code
def yX2_readRule : MethodName := ⟨RX2, "readRule", "(LTreeMerge$Text;)I"⟩
abbrev cX2_resolveItems : ByteArray := prog_4_method_7_code
def yX2_resolveItems : MethodName := ⟨RX2, "resolveItems", "()I"⟩
abbrev cX2_saysItems : ByteArray := prog_4_method_13_code
def yX2_saysItems : MethodName := ⟨RX2, "saysItems", "(ILTreeMerge$Kids;)Z"⟩
abbrev cX2_step : ByteArray := prog_4_method_14_code
def yX2_step : MethodName := ⟨RX2, "step", "(III)V"⟩
abbrev cX3_add : ByteArray := prog_5_method_3_code
def yX3_add : MethodName := ⟨RX3, "add", "(IJ)V"⟩
abbrev cX3_clear : ByteArray := prog_5_method_2_code
def yX3_clear : MethodName := ⟨RX3, "clear", "()V"⟩
abbrev cX3_hasLikes : ByteArray := prog_5_method_4_code
def yX3_hasLikes : MethodName := ⟨RX3, "hasLikes", "()Z"⟩
abbrev cX4_agree : ByteArray := prog_6_method_10_code
def yX4_agree : MethodName := ⟨RX4, "agree", "(III)Z"⟩
abbrev cX4_areAllFree : ByteArray := prog_6_method_11_code
def yX4_areAllFree : MethodName := ⟨RX4, "areAllFree", "(III)Z"⟩
abbrev cX4_bound : ByteArray := prog_6_method_15_code
def yX4_bound : MethodName := ⟨RX4, "bound", "()I"⟩
abbrev cX4_goRound : ByteArray := prog_6_method_9_code
def yX4_goRound : MethodName := ⟨RX4, "goRound", "(I)V"⟩
abbrev cX4_haveParentsPaired : ByteArray := prog_6_method_6_code
def yX4_haveParentsPaired : MethodName := ⟨RX4, "haveParentsPaired", "(II)Z"⟩
abbrev cX4_link : ByteArray := prog_6_method_4_code
def yX4_link : MethodName := ⟨RX4, "link", "(II)V"⟩
abbrev cX4_linkAll : ByteArray := prog_6_method_12_code
def yX4_linkAll : MethodName := ⟨RX4, "linkAll", "(III)V"⟩
abbrev cX4_numberFor : ByteArray := prog_6_method_16_code
def yX4_numberFor : MethodName := ⟨RX4, "numberFor", "(I)I"⟩
abbrev cX4_pairCost : ByteArray := prog_6_method_5_code
def yX4_pairCost : MethodName := ⟨RX4, "pairCost", "(II)I"⟩
abbrev cX4_pairNothing : ByteArray := prog_6_method_2_code
def yX4_pairNothing : MethodName := ⟨RX4, "pairNothing", "()V"⟩
abbrev cX4_pairUp : ByteArray := prog_6_method_3_code
def yX4_pairUp : MethodName := ⟨RX4, "pairUp", "(LTreeMerge$Tree;LTreeMerge$Tree;)V"⟩
abbrev cX4_pairs : ByteArray := prog_6_method_13_code
def yX4_pairs : MethodName := ⟨RX4, "pairs", "()I"⟩
abbrev cX4_search : ByteArray := prog_6_method_7_code
def yX4_search : MethodName := ⟨RX4, "search", "(III)V"⟩
abbrev cX4_takeBest : ByteArray := prog_6_method_8_code
def yX4_takeBest : MethodName := ⟨RX4, "takeBest", "()V"⟩
abbrev cX4_wholeCost : ByteArray := prog_6_method_14_code
def yX4_wholeCost : MethodName := ⟨RX4, "wholeCost", "()I"⟩
abbrev cX5_choose : ByteArray := prog_7_method_8_code
def yX5_choose : MethodName := ⟨RX5, "choose", "(IIIJJJ)J"⟩
abbrev cX5_countWaits : ByteArray := prog_7_method_17_code
def yX5_countWaits : MethodName := ⟨RX5, "countWaits", "(IZ)Z"⟩
abbrev cX5_decide : ByteArray := prog_7_method_5_code
def yX5_decide : MethodName := ⟨RX5, "decide", "(ILTreeMerge$Settled;)V"⟩
abbrev cX5_decideLone : ByteArray := prog_7_method_6_code
def yX5_decideLone : MethodName := ⟨RX5, "decideLone", "(ILTreeMerge$Side;LTreeMerge$Side;LTreeMerge$Settled;)V"⟩
abbrev cX5_decideShared : ByteArray := prog_7_method_7_code
def yX5_decideShared : MethodName := ⟨RX5, "decideShared", "(ILTreeMerge$Settled;)V"⟩
abbrev cX5_dropTheLed : ByteArray := prog_7_method_11_code
def yX5_dropTheLed : MethodName := ⟨RX5, "dropTheLed", "()V"⟩
abbrev cX5_findCrowd : ByteArray := prog_7_method_14_code
def yX5_findCrowd : MethodName := ⟨RX5, "findCrowd", "()V"⟩
abbrev cX5_findRings : ByteArray := prog_7_method_12_code
def yX5_findRings : MethodName := ⟨RX5, "findRings", "()V"⟩
abbrev cX5_isLeastOfRing : ByteArray := prog_7_method_13_code
def yX5_isLeastOfRing : MethodName := ⟨RX5, "isLeastOfRing", "(I)Z"⟩
abbrev cX5_isStanding : ByteArray := prog_7_method_10_code
def yX5_isStanding : MethodName := ⟨RX5, "isStanding", "(I)Z"⟩
abbrev cX5_listInOrder : ByteArray := prog_7_method_19_code
def yX5_listInOrder : MethodName := ⟨RX5, "listInOrder", "(ILTreeMerge$Kids;)Z"⟩
abbrev cX5_listOutermost : ByteArray := prog_7_method_15_code
def yX5_listOutermost : MethodName := ⟨RX5, "listOutermost", "()V"⟩
abbrev cX5_mark : ByteArray := prog_7_method_3_code
def yX5_mark : MethodName := ⟨RX5, "mark", "(II)V"⟩
abbrev cX5_nextFree : ByteArray := prog_7_method_20_code
def yX5_nextFree : MethodName := ⟨RX5, "nextFree", "()I"⟩
abbrev cX5_orderChildren : ByteArray := prog_7_method_16_code
def yX5_orderChildren : MethodName := ⟨RX5, "orderChildren", "(ILTreeMerge$Grammar;LTreeMerge$Kids;)V"⟩
abbrev cX5_ordering : ByteArray := prog_7_method_18_code
def yX5_ordering : MethodName := ⟨RX5, "ordering", "(III)I"⟩
abbrev cX5_run : ByteArray := prog_7_method_2_code
def yX5_run : MethodName := ⟨RX5, "run", "(LTreeMerge$Settled;LTreeMerge$Grammar;LTreeMerge$Kids;)Z"⟩
abbrev cX5_stand : ByteArray := prog_7_method_9_code
def yX5_stand : MethodName := ⟨RX5, "stand", "(IIJI)V"⟩
abbrev cX5_tellInto : ByteArray := prog_7_method_4_code
def yX5_tellInto : MethodName := ⟨RX5, "tellInto", "([I)I"⟩
abbrev cX6_addName : ByteArray := prog_8_method_6_code
def yX6_addName : MethodName := ⟨RX6, "addName", "(ILTreeMerge$Grammar;)V"⟩
abbrev cX6_addSign : ByteArray := prog_8_method_3_code
def yX6_addSign : MethodName := ⟨RX6, "addSign", "(I)V"⟩
abbrev cX6_addSigns : ByteArray := prog_8_method_4_code
def yX6_addSigns : MethodName := ⟨RX6, "addSigns", "(II)V"⟩
abbrev cX6_addTree : ByteArray := prog_8_method_5_code
def yX6_addTree : MethodName := ⟨RX6, "addTree", "(LTreeMerge$Tree;LTreeMerge$Grammar;)V"⟩
abbrev cX6_addWord : ByteArray := prog_8_method_7_code
def yX6_addWord : MethodName := ⟨RX6, "addWord", "(J)V"⟩
abbrev cX6_start : ByteArray := prog_8_method_2_code
def yX6_start : MethodName := ⟨RX6, "start", "(I)V"⟩
abbrev cX7_clear : ByteArray := prog_9_method_5_code
def yX7_clear : MethodName := ⟨RX7, "clear", "()V"⟩
abbrev cX7_editionFor : ByteArray := prog_9_method_4_code
def yX7_editionFor : MethodName := ⟨RX7, "editionFor", "(II)I"⟩
abbrev cX7_rowOf : ByteArray := prog_9_method_2_code
def yX7_rowOf : MethodName := ⟨RX7, "rowOf", "(II)I"⟩
abbrev cX7_set : ByteArray := prog_9_method_3_code
def yX7_set : MethodName := ⟨RX7, "set", "(III)V"⟩
abbrev cX8_findTouched : ByteArray := prog_10_method_9_code
def yX8_findTouched : MethodName := ⟨RX8, "findTouched", "(LTreeMerge$Side;)V"⟩
abbrev cX8_has : ByteArray := prog_10_method_4_code
def yX8_has : MethodName := ⟨RX8, "has", "(I)Z"⟩
abbrev cX8_isTouched : ByteArray := prog_10_method_10_code
def yX8_isTouched : MethodName := ⟨RX8, "isTouched", "(I)Z"⟩
abbrev cX8_kindOf : ByteArray := prog_10_method_5_code
def yX8_kindOf : MethodName := ⟨RX8, "kindOf", "(I)I"⟩
abbrev cX8_load : ByteArray := prog_10_method_2_code
def yX8_load : MethodName := ⟨RX8, "load", "(LTreeMerge$Tree;I)V"⟩
abbrev cX8_ordering : ByteArray := prog_10_method_11_code
def yX8_ordering : MethodName := ⟨RX8, "ordering", "(III)I"⟩
abbrev cX8_outermost : ByteArray := prog_10_method_8_code
def yX8_outermost : MethodName := ⟨RX8, "outermost", "()I"⟩
abbrev cX8_placeOf : ByteArray := prog_10_method_3_code
def yX8_placeOf : MethodName := ⟨RX8, "placeOf", "(I)I"⟩
abbrev cX8_upOf : ByteArray := prog_10_method_7_code
def yX8_upOf : MethodName := ⟨RX8, "upOf", "(I)I"⟩
abbrev cX8_wordOf : ByteArray := prog_10_method_6_code
def yX8_wordOf : MethodName := ⟨RX8, "wordOf", "(I)J"⟩
abbrev cX9_advance : ByteArray := prog_11_method_5_code
def yX9_advance : MethodName := ⟨RX9, "advance", "()V"⟩
abbrev cX9_append : ByteArray := prog_11_method_3_code
def yX9_append : MethodName := ⟨RX9, "append", "(I)V"⟩
abbrev cX9_cutName : ByteArray := prog_11_method_6_code
def yX9_cutName : MethodName := ⟨RX9, "cutName", "()V"⟩
abbrev cX9_cutWord : ByteArray := prog_11_method_7_code
def yX9_cutWord : MethodName := ⟨RX9, "cutWord", "()V"⟩
abbrev cX9_hasRoom : ByteArray := prog_11_method_2_code
def yX9_hasRoom : MethodName := ⟨RX9, "hasRoom", "(I)Z"⟩
abbrev cX9_isSign : ByteArray := prog_11_method_9_code
def yX9_isSign : MethodName := ⟨RX9, "isSign", "(I)Z"⟩
abbrev cX9_rewind : ByteArray := prog_11_method_4_code
def yX9_rewind : MethodName := ⟨RX9, "rewind", "()V"⟩
abbrev cX9_spells : ByteArray := prog_11_method_8_code
def yX9_spells : MethodName := ⟨RX9, "spells", "(Ljava/lang/String;)Z"⟩
abbrev cX9_wordHere : ByteArray := prog_11_method_10_code
def yX9_wordHere : MethodName := ⟨RX9, "wordHere", "()J"⟩
theorem dL_law_0 : decode cL_law 0 = .ok (.new 7, 3) := by decide +kernel
theorem dL_law_3 : decode cL_law 3 = .ok (.dup, 1) := by decide +kernel
theorem dL_law_4 : decode cL_law 4 = .ok (.invokespecial 9, 3) := by decide +kernel
theorem dL_law_7 : decode cL_law 7 = .ok (.astore_n 1, 1) := by decide +kernel
theorem dL_law_8 : decode cL_law 8 = .ok (.new 10, 3) := by decide +kernel
theorem dL_law_11 : decode cL_law 11 = .ok (.dup, 1) := by decide +kernel
theorem dL_law_12 : decode cL_law 12 = .ok (.invokespecial 12, 3) := by decide +kernel
theorem dL_law_15 : decode cL_law 15 = .ok (.astore_n 2, 1) := by decide +kernel
theorem dL_law_16 : decode cL_law 16 = .ok (.iconst 0, 1) := by decide +kernel
theorem dL_law_17 : decode cL_law 17 = .ok (.istore_n 3, 1) := by decide +kernel
theorem dL_law_18 : decode cL_law 18 = .ok (.iload_n 3, 1) := by decide +kernel
theorem dL_law_19 : decode cL_law 19 = .ok (.aload_n 0, 1) := by decide +kernel
theorem dL_law_20 : decode cL_law 20 = .ok (.arraylength, 1) := by decide +kernel
theorem dL_law_21 : decode cL_law 21 = .ok (.bipush 6, 2) := by decide +kernel
theorem dL_law_23 : decode cL_law 23 = .ok (.isub, 1) := by decide +kernel
theorem dL_law_24 : decode cL_law 24 = .ok (.if_icmp .gt 1160, 3) := by decide +kernel
theorem dL_law_27 : decode cL_law 27 = .ok (.aload_n 0, 1) := by decide +kernel
theorem dL_law_28 : decode cL_law 28 = .ok (.iload_n 3, 1) := by decide +kernel
theorem dL_law_29 : decode cL_law 29 = .ok (.iaload, 1) := by decide +kernel
theorem dL_law_30 : decode cL_law 30 = .ok (.bipush 31, 2) := by decide +kernel
theorem dL_law_32 : decode cL_law 32 = .ok (.iand, 1) := by decide +kernel
theorem dL_law_33 : decode cL_law 33 = .ok (.tableswitch 1145 0 31 #[143, 206, 229, 268, 281, 294, 307, 340, 363, 386, 399, 482, 505, 548, 611, 624, 657, 690, 723, 756, 779, 822, 835, 868, 911, 944, 967, 990, 1023, 1056, 1089, 1122], 143) := by decide +kernel
theorem dL_law_176 : decode cL_law 176 = .ok (.aload_n 1, 1) := by decide +kernel
theorem dL_law_177 : decode cL_law 177 = .ok (.aload_n 0, 1) := by decide +kernel
theorem dL_law_178 : decode cL_law 178 = .ok (.iload_n 3, 1) := by decide +kernel
theorem dL_law_179 : decode cL_law 179 = .ok (.iconst 1, 1) := by decide +kernel
theorem dL_law_180 : decode cL_law 180 = .ok (.iadd, 1) := by decide +kernel
theorem dL_law_181 : decode cL_law 181 = .ok (.iaload, 1) := by decide +kernel
theorem dL_law_182 : decode cL_law 182 = .ok (.aload_n 0, 1) := by decide +kernel
theorem dL_law_183 : decode cL_law 183 = .ok (.iload_n 3, 1) := by decide +kernel
theorem dL_law_184 : decode cL_law 184 = .ok (.iconst 2, 1) := by decide +kernel
theorem dL_law_185 : decode cL_law 185 = .ok (.iadd, 1) := by decide +kernel
theorem dL_law_186 : decode cL_law 186 = .ok (.iaload, 1) := by decide +kernel
theorem dL_law_187 : decode cL_law 187 = .ok (.aload_n 0, 1) := by decide +kernel
theorem dL_law_188 : decode cL_law 188 = .ok (.iload_n 3, 1) := by decide +kernel
theorem dL_law_189 : decode cL_law 189 = .ok (.iconst 3, 1) := by decide +kernel
theorem dL_law_190 : decode cL_law 190 = .ok (.iadd, 1) := by decide +kernel
theorem dL_law_191 : decode cL_law 191 = .ok (.iaload, 1) := by decide +kernel
theorem dL_law_192 : decode cL_law 192 = .ok (.aload_n 0, 1) := by decide +kernel
theorem dL_law_193 : decode cL_law 193 = .ok (.iload_n 3, 1) := by decide +kernel
theorem dL_law_194 : decode cL_law 194 = .ok (.iconst 4, 1) := by decide +kernel
theorem dL_law_195 : decode cL_law 195 = .ok (.iadd, 1) := by decide +kernel
theorem dL_law_196 : decode cL_law 196 = .ok (.iaload, 1) := by decide +kernel
theorem dL_law_197 : decode cL_law 197 = .ok (.aload_n 0, 1) := by decide +kernel
theorem dL_law_198 : decode cL_law 198 = .ok (.iload_n 3, 1) := by decide +kernel
theorem dL_law_199 : decode cL_law 199 = .ok (.iconst 5, 1) := by decide +kernel
theorem dL_law_200 : decode cL_law 200 = .ok (.iadd, 1) := by decide +kernel
theorem dL_law_201 : decode cL_law 201 = .ok (.iaload, 1) := by decide +kernel
theorem dL_law_202 : decode cL_law 202 = .ok (.invokevirtual 13, 3) := by decide +kernel
theorem dL_law_205 : decode cL_law 205 = .ok (.pop, 1) := by decide +kernel
theorem dL_law_206 : decode cL_law 206 = .ok (.aload_n 2, 1) := by decide +kernel
theorem dL_law_207 : decode cL_law 207 = .ok (.aload_n 0, 1) := by decide +kernel
theorem dL_law_208 : decode cL_law 208 = .ok (.iload_n 3, 1) := by decide +kernel
theorem dL_law_209 : decode cL_law 209 = .ok (.iconst 1, 1) := by decide +kernel
theorem dL_law_210 : decode cL_law 210 = .ok (.iadd, 1) := by decide +kernel
theorem dL_law_211 : decode cL_law 211 = .ok (.iaload, 1) := by decide +kernel
theorem dL_law_212 : decode cL_law 212 = .ok (.aload_n 0, 1) := by decide +kernel
theorem dL_law_213 : decode cL_law 213 = .ok (.iload_n 3, 1) := by decide +kernel
theorem dL_law_214 : decode cL_law 214 = .ok (.iconst 2, 1) := by decide +kernel
theorem dL_law_215 : decode cL_law 215 = .ok (.iadd, 1) := by decide +kernel
theorem dL_law_216 : decode cL_law 216 = .ok (.iaload, 1) := by decide +kernel
theorem dL_law_217 : decode cL_law 217 = .ok (.aload_n 0, 1) := by decide +kernel
theorem dL_law_218 : decode cL_law 218 = .ok (.iload_n 3, 1) := by decide +kernel
theorem dL_law_219 : decode cL_law 219 = .ok (.iconst 3, 1) := by decide +kernel
theorem dL_law_220 : decode cL_law 220 = .ok (.iadd, 1) := by decide +kernel
theorem dL_law_221 : decode cL_law 221 = .ok (.iaload, 1) := by decide +kernel
theorem dL_law_222 : decode cL_law 222 = .ok (.aload_n 0, 1) := by decide +kernel
theorem dL_law_223 : decode cL_law 223 = .ok (.iload_n 3, 1) := by decide +kernel
theorem dL_law_224 : decode cL_law 224 = .ok (.iconst 4, 1) := by decide +kernel
theorem dL_law_225 : decode cL_law 225 = .ok (.iadd, 1) := by decide +kernel
theorem dL_law_226 : decode cL_law 226 = .ok (.iaload, 1) := by decide +kernel
theorem dL_law_227 : decode cL_law 227 = .ok (.aload_n 0, 1) := by decide +kernel
theorem dL_law_228 : decode cL_law 228 = .ok (.iload_n 3, 1) := by decide +kernel
theorem dL_law_229 : decode cL_law 229 = .ok (.iconst 5, 1) := by decide +kernel
theorem dL_law_230 : decode cL_law 230 = .ok (.iadd, 1) := by decide +kernel
theorem dL_law_231 : decode cL_law 231 = .ok (.iaload, 1) := by decide +kernel
theorem dL_law_232 : decode cL_law 232 = .ok (.invokevirtual 17, 3) := by decide +kernel
theorem dL_law_235 : decode cL_law 235 = .ok (.pop, 1) := by decide +kernel
theorem dL_law_236 : decode cL_law 236 = .ok (.goto 942, 3) := by decide +kernel
theorem dL_law_239 : decode cL_law 239 = .ok (.aload_n 1, 1) := by decide +kernel
theorem dL_law_240 : decode cL_law 240 = .ok (.aload_n 0, 1) := by decide +kernel
theorem dL_law_241 : decode cL_law 241 = .ok (.iload_n 3, 1) := by decide +kernel
theorem dL_law_242 : decode cL_law 242 = .ok (.iconst 1, 1) := by decide +kernel
theorem dL_law_243 : decode cL_law 243 = .ok (.iadd, 1) := by decide +kernel
theorem dL_law_244 : decode cL_law 244 = .ok (.iaload, 1) := by decide +kernel
theorem dL_law_245 : decode cL_law 245 = .ok (.invokevirtual 18, 3) := by decide +kernel
theorem dL_law_248 : decode cL_law 248 = .ok (.pop, 1) := by decide +kernel
theorem dL_law_249 : decode cL_law 249 = .ok (.aload_n 2, 1) := by decide +kernel
theorem dL_law_250 : decode cL_law 250 = .ok (.aload_n 0, 1) := by decide +kernel
theorem dL_law_251 : decode cL_law 251 = .ok (.iload_n 3, 1) := by decide +kernel
theorem dL_law_252 : decode cL_law 252 = .ok (.iconst 1, 1) := by decide +kernel
theorem dL_law_253 : decode cL_law 253 = .ok (.iadd, 1) := by decide +kernel
theorem dL_law_254 : decode cL_law 254 = .ok (.iaload, 1) := by decide +kernel
theorem dL_law_255 : decode cL_law 255 = .ok (.invokevirtual 22, 3) := by decide +kernel
theorem dL_law_258 : decode cL_law 258 = .ok (.pop, 1) := by decide +kernel
theorem dL_law_259 : decode cL_law 259 = .ok (.goto 919, 3) := by decide +kernel
theorem dL_law_262 : decode cL_law 262 = .ok (.aload_n 1, 1) := by decide +kernel
theorem dL_law_263 : decode cL_law 263 = .ok (.aload_n 0, 1) := by decide +kernel
theorem dL_law_264 : decode cL_law 264 = .ok (.iload_n 3, 1) := by decide +kernel
theorem dL_law_265 : decode cL_law 265 = .ok (.iconst 1, 1) := by decide +kernel
theorem dL_law_266 : decode cL_law 266 = .ok (.iadd, 1) := by decide +kernel
theorem dL_law_267 : decode cL_law 267 = .ok (.iaload, 1) := by decide +kernel
theorem dL_law_268 : decode cL_law 268 = .ok (.ifCond .eq 7, 3) := by decide +kernel
theorem dL_law_271 : decode cL_law 271 = .ok (.iconst 1, 1) := by decide +kernel
theorem dL_law_272 : decode cL_law 272 = .ok (.goto 4, 3) := by decide +kernel
theorem dL_law_275 : decode cL_law 275 = .ok (.iconst 0, 1) := by decide +kernel
theorem dL_law_276 : decode cL_law 276 = .ok (.invokevirtual 23, 3) := by decide +kernel
theorem dL_law_279 : decode cL_law 279 = .ok (.pop, 1) := by decide +kernel
theorem dL_law_280 : decode cL_law 280 = .ok (.aload_n 2, 1) := by decide +kernel
theorem dL_law_281 : decode cL_law 281 = .ok (.aload_n 0, 1) := by decide +kernel
theorem dL_law_282 : decode cL_law 282 = .ok (.iload_n 3, 1) := by decide +kernel
theorem dL_law_283 : decode cL_law 283 = .ok (.iconst 1, 1) := by decide +kernel
theorem dL_law_284 : decode cL_law 284 = .ok (.iadd, 1) := by decide +kernel
theorem dL_law_285 : decode cL_law 285 = .ok (.iaload, 1) := by decide +kernel
theorem dL_law_286 : decode cL_law 286 = .ok (.ifCond .eq 7, 3) := by decide +kernel
theorem dL_law_289 : decode cL_law 289 = .ok (.iconst 1, 1) := by decide +kernel
theorem dL_law_290 : decode cL_law 290 = .ok (.goto 4, 3) := by decide +kernel
theorem dL_law_293 : decode cL_law 293 = .ok (.iconst 0, 1) := by decide +kernel
theorem dL_law_294 : decode cL_law 294 = .ok (.invokevirtual 27, 3) := by decide +kernel
theorem dL_law_297 : decode cL_law 297 = .ok (.pop, 1) := by decide +kernel
theorem dL_law_298 : decode cL_law 298 = .ok (.goto 880, 3) := by decide +kernel
theorem dL_law_301 : decode cL_law 301 = .ok (.aload_n 1, 1) := by decide +kernel
theorem dL_law_302 : decode cL_law 302 = .ok (.invokevirtual 28, 3) := by decide +kernel
theorem dL_law_305 : decode cL_law 305 = .ok (.aload_n 2, 1) := by decide +kernel
theorem dL_law_306 : decode cL_law 306 = .ok (.invokevirtual 32, 3) := by decide +kernel
theorem dL_law_309 : decode cL_law 309 = .ok (.if_icmp .eq 869, 3) := by decide +kernel
theorem dL_law_312 : decode cL_law 312 = .ok (.iconst 0, 1) := by decide +kernel
theorem dL_law_313 : decode cL_law 313 = .ok (.ireturn, 1) := by decide +kernel
theorem dL_law_314 : decode cL_law 314 = .ok (.aload_n 1, 1) := by decide +kernel
theorem dL_law_315 : decode cL_law 315 = .ok (.invokevirtual 33, 3) := by decide +kernel
theorem dL_law_318 : decode cL_law 318 = .ok (.pop, 1) := by decide +kernel
theorem dL_law_319 : decode cL_law 319 = .ok (.aload_n 2, 1) := by decide +kernel
theorem dL_law_320 : decode cL_law 320 = .ok (.invokevirtual 36, 3) := by decide +kernel
theorem dL_law_323 : decode cL_law 323 = .ok (.pop, 1) := by decide +kernel
theorem dL_law_324 : decode cL_law 324 = .ok (.goto 854, 3) := by decide +kernel
theorem dL_law_327 : decode cL_law 327 = .ok (.aload_n 1, 1) := by decide +kernel
theorem dL_law_328 : decode cL_law 328 = .ok (.invokevirtual 37, 3) := by decide +kernel
theorem dL_law_331 : decode cL_law 331 = .ok (.pop, 1) := by decide +kernel
theorem dL_law_332 : decode cL_law 332 = .ok (.aload_n 2, 1) := by decide +kernel
theorem dL_law_333 : decode cL_law 333 = .ok (.invokevirtual 40, 3) := by decide +kernel
theorem dL_law_336 : decode cL_law 336 = .ok (.pop, 1) := by decide +kernel
theorem dL_law_337 : decode cL_law 337 = .ok (.goto 841, 3) := by decide +kernel
theorem dL_law_340 : decode cL_law 340 = .ok (.aload_n 1, 1) := by decide +kernel
theorem dL_law_341 : decode cL_law 341 = .ok (.aload_n 0, 1) := by decide +kernel
theorem dL_law_342 : decode cL_law 342 = .ok (.iload_n 3, 1) := by decide +kernel
theorem dL_law_343 : decode cL_law 343 = .ok (.iconst 1, 1) := by decide +kernel
theorem dL_law_344 : decode cL_law 344 = .ok (.iadd, 1) := by decide +kernel
theorem dL_law_345 : decode cL_law 345 = .ok (.iaload, 1) := by decide +kernel
theorem dL_law_346 : decode cL_law 346 = .ok (.aload_n 0, 1) := by decide +kernel
theorem dL_law_347 : decode cL_law 347 = .ok (.iload_n 3, 1) := by decide +kernel
theorem dL_law_348 : decode cL_law 348 = .ok (.iconst 2, 1) := by decide +kernel
theorem dL_law_349 : decode cL_law 349 = .ok (.iadd, 1) := by decide +kernel
theorem dL_law_350 : decode cL_law 350 = .ok (.iaload, 1) := by decide +kernel
theorem dL_law_351 : decode cL_law 351 = .ok (.invokevirtual 41, 3) := by decide +kernel
theorem dL_law_354 : decode cL_law 354 = .ok (.pop, 1) := by decide +kernel
theorem dL_law_355 : decode cL_law 355 = .ok (.aload_n 2, 1) := by decide +kernel
theorem dL_law_356 : decode cL_law 356 = .ok (.aload_n 0, 1) := by decide +kernel
theorem dL_law_357 : decode cL_law 357 = .ok (.iload_n 3, 1) := by decide +kernel
theorem dL_law_358 : decode cL_law 358 = .ok (.iconst 1, 1) := by decide +kernel
theorem dL_law_359 : decode cL_law 359 = .ok (.iadd, 1) := by decide +kernel
theorem dL_law_360 : decode cL_law 360 = .ok (.iaload, 1) := by decide +kernel
theorem dL_law_361 : decode cL_law 361 = .ok (.aload_n 0, 1) := by decide +kernel
theorem dL_law_362 : decode cL_law 362 = .ok (.iload_n 3, 1) := by decide +kernel
theorem dL_law_363 : decode cL_law 363 = .ok (.iconst 2, 1) := by decide +kernel
theorem dL_law_364 : decode cL_law 364 = .ok (.iadd, 1) := by decide +kernel
theorem dL_law_365 : decode cL_law 365 = .ok (.iaload, 1) := by decide +kernel
theorem dL_law_366 : decode cL_law 366 = .ok (.invokevirtual 45, 3) := by decide +kernel
theorem dL_law_369 : decode cL_law 369 = .ok (.pop, 1) := by decide +kernel
theorem dL_law_370 : decode cL_law 370 = .ok (.goto 808, 3) := by decide +kernel
theorem dL_law_373 : decode cL_law 373 = .ok (.aload_n 1, 1) := by decide +kernel
theorem dL_law_374 : decode cL_law 374 = .ok (.aload_n 0, 1) := by decide +kernel
theorem dL_law_375 : decode cL_law 375 = .ok (.iload_n 3, 1) := by decide +kernel
theorem dL_law_376 : decode cL_law 376 = .ok (.iconst 1, 1) := by decide +kernel
theorem dL_law_377 : decode cL_law 377 = .ok (.iadd, 1) := by decide +kernel
theorem dL_law_378 : decode cL_law 378 = .ok (.iaload, 1) := by decide +kernel
theorem dL_law_379 : decode cL_law 379 = .ok (.invokevirtual 46, 3) := by decide +kernel
theorem dL_law_382 : decode cL_law 382 = .ok (.pop, 1) := by decide +kernel
theorem dL_law_383 : decode cL_law 383 = .ok (.aload_n 2, 1) := by decide +kernel
theorem dL_law_384 : decode cL_law 384 = .ok (.aload_n 0, 1) := by decide +kernel
theorem dL_law_385 : decode cL_law 385 = .ok (.iload_n 3, 1) := by decide +kernel
theorem dL_law_386 : decode cL_law 386 = .ok (.iconst 1, 1) := by decide +kernel
theorem dL_law_387 : decode cL_law 387 = .ok (.iadd, 1) := by decide +kernel
theorem dL_law_388 : decode cL_law 388 = .ok (.iaload, 1) := by decide +kernel
theorem dL_law_389 : decode cL_law 389 = .ok (.invokevirtual 50, 3) := by decide +kernel
theorem dL_law_392 : decode cL_law 392 = .ok (.pop, 1) := by decide +kernel
theorem dL_law_393 : decode cL_law 393 = .ok (.goto 785, 3) := by decide +kernel
theorem dL_law_396 : decode cL_law 396 = .ok (.aload_n 1, 1) := by decide +kernel
theorem dL_law_397 : decode cL_law 397 = .ok (.aload_n 0, 1) := by decide +kernel
theorem dL_law_398 : decode cL_law 398 = .ok (.iload_n 3, 1) := by decide +kernel
theorem dL_law_399 : decode cL_law 399 = .ok (.iconst 1, 1) := by decide +kernel
theorem dL_law_400 : decode cL_law 400 = .ok (.iadd, 1) := by decide +kernel
theorem dL_law_401 : decode cL_law 401 = .ok (.iaload, 1) := by decide +kernel
theorem dL_law_402 : decode cL_law 402 = .ok (.invokevirtual 51, 3) := by decide +kernel
theorem dL_law_405 : decode cL_law 405 = .ok (.pop, 1) := by decide +kernel
theorem dL_law_406 : decode cL_law 406 = .ok (.aload_n 2, 1) := by decide +kernel
theorem dL_law_407 : decode cL_law 407 = .ok (.aload_n 0, 1) := by decide +kernel
theorem dL_law_408 : decode cL_law 408 = .ok (.iload_n 3, 1) := by decide +kernel
theorem dL_law_409 : decode cL_law 409 = .ok (.iconst 1, 1) := by decide +kernel
theorem dL_law_410 : decode cL_law 410 = .ok (.iadd, 1) := by decide +kernel
theorem dL_law_411 : decode cL_law 411 = .ok (.iaload, 1) := by decide +kernel
theorem dL_law_412 : decode cL_law 412 = .ok (.invokevirtual 54, 3) := by decide +kernel
theorem dL_law_415 : decode cL_law 415 = .ok (.pop, 1) := by decide +kernel
theorem dL_law_416 : decode cL_law 416 = .ok (.goto 762, 3) := by decide +kernel
theorem dL_law_419 : decode cL_law 419 = .ok (.aload_n 1, 1) := by decide +kernel
theorem dL_law_420 : decode cL_law 420 = .ok (.invokevirtual 55, 3) := by decide +kernel
theorem dL_law_423 : decode cL_law 423 = .ok (.pop, 1) := by decide +kernel
theorem dL_law_424 : decode cL_law 424 = .ok (.aload_n 2, 1) := by decide +kernel
theorem dL_law_425 : decode cL_law 425 = .ok (.invokevirtual 59, 3) := by decide +kernel
theorem dL_law_428 : decode cL_law 428 = .ok (.pop, 1) := by decide +kernel
theorem dL_law_429 : decode cL_law 429 = .ok (.goto 749, 3) := by decide +kernel
theorem dL_law_432 : decode cL_law 432 = .ok (.aload_n 1, 1) := by decide +kernel
theorem dL_law_433 : decode cL_law 433 = .ok (.aload_n 0, 1) := by decide +kernel
theorem dL_law_434 : decode cL_law 434 = .ok (.iload_n 3, 1) := by decide +kernel
theorem dL_law_435 : decode cL_law 435 = .ok (.iconst 1, 1) := by decide +kernel
theorem dL_law_436 : decode cL_law 436 = .ok (.iadd, 1) := by decide +kernel
theorem dL_law_437 : decode cL_law 437 = .ok (.iaload, 1) := by decide +kernel
theorem dL_law_438 : decode cL_law 438 = .ok (.aload_n 0, 1) := by decide +kernel
theorem dL_law_439 : decode cL_law 439 = .ok (.iload_n 3, 1) := by decide +kernel
theorem dL_law_440 : decode cL_law 440 = .ok (.iconst 2, 1) := by decide +kernel
theorem dL_law_441 : decode cL_law 441 = .ok (.iadd, 1) := by decide +kernel
theorem dL_law_442 : decode cL_law 442 = .ok (.iaload, 1) := by decide +kernel
theorem dL_law_443 : decode cL_law 443 = .ok (.aload_n 0, 1) := by decide +kernel
theorem dL_law_444 : decode cL_law 444 = .ok (.iload_n 3, 1) := by decide +kernel
theorem dL_law_445 : decode cL_law 445 = .ok (.iconst 3, 1) := by decide +kernel
theorem dL_law_446 : decode cL_law 446 = .ok (.iadd, 1) := by decide +kernel
theorem dL_law_447 : decode cL_law 447 = .ok (.iaload, 1) := by decide +kernel
theorem dL_law_448 : decode cL_law 448 = .ok (.aload_n 0, 1) := by decide +kernel
theorem dL_law_449 : decode cL_law 449 = .ok (.iload_n 3, 1) := by decide +kernel
theorem dL_law_450 : decode cL_law 450 = .ok (.iconst 4, 1) := by decide +kernel
theorem dL_law_451 : decode cL_law 451 = .ok (.iadd, 1) := by decide +kernel
theorem dL_law_452 : decode cL_law 452 = .ok (.iaload, 1) := by decide +kernel
theorem dL_law_453 : decode cL_law 453 = .ok (.i2l, 1) := by decide +kernel
theorem dL_law_454 : decode cL_law 454 = .ok (.bipush 32, 2) := by decide +kernel
theorem dL_law_456 : decode cL_law 456 = .ok (.lshl, 1) := by decide +kernel
theorem dL_law_457 : decode cL_law 457 = .ok (.aload_n 0, 1) := by decide +kernel
theorem dL_law_458 : decode cL_law 458 = .ok (.iload_n 3, 1) := by decide +kernel
theorem dL_law_459 : decode cL_law 459 = .ok (.iconst 5, 1) := by decide +kernel
theorem dL_law_460 : decode cL_law 460 = .ok (.iadd, 1) := by decide +kernel
theorem dL_law_461 : decode cL_law 461 = .ok (.iaload, 1) := by decide +kernel
theorem dL_law_462 : decode cL_law 462 = .ok (.i2l, 1) := by decide +kernel
theorem dL_law_463 : decode cL_law 463 = .ok (.ldc2_w 60, 3) := by decide +kernel
theorem dL_law_466 : decode cL_law 466 = .ok (.land, 1) := by decide +kernel
theorem dL_law_467 : decode cL_law 467 = .ok (.lor, 1) := by decide +kernel
theorem dL_law_468 : decode cL_law 468 = .ok (.invokevirtual 62, 3) := by decide +kernel
theorem dL_law_471 : decode cL_law 471 = .ok (.pop, 1) := by decide +kernel
theorem dL_law_472 : decode cL_law 472 = .ok (.aload_n 2, 1) := by decide +kernel
theorem dL_law_473 : decode cL_law 473 = .ok (.aload_n 0, 1) := by decide +kernel
theorem dL_law_474 : decode cL_law 474 = .ok (.iload_n 3, 1) := by decide +kernel
theorem dL_law_475 : decode cL_law 475 = .ok (.iconst 1, 1) := by decide +kernel
theorem dL_law_476 : decode cL_law 476 = .ok (.iadd, 1) := by decide +kernel
theorem dL_law_477 : decode cL_law 477 = .ok (.iaload, 1) := by decide +kernel
theorem dL_law_478 : decode cL_law 478 = .ok (.aload_n 0, 1) := by decide +kernel
theorem dL_law_479 : decode cL_law 479 = .ok (.iload_n 3, 1) := by decide +kernel
theorem dL_law_480 : decode cL_law 480 = .ok (.iconst 2, 1) := by decide +kernel
theorem dL_law_481 : decode cL_law 481 = .ok (.iadd, 1) := by decide +kernel
theorem dL_law_482 : decode cL_law 482 = .ok (.iaload, 1) := by decide +kernel
theorem dL_law_483 : decode cL_law 483 = .ok (.aload_n 0, 1) := by decide +kernel
theorem dL_law_484 : decode cL_law 484 = .ok (.iload_n 3, 1) := by decide +kernel
theorem dL_law_485 : decode cL_law 485 = .ok (.iconst 3, 1) := by decide +kernel
theorem dL_law_486 : decode cL_law 486 = .ok (.iadd, 1) := by decide +kernel
theorem dL_law_487 : decode cL_law 487 = .ok (.iaload, 1) := by decide +kernel
theorem dL_law_488 : decode cL_law 488 = .ok (.aload_n 0, 1) := by decide +kernel
theorem dL_law_489 : decode cL_law 489 = .ok (.iload_n 3, 1) := by decide +kernel
theorem dL_law_490 : decode cL_law 490 = .ok (.iconst 4, 1) := by decide +kernel
theorem dL_law_491 : decode cL_law 491 = .ok (.iadd, 1) := by decide +kernel
theorem dL_law_492 : decode cL_law 492 = .ok (.iaload, 1) := by decide +kernel
theorem dL_law_493 : decode cL_law 493 = .ok (.i2l, 1) := by decide +kernel
theorem dL_law_494 : decode cL_law 494 = .ok (.bipush 32, 2) := by decide +kernel
theorem dL_law_496 : decode cL_law 496 = .ok (.lshl, 1) := by decide +kernel
theorem dL_law_497 : decode cL_law 497 = .ok (.aload_n 0, 1) := by decide +kernel
theorem dL_law_498 : decode cL_law 498 = .ok (.iload_n 3, 1) := by decide +kernel
theorem dL_law_499 : decode cL_law 499 = .ok (.iconst 5, 1) := by decide +kernel
theorem dL_law_500 : decode cL_law 500 = .ok (.iadd, 1) := by decide +kernel
theorem dL_law_501 : decode cL_law 501 = .ok (.iaload, 1) := by decide +kernel
theorem dL_law_502 : decode cL_law 502 = .ok (.i2l, 1) := by decide +kernel
theorem dL_law_503 : decode cL_law 503 = .ok (.ldc2_w 60, 3) := by decide +kernel
theorem dL_law_506 : decode cL_law 506 = .ok (.land, 1) := by decide +kernel
theorem dL_law_507 : decode cL_law 507 = .ok (.lor, 1) := by decide +kernel
theorem dL_law_508 : decode cL_law 508 = .ok (.invokevirtual 66, 3) := by decide +kernel
theorem dL_law_511 : decode cL_law 511 = .ok (.pop, 1) := by decide +kernel
theorem dL_law_512 : decode cL_law 512 = .ok (.goto 666, 3) := by decide +kernel
theorem dL_law_515 : decode cL_law 515 = .ok (.aload_n 1, 1) := by decide +kernel
theorem dL_law_516 : decode cL_law 516 = .ok (.aload_n 0, 1) := by decide +kernel
theorem dL_law_517 : decode cL_law 517 = .ok (.iload_n 3, 1) := by decide +kernel
theorem dL_law_518 : decode cL_law 518 = .ok (.iconst 1, 1) := by decide +kernel
theorem dL_law_519 : decode cL_law 519 = .ok (.iadd, 1) := by decide +kernel
theorem dL_law_520 : decode cL_law 520 = .ok (.iaload, 1) := by decide +kernel
theorem dL_law_521 : decode cL_law 521 = .ok (.invokevirtual 67, 3) := by decide +kernel
theorem dL_law_524 : decode cL_law 524 = .ok (.pop, 1) := by decide +kernel
theorem dL_law_525 : decode cL_law 525 = .ok (.aload_n 2, 1) := by decide +kernel
theorem dL_law_526 : decode cL_law 526 = .ok (.aload_n 0, 1) := by decide +kernel
theorem dL_law_527 : decode cL_law 527 = .ok (.iload_n 3, 1) := by decide +kernel
theorem dL_law_528 : decode cL_law 528 = .ok (.iconst 1, 1) := by decide +kernel
theorem dL_law_529 : decode cL_law 529 = .ok (.iadd, 1) := by decide +kernel
theorem dL_law_530 : decode cL_law 530 = .ok (.iaload, 1) := by decide +kernel
theorem dL_law_531 : decode cL_law 531 = .ok (.invokevirtual 70, 3) := by decide +kernel
theorem dL_law_534 : decode cL_law 534 = .ok (.pop, 1) := by decide +kernel
theorem dL_law_535 : decode cL_law 535 = .ok (.goto 643, 3) := by decide +kernel
theorem dL_law_538 : decode cL_law 538 = .ok (.aload_n 1, 1) := by decide +kernel
theorem dL_law_539 : decode cL_law 539 = .ok (.aload_n 0, 1) := by decide +kernel
theorem dL_law_540 : decode cL_law 540 = .ok (.iload_n 3, 1) := by decide +kernel
theorem dL_law_541 : decode cL_law 541 = .ok (.iconst 1, 1) := by decide +kernel
theorem dL_law_542 : decode cL_law 542 = .ok (.iadd, 1) := by decide +kernel
theorem dL_law_543 : decode cL_law 543 = .ok (.iaload, 1) := by decide +kernel
theorem dL_law_544 : decode cL_law 544 = .ok (.aload_n 0, 1) := by decide +kernel
theorem dL_law_545 : decode cL_law 545 = .ok (.iload_n 3, 1) := by decide +kernel
theorem dL_law_546 : decode cL_law 546 = .ok (.iconst 2, 1) := by decide +kernel
theorem dL_law_547 : decode cL_law 547 = .ok (.iadd, 1) := by decide +kernel
theorem dL_law_548 : decode cL_law 548 = .ok (.iaload, 1) := by decide +kernel
theorem dL_law_549 : decode cL_law 549 = .ok (.aload_n 0, 1) := by decide +kernel
theorem dL_law_550 : decode cL_law 550 = .ok (.iload_n 3, 1) := by decide +kernel
theorem dL_law_551 : decode cL_law 551 = .ok (.iconst 3, 1) := by decide +kernel
theorem dL_law_552 : decode cL_law 552 = .ok (.iadd, 1) := by decide +kernel
theorem dL_law_553 : decode cL_law 553 = .ok (.iaload, 1) := by decide +kernel
theorem dL_law_554 : decode cL_law 554 = .ok (.invokevirtual 71, 3) := by decide +kernel
theorem dL_law_557 : decode cL_law 557 = .ok (.pop, 1) := by decide +kernel
theorem dL_law_558 : decode cL_law 558 = .ok (.aload_n 2, 1) := by decide +kernel
theorem dL_law_559 : decode cL_law 559 = .ok (.aload_n 0, 1) := by decide +kernel
theorem dL_law_560 : decode cL_law 560 = .ok (.iload_n 3, 1) := by decide +kernel
theorem dL_law_561 : decode cL_law 561 = .ok (.iconst 1, 1) := by decide +kernel
theorem dL_law_562 : decode cL_law 562 = .ok (.iadd, 1) := by decide +kernel
theorem dL_law_563 : decode cL_law 563 = .ok (.iaload, 1) := by decide +kernel
theorem dL_law_564 : decode cL_law 564 = .ok (.aload_n 0, 1) := by decide +kernel
theorem dL_law_565 : decode cL_law 565 = .ok (.iload_n 3, 1) := by decide +kernel
theorem dL_law_566 : decode cL_law 566 = .ok (.iconst 2, 1) := by decide +kernel
theorem dL_law_567 : decode cL_law 567 = .ok (.iadd, 1) := by decide +kernel
theorem dL_law_568 : decode cL_law 568 = .ok (.iaload, 1) := by decide +kernel
theorem dL_law_569 : decode cL_law 569 = .ok (.aload_n 0, 1) := by decide +kernel
theorem dL_law_570 : decode cL_law 570 = .ok (.iload_n 3, 1) := by decide +kernel
theorem dL_law_571 : decode cL_law 571 = .ok (.iconst 3, 1) := by decide +kernel
theorem dL_law_572 : decode cL_law 572 = .ok (.iadd, 1) := by decide +kernel
theorem dL_law_573 : decode cL_law 573 = .ok (.iaload, 1) := by decide +kernel
theorem dL_law_574 : decode cL_law 574 = .ok (.invokevirtual 75, 3) := by decide +kernel
theorem dL_law_577 : decode cL_law 577 = .ok (.pop, 1) := by decide +kernel
theorem dL_law_578 : decode cL_law 578 = .ok (.goto 600, 3) := by decide +kernel
theorem dL_law_581 : decode cL_law 581 = .ok (.aload_n 1, 1) := by decide +kernel
theorem dL_law_582 : decode cL_law 582 = .ok (.aload_n 0, 1) := by decide +kernel
theorem dL_law_583 : decode cL_law 583 = .ok (.iload_n 3, 1) := by decide +kernel
theorem dL_law_584 : decode cL_law 584 = .ok (.iconst 1, 1) := by decide +kernel
theorem dL_law_585 : decode cL_law 585 = .ok (.iadd, 1) := by decide +kernel
theorem dL_law_586 : decode cL_law 586 = .ok (.iaload, 1) := by decide +kernel
theorem dL_law_587 : decode cL_law 587 = .ok (.aload_n 0, 1) := by decide +kernel
theorem dL_law_588 : decode cL_law 588 = .ok (.iload_n 3, 1) := by decide +kernel
theorem dL_law_589 : decode cL_law 589 = .ok (.iconst 2, 1) := by decide +kernel
theorem dL_law_590 : decode cL_law 590 = .ok (.iadd, 1) := by decide +kernel
theorem dL_law_591 : decode cL_law 591 = .ok (.iaload, 1) := by decide +kernel
theorem dL_law_592 : decode cL_law 592 = .ok (.i2l, 1) := by decide +kernel
theorem dL_law_593 : decode cL_law 593 = .ok (.bipush 32, 2) := by decide +kernel
theorem dL_law_595 : decode cL_law 595 = .ok (.lshl, 1) := by decide +kernel
theorem dL_law_596 : decode cL_law 596 = .ok (.aload_n 0, 1) := by decide +kernel
theorem dL_law_597 : decode cL_law 597 = .ok (.iload_n 3, 1) := by decide +kernel
theorem dL_law_598 : decode cL_law 598 = .ok (.iconst 3, 1) := by decide +kernel
theorem dL_law_599 : decode cL_law 599 = .ok (.iadd, 1) := by decide +kernel
theorem dL_law_600 : decode cL_law 600 = .ok (.iaload, 1) := by decide +kernel
theorem dL_law_601 : decode cL_law 601 = .ok (.i2l, 1) := by decide +kernel
theorem dL_law_602 : decode cL_law 602 = .ok (.ldc2_w 60, 3) := by decide +kernel
theorem dL_law_605 : decode cL_law 605 = .ok (.land, 1) := by decide +kernel
theorem dL_law_606 : decode cL_law 606 = .ok (.lor, 1) := by decide +kernel
theorem dL_law_607 : decode cL_law 607 = .ok (.invokevirtual 76, 3) := by decide +kernel
theorem dL_law_610 : decode cL_law 610 = .ok (.pop, 1) := by decide +kernel
theorem dL_law_611 : decode cL_law 611 = .ok (.aload_n 2, 1) := by decide +kernel
theorem dL_law_612 : decode cL_law 612 = .ok (.aload_n 0, 1) := by decide +kernel
theorem dL_law_613 : decode cL_law 613 = .ok (.iload_n 3, 1) := by decide +kernel
theorem dL_law_614 : decode cL_law 614 = .ok (.iconst 1, 1) := by decide +kernel
theorem dL_law_615 : decode cL_law 615 = .ok (.iadd, 1) := by decide +kernel
theorem dL_law_616 : decode cL_law 616 = .ok (.iaload, 1) := by decide +kernel
theorem dL_law_617 : decode cL_law 617 = .ok (.aload_n 0, 1) := by decide +kernel
theorem dL_law_618 : decode cL_law 618 = .ok (.iload_n 3, 1) := by decide +kernel
theorem dL_law_619 : decode cL_law 619 = .ok (.iconst 2, 1) := by decide +kernel
theorem dL_law_620 : decode cL_law 620 = .ok (.iadd, 1) := by decide +kernel
theorem dL_law_621 : decode cL_law 621 = .ok (.iaload, 1) := by decide +kernel
theorem dL_law_622 : decode cL_law 622 = .ok (.i2l, 1) := by decide +kernel
theorem dL_law_623 : decode cL_law 623 = .ok (.bipush 32, 2) := by decide +kernel
theorem dL_law_625 : decode cL_law 625 = .ok (.lshl, 1) := by decide +kernel
theorem dL_law_626 : decode cL_law 626 = .ok (.aload_n 0, 1) := by decide +kernel
theorem dL_law_627 : decode cL_law 627 = .ok (.iload_n 3, 1) := by decide +kernel
theorem dL_law_628 : decode cL_law 628 = .ok (.iconst 3, 1) := by decide +kernel
theorem dL_law_629 : decode cL_law 629 = .ok (.iadd, 1) := by decide +kernel
theorem dL_law_630 : decode cL_law 630 = .ok (.iaload, 1) := by decide +kernel
theorem dL_law_631 : decode cL_law 631 = .ok (.i2l, 1) := by decide +kernel
theorem dL_law_632 : decode cL_law 632 = .ok (.ldc2_w 60, 3) := by decide +kernel
theorem dL_law_635 : decode cL_law 635 = .ok (.land, 1) := by decide +kernel
theorem dL_law_636 : decode cL_law 636 = .ok (.lor, 1) := by decide +kernel
theorem dL_law_637 : decode cL_law 637 = .ok (.invokevirtual 80, 3) := by decide +kernel
theorem dL_law_640 : decode cL_law 640 = .ok (.pop, 1) := by decide +kernel
theorem dL_law_641 : decode cL_law 641 = .ok (.goto 537, 3) := by decide +kernel
theorem dL_law_644 : decode cL_law 644 = .ok (.aload_n 1, 1) := by decide +kernel
theorem dL_law_645 : decode cL_law 645 = .ok (.invokevirtual 81, 3) := by decide +kernel
theorem dL_law_648 : decode cL_law 648 = .ok (.pop, 1) := by decide +kernel
theorem dL_law_649 : decode cL_law 649 = .ok (.aload_n 2, 1) := by decide +kernel
theorem dL_law_650 : decode cL_law 650 = .ok (.invokevirtual 84, 3) := by decide +kernel
theorem dL_law_653 : decode cL_law 653 = .ok (.pop, 1) := by decide +kernel
theorem dL_law_654 : decode cL_law 654 = .ok (.goto 524, 3) := by decide +kernel
theorem dL_law_657 : decode cL_law 657 = .ok (.aload_n 1, 1) := by decide +kernel
theorem dL_law_658 : decode cL_law 658 = .ok (.aload_n 0, 1) := by decide +kernel
theorem dL_law_659 : decode cL_law 659 = .ok (.iload_n 3, 1) := by decide +kernel
theorem dL_law_660 : decode cL_law 660 = .ok (.iconst 1, 1) := by decide +kernel
theorem dL_law_661 : decode cL_law 661 = .ok (.iadd, 1) := by decide +kernel
theorem dL_law_662 : decode cL_law 662 = .ok (.iaload, 1) := by decide +kernel
theorem dL_law_663 : decode cL_law 663 = .ok (.aload_n 0, 1) := by decide +kernel
theorem dL_law_664 : decode cL_law 664 = .ok (.iload_n 3, 1) := by decide +kernel
theorem dL_law_665 : decode cL_law 665 = .ok (.iconst 2, 1) := by decide +kernel
theorem dL_law_666 : decode cL_law 666 = .ok (.iadd, 1) := by decide +kernel
theorem dL_law_667 : decode cL_law 667 = .ok (.iaload, 1) := by decide +kernel
theorem dL_law_668 : decode cL_law 668 = .ok (.invokevirtual 85, 3) := by decide +kernel
theorem dL_law_671 : decode cL_law 671 = .ok (.pop, 1) := by decide +kernel
theorem dL_law_672 : decode cL_law 672 = .ok (.aload_n 2, 1) := by decide +kernel
theorem dL_law_673 : decode cL_law 673 = .ok (.aload_n 0, 1) := by decide +kernel
theorem dL_law_674 : decode cL_law 674 = .ok (.iload_n 3, 1) := by decide +kernel
theorem dL_law_675 : decode cL_law 675 = .ok (.iconst 1, 1) := by decide +kernel
theorem dL_law_676 : decode cL_law 676 = .ok (.iadd, 1) := by decide +kernel
theorem dL_law_677 : decode cL_law 677 = .ok (.iaload, 1) := by decide +kernel
theorem dL_law_678 : decode cL_law 678 = .ok (.aload_n 0, 1) := by decide +kernel
theorem dL_law_679 : decode cL_law 679 = .ok (.iload_n 3, 1) := by decide +kernel
theorem dL_law_680 : decode cL_law 680 = .ok (.iconst 2, 1) := by decide +kernel
theorem dL_law_681 : decode cL_law 681 = .ok (.iadd, 1) := by decide +kernel
theorem dL_law_682 : decode cL_law 682 = .ok (.iaload, 1) := by decide +kernel
theorem dL_law_683 : decode cL_law 683 = .ok (.invokevirtual 88, 3) := by decide +kernel
theorem dL_law_686 : decode cL_law 686 = .ok (.pop, 1) := by decide +kernel
theorem dL_law_687 : decode cL_law 687 = .ok (.goto 491, 3) := by decide +kernel
theorem dL_law_690 : decode cL_law 690 = .ok (.aload_n 1, 1) := by decide +kernel
theorem dL_law_691 : decode cL_law 691 = .ok (.aload_n 0, 1) := by decide +kernel
theorem dL_law_692 : decode cL_law 692 = .ok (.iload_n 3, 1) := by decide +kernel
theorem dL_law_693 : decode cL_law 693 = .ok (.iconst 1, 1) := by decide +kernel
theorem dL_law_694 : decode cL_law 694 = .ok (.iadd, 1) := by decide +kernel
theorem dL_law_695 : decode cL_law 695 = .ok (.iaload, 1) := by decide +kernel
theorem dL_law_696 : decode cL_law 696 = .ok (.aload_n 0, 1) := by decide +kernel
theorem dL_law_697 : decode cL_law 697 = .ok (.iload_n 3, 1) := by decide +kernel
theorem dL_law_698 : decode cL_law 698 = .ok (.iconst 2, 1) := by decide +kernel
theorem dL_law_699 : decode cL_law 699 = .ok (.iadd, 1) := by decide +kernel
theorem dL_law_700 : decode cL_law 700 = .ok (.iaload, 1) := by decide +kernel
theorem dL_law_701 : decode cL_law 701 = .ok (.invokevirtual 89, 3) := by decide +kernel
theorem dL_law_704 : decode cL_law 704 = .ok (.pop, 1) := by decide +kernel
theorem dL_law_705 : decode cL_law 705 = .ok (.aload_n 2, 1) := by decide +kernel
theorem dL_law_706 : decode cL_law 706 = .ok (.aload_n 0, 1) := by decide +kernel
theorem dL_law_707 : decode cL_law 707 = .ok (.iload_n 3, 1) := by decide +kernel
theorem dL_law_708 : decode cL_law 708 = .ok (.iconst 1, 1) := by decide +kernel
theorem dL_law_709 : decode cL_law 709 = .ok (.iadd, 1) := by decide +kernel
theorem dL_law_710 : decode cL_law 710 = .ok (.iaload, 1) := by decide +kernel
theorem dL_law_711 : decode cL_law 711 = .ok (.aload_n 0, 1) := by decide +kernel
theorem dL_law_712 : decode cL_law 712 = .ok (.iload_n 3, 1) := by decide +kernel
theorem dL_law_713 : decode cL_law 713 = .ok (.iconst 2, 1) := by decide +kernel
theorem dL_law_714 : decode cL_law 714 = .ok (.iadd, 1) := by decide +kernel
theorem dL_law_715 : decode cL_law 715 = .ok (.iaload, 1) := by decide +kernel
theorem dL_law_716 : decode cL_law 716 = .ok (.invokevirtual 92, 3) := by decide +kernel
theorem dL_law_719 : decode cL_law 719 = .ok (.pop, 1) := by decide +kernel
theorem dL_law_720 : decode cL_law 720 = .ok (.goto 458, 3) := by decide +kernel
theorem dL_law_723 : decode cL_law 723 = .ok (.aload_n 1, 1) := by decide +kernel
theorem dL_law_724 : decode cL_law 724 = .ok (.aload_n 0, 1) := by decide +kernel
theorem dL_law_725 : decode cL_law 725 = .ok (.iload_n 3, 1) := by decide +kernel
theorem dL_law_726 : decode cL_law 726 = .ok (.iconst 1, 1) := by decide +kernel
theorem dL_law_727 : decode cL_law 727 = .ok (.iadd, 1) := by decide +kernel
theorem dL_law_728 : decode cL_law 728 = .ok (.iaload, 1) := by decide +kernel
theorem dL_law_729 : decode cL_law 729 = .ok (.aload_n 0, 1) := by decide +kernel
theorem dL_law_730 : decode cL_law 730 = .ok (.iload_n 3, 1) := by decide +kernel
theorem dL_law_731 : decode cL_law 731 = .ok (.iconst 2, 1) := by decide +kernel
theorem dL_law_732 : decode cL_law 732 = .ok (.iadd, 1) := by decide +kernel
theorem dL_law_733 : decode cL_law 733 = .ok (.iaload, 1) := by decide +kernel
theorem dL_law_734 : decode cL_law 734 = .ok (.invokevirtual 93, 3) := by decide +kernel
theorem dL_law_737 : decode cL_law 737 = .ok (.pop, 1) := by decide +kernel
theorem dL_law_738 : decode cL_law 738 = .ok (.aload_n 2, 1) := by decide +kernel
theorem dL_law_739 : decode cL_law 739 = .ok (.aload_n 0, 1) := by decide +kernel
theorem dL_law_740 : decode cL_law 740 = .ok (.iload_n 3, 1) := by decide +kernel
theorem dL_law_741 : decode cL_law 741 = .ok (.iconst 1, 1) := by decide +kernel
theorem dL_law_742 : decode cL_law 742 = .ok (.iadd, 1) := by decide +kernel
theorem dL_law_743 : decode cL_law 743 = .ok (.iaload, 1) := by decide +kernel
theorem dL_law_744 : decode cL_law 744 = .ok (.aload_n 0, 1) := by decide +kernel
theorem dL_law_745 : decode cL_law 745 = .ok (.iload_n 3, 1) := by decide +kernel
theorem dL_law_746 : decode cL_law 746 = .ok (.iconst 2, 1) := by decide +kernel
theorem dL_law_747 : decode cL_law 747 = .ok (.iadd, 1) := by decide +kernel
theorem dL_law_748 : decode cL_law 748 = .ok (.iaload, 1) := by decide +kernel
theorem dL_law_749 : decode cL_law 749 = .ok (.invokevirtual 96, 3) := by decide +kernel
theorem dL_law_752 : decode cL_law 752 = .ok (.pop, 1) := by decide +kernel
theorem dL_law_753 : decode cL_law 753 = .ok (.goto 425, 3) := by decide +kernel
theorem dL_law_756 : decode cL_law 756 = .ok (.aload_n 1, 1) := by decide +kernel
theorem dL_law_757 : decode cL_law 757 = .ok (.aload_n 0, 1) := by decide +kernel
theorem dL_law_758 : decode cL_law 758 = .ok (.iload_n 3, 1) := by decide +kernel
theorem dL_law_759 : decode cL_law 759 = .ok (.iconst 1, 1) := by decide +kernel
theorem dL_law_760 : decode cL_law 760 = .ok (.iadd, 1) := by decide +kernel
theorem dL_law_761 : decode cL_law 761 = .ok (.iaload, 1) := by decide +kernel
theorem dL_law_762 : decode cL_law 762 = .ok (.aload_n 0, 1) := by decide +kernel
theorem dL_law_763 : decode cL_law 763 = .ok (.iload_n 3, 1) := by decide +kernel
theorem dL_law_764 : decode cL_law 764 = .ok (.iconst 2, 1) := by decide +kernel
theorem dL_law_765 : decode cL_law 765 = .ok (.iadd, 1) := by decide +kernel
theorem dL_law_766 : decode cL_law 766 = .ok (.iaload, 1) := by decide +kernel
theorem dL_law_767 : decode cL_law 767 = .ok (.invokevirtual 97, 3) := by decide +kernel
theorem dL_law_770 : decode cL_law 770 = .ok (.pop, 1) := by decide +kernel
theorem dL_law_771 : decode cL_law 771 = .ok (.aload_n 2, 1) := by decide +kernel
theorem dL_law_772 : decode cL_law 772 = .ok (.aload_n 0, 1) := by decide +kernel
theorem dL_law_773 : decode cL_law 773 = .ok (.iload_n 3, 1) := by decide +kernel
theorem dL_law_774 : decode cL_law 774 = .ok (.iconst 1, 1) := by decide +kernel
theorem dL_law_775 : decode cL_law 775 = .ok (.iadd, 1) := by decide +kernel
theorem dL_law_776 : decode cL_law 776 = .ok (.iaload, 1) := by decide +kernel
theorem dL_law_777 : decode cL_law 777 = .ok (.aload_n 0, 1) := by decide +kernel
theorem dL_law_778 : decode cL_law 778 = .ok (.iload_n 3, 1) := by decide +kernel
theorem dL_law_779 : decode cL_law 779 = .ok (.iconst 2, 1) := by decide +kernel
theorem dL_law_780 : decode cL_law 780 = .ok (.iadd, 1) := by decide +kernel
theorem dL_law_781 : decode cL_law 781 = .ok (.iaload, 1) := by decide +kernel
theorem dL_law_782 : decode cL_law 782 = .ok (.invokevirtual 100, 3) := by decide +kernel
theorem dL_law_785 : decode cL_law 785 = .ok (.pop, 1) := by decide +kernel
theorem dL_law_786 : decode cL_law 786 = .ok (.goto 392, 3) := by decide +kernel
theorem dL_law_789 : decode cL_law 789 = .ok (.aload_n 1, 1) := by decide +kernel
theorem dL_law_790 : decode cL_law 790 = .ok (.aload_n 0, 1) := by decide +kernel
theorem dL_law_791 : decode cL_law 791 = .ok (.iload_n 3, 1) := by decide +kernel
theorem dL_law_792 : decode cL_law 792 = .ok (.iconst 1, 1) := by decide +kernel
theorem dL_law_793 : decode cL_law 793 = .ok (.iadd, 1) := by decide +kernel
theorem dL_law_794 : decode cL_law 794 = .ok (.iaload, 1) := by decide +kernel
theorem dL_law_795 : decode cL_law 795 = .ok (.invokevirtual 101, 3) := by decide +kernel
theorem dL_law_798 : decode cL_law 798 = .ok (.pop, 1) := by decide +kernel
theorem dL_law_799 : decode cL_law 799 = .ok (.aload_n 2, 1) := by decide +kernel
theorem dL_law_800 : decode cL_law 800 = .ok (.aload_n 0, 1) := by decide +kernel
theorem dL_law_801 : decode cL_law 801 = .ok (.iload_n 3, 1) := by decide +kernel
theorem dL_law_802 : decode cL_law 802 = .ok (.iconst 1, 1) := by decide +kernel
theorem dL_law_803 : decode cL_law 803 = .ok (.iadd, 1) := by decide +kernel
theorem dL_law_804 : decode cL_law 804 = .ok (.iaload, 1) := by decide +kernel
theorem dL_law_805 : decode cL_law 805 = .ok (.invokevirtual 104, 3) := by decide +kernel
theorem dL_law_808 : decode cL_law 808 = .ok (.pop, 1) := by decide +kernel
theorem dL_law_809 : decode cL_law 809 = .ok (.goto 369, 3) := by decide +kernel
theorem dL_law_812 : decode cL_law 812 = .ok (.aload_n 1, 1) := by decide +kernel
theorem dL_law_813 : decode cL_law 813 = .ok (.aload_n 0, 1) := by decide +kernel
theorem dL_law_814 : decode cL_law 814 = .ok (.iload_n 3, 1) := by decide +kernel
theorem dL_law_815 : decode cL_law 815 = .ok (.iconst 1, 1) := by decide +kernel
theorem dL_law_816 : decode cL_law 816 = .ok (.iadd, 1) := by decide +kernel
theorem dL_law_817 : decode cL_law 817 = .ok (.iaload, 1) := by decide +kernel
theorem dL_law_818 : decode cL_law 818 = .ok (.aload_n 0, 1) := by decide +kernel
theorem dL_law_819 : decode cL_law 819 = .ok (.iload_n 3, 1) := by decide +kernel
theorem dL_law_820 : decode cL_law 820 = .ok (.iconst 2, 1) := by decide +kernel
theorem dL_law_821 : decode cL_law 821 = .ok (.iadd, 1) := by decide +kernel
theorem dL_law_822 : decode cL_law 822 = .ok (.iaload, 1) := by decide +kernel
theorem dL_law_823 : decode cL_law 823 = .ok (.aload_n 0, 1) := by decide +kernel
theorem dL_law_824 : decode cL_law 824 = .ok (.iload_n 3, 1) := by decide +kernel
theorem dL_law_825 : decode cL_law 825 = .ok (.iconst 3, 1) := by decide +kernel
theorem dL_law_826 : decode cL_law 826 = .ok (.iadd, 1) := by decide +kernel
theorem dL_law_827 : decode cL_law 827 = .ok (.iaload, 1) := by decide +kernel
theorem dL_law_828 : decode cL_law 828 = .ok (.invokevirtual 105, 3) := by decide +kernel
theorem dL_law_831 : decode cL_law 831 = .ok (.pop, 1) := by decide +kernel
theorem dL_law_832 : decode cL_law 832 = .ok (.aload_n 2, 1) := by decide +kernel
theorem dL_law_833 : decode cL_law 833 = .ok (.aload_n 0, 1) := by decide +kernel
theorem dL_law_834 : decode cL_law 834 = .ok (.iload_n 3, 1) := by decide +kernel
theorem dL_law_835 : decode cL_law 835 = .ok (.iconst 1, 1) := by decide +kernel
theorem dL_law_836 : decode cL_law 836 = .ok (.iadd, 1) := by decide +kernel
theorem dL_law_837 : decode cL_law 837 = .ok (.iaload, 1) := by decide +kernel
theorem dL_law_838 : decode cL_law 838 = .ok (.aload_n 0, 1) := by decide +kernel
theorem dL_law_839 : decode cL_law 839 = .ok (.iload_n 3, 1) := by decide +kernel
theorem dL_law_840 : decode cL_law 840 = .ok (.iconst 2, 1) := by decide +kernel
theorem dL_law_841 : decode cL_law 841 = .ok (.iadd, 1) := by decide +kernel
theorem dL_law_842 : decode cL_law 842 = .ok (.iaload, 1) := by decide +kernel
theorem dL_law_843 : decode cL_law 843 = .ok (.aload_n 0, 1) := by decide +kernel
theorem dL_law_844 : decode cL_law 844 = .ok (.iload_n 3, 1) := by decide +kernel
theorem dL_law_845 : decode cL_law 845 = .ok (.iconst 3, 1) := by decide +kernel
theorem dL_law_846 : decode cL_law 846 = .ok (.iadd, 1) := by decide +kernel
theorem dL_law_847 : decode cL_law 847 = .ok (.iaload, 1) := by decide +kernel
theorem dL_law_848 : decode cL_law 848 = .ok (.invokevirtual 108, 3) := by decide +kernel
theorem dL_law_851 : decode cL_law 851 = .ok (.pop, 1) := by decide +kernel
theorem dL_law_852 : decode cL_law 852 = .ok (.goto 326, 3) := by decide +kernel
theorem dL_law_855 : decode cL_law 855 = .ok (.aload_n 1, 1) := by decide +kernel
theorem dL_law_856 : decode cL_law 856 = .ok (.invokevirtual 109, 3) := by decide +kernel
theorem dL_law_859 : decode cL_law 859 = .ok (.pop, 1) := by decide +kernel
theorem dL_law_860 : decode cL_law 860 = .ok (.aload_n 2, 1) := by decide +kernel
theorem dL_law_861 : decode cL_law 861 = .ok (.invokevirtual 112, 3) := by decide +kernel
theorem dL_law_864 : decode cL_law 864 = .ok (.pop, 1) := by decide +kernel
theorem dL_law_865 : decode cL_law 865 = .ok (.goto 313, 3) := by decide +kernel
theorem dL_law_868 : decode cL_law 868 = .ok (.aload_n 1, 1) := by decide +kernel
theorem dL_law_869 : decode cL_law 869 = .ok (.aload_n 0, 1) := by decide +kernel
theorem dL_law_870 : decode cL_law 870 = .ok (.iload_n 3, 1) := by decide +kernel
theorem dL_law_871 : decode cL_law 871 = .ok (.iconst 1, 1) := by decide +kernel
theorem dL_law_872 : decode cL_law 872 = .ok (.iadd, 1) := by decide +kernel
theorem dL_law_873 : decode cL_law 873 = .ok (.iaload, 1) := by decide +kernel
theorem dL_law_874 : decode cL_law 874 = .ok (.aload_n 0, 1) := by decide +kernel
theorem dL_law_875 : decode cL_law 875 = .ok (.iload_n 3, 1) := by decide +kernel
theorem dL_law_876 : decode cL_law 876 = .ok (.iconst 2, 1) := by decide +kernel
theorem dL_law_877 : decode cL_law 877 = .ok (.iadd, 1) := by decide +kernel
theorem dL_law_878 : decode cL_law 878 = .ok (.iaload, 1) := by decide +kernel
theorem dL_law_879 : decode cL_law 879 = .ok (.invokevirtual 113, 3) := by decide +kernel
theorem dL_law_882 : decode cL_law 882 = .ok (.pop, 1) := by decide +kernel
theorem dL_law_883 : decode cL_law 883 = .ok (.aload_n 2, 1) := by decide +kernel
theorem dL_law_884 : decode cL_law 884 = .ok (.aload_n 0, 1) := by decide +kernel
theorem dL_law_885 : decode cL_law 885 = .ok (.iload_n 3, 1) := by decide +kernel
theorem dL_law_886 : decode cL_law 886 = .ok (.iconst 1, 1) := by decide +kernel
theorem dL_law_887 : decode cL_law 887 = .ok (.iadd, 1) := by decide +kernel
theorem dL_law_888 : decode cL_law 888 = .ok (.iaload, 1) := by decide +kernel
theorem dL_law_889 : decode cL_law 889 = .ok (.aload_n 0, 1) := by decide +kernel
theorem dL_law_890 : decode cL_law 890 = .ok (.iload_n 3, 1) := by decide +kernel
theorem dL_law_891 : decode cL_law 891 = .ok (.iconst 2, 1) := by decide +kernel
theorem dL_law_892 : decode cL_law 892 = .ok (.iadd, 1) := by decide +kernel
theorem dL_law_893 : decode cL_law 893 = .ok (.iaload, 1) := by decide +kernel
theorem dL_law_894 : decode cL_law 894 = .ok (.invokevirtual 116, 3) := by decide +kernel
theorem dL_law_897 : decode cL_law 897 = .ok (.pop, 1) := by decide +kernel
theorem dL_law_898 : decode cL_law 898 = .ok (.goto 280, 3) := by decide +kernel
theorem dL_law_901 : decode cL_law 901 = .ok (.aload_n 1, 1) := by decide +kernel
theorem dL_law_902 : decode cL_law 902 = .ok (.aload_n 0, 1) := by decide +kernel
theorem dL_law_903 : decode cL_law 903 = .ok (.iload_n 3, 1) := by decide +kernel
theorem dL_law_904 : decode cL_law 904 = .ok (.iconst 1, 1) := by decide +kernel
theorem dL_law_905 : decode cL_law 905 = .ok (.iadd, 1) := by decide +kernel
theorem dL_law_906 : decode cL_law 906 = .ok (.iaload, 1) := by decide +kernel
theorem dL_law_907 : decode cL_law 907 = .ok (.aload_n 0, 1) := by decide +kernel
theorem dL_law_908 : decode cL_law 908 = .ok (.iload_n 3, 1) := by decide +kernel
theorem dL_law_909 : decode cL_law 909 = .ok (.iconst 2, 1) := by decide +kernel
theorem dL_law_910 : decode cL_law 910 = .ok (.iadd, 1) := by decide +kernel
theorem dL_law_911 : decode cL_law 911 = .ok (.iaload, 1) := by decide +kernel
theorem dL_law_912 : decode cL_law 912 = .ok (.aload_n 0, 1) := by decide +kernel
theorem dL_law_913 : decode cL_law 913 = .ok (.iload_n 3, 1) := by decide +kernel
theorem dL_law_914 : decode cL_law 914 = .ok (.iconst 3, 1) := by decide +kernel
theorem dL_law_915 : decode cL_law 915 = .ok (.iadd, 1) := by decide +kernel
theorem dL_law_916 : decode cL_law 916 = .ok (.iaload, 1) := by decide +kernel
theorem dL_law_917 : decode cL_law 917 = .ok (.invokevirtual 117, 3) := by decide +kernel
theorem dL_law_920 : decode cL_law 920 = .ok (.pop, 1) := by decide +kernel
theorem dL_law_921 : decode cL_law 921 = .ok (.aload_n 2, 1) := by decide +kernel
theorem dL_law_922 : decode cL_law 922 = .ok (.aload_n 0, 1) := by decide +kernel
theorem dL_law_923 : decode cL_law 923 = .ok (.iload_n 3, 1) := by decide +kernel
theorem dL_law_924 : decode cL_law 924 = .ok (.iconst 1, 1) := by decide +kernel
theorem dL_law_925 : decode cL_law 925 = .ok (.iadd, 1) := by decide +kernel
theorem dL_law_926 : decode cL_law 926 = .ok (.iaload, 1) := by decide +kernel
theorem dL_law_927 : decode cL_law 927 = .ok (.aload_n 0, 1) := by decide +kernel
theorem dL_law_928 : decode cL_law 928 = .ok (.iload_n 3, 1) := by decide +kernel
theorem dL_law_929 : decode cL_law 929 = .ok (.iconst 2, 1) := by decide +kernel
theorem dL_law_930 : decode cL_law 930 = .ok (.iadd, 1) := by decide +kernel
theorem dL_law_931 : decode cL_law 931 = .ok (.iaload, 1) := by decide +kernel
theorem dL_law_932 : decode cL_law 932 = .ok (.aload_n 0, 1) := by decide +kernel
theorem dL_law_933 : decode cL_law 933 = .ok (.iload_n 3, 1) := by decide +kernel
theorem dL_law_934 : decode cL_law 934 = .ok (.iconst 3, 1) := by decide +kernel
theorem dL_law_935 : decode cL_law 935 = .ok (.iadd, 1) := by decide +kernel
theorem dL_law_936 : decode cL_law 936 = .ok (.iaload, 1) := by decide +kernel
theorem dL_law_937 : decode cL_law 937 = .ok (.invokevirtual 121, 3) := by decide +kernel
theorem dL_law_940 : decode cL_law 940 = .ok (.pop, 1) := by decide +kernel
theorem dL_law_941 : decode cL_law 941 = .ok (.goto 237, 3) := by decide +kernel
theorem dL_law_944 : decode cL_law 944 = .ok (.aload_n 1, 1) := by decide +kernel
theorem dL_law_945 : decode cL_law 945 = .ok (.aload_n 0, 1) := by decide +kernel
theorem dL_law_946 : decode cL_law 946 = .ok (.iload_n 3, 1) := by decide +kernel
theorem dL_law_947 : decode cL_law 947 = .ok (.iconst 1, 1) := by decide +kernel
theorem dL_law_948 : decode cL_law 948 = .ok (.iadd, 1) := by decide +kernel
theorem dL_law_949 : decode cL_law 949 = .ok (.iaload, 1) := by decide +kernel
theorem dL_law_950 : decode cL_law 950 = .ok (.aload_n 0, 1) := by decide +kernel
theorem dL_law_951 : decode cL_law 951 = .ok (.iload_n 3, 1) := by decide +kernel
theorem dL_law_952 : decode cL_law 952 = .ok (.iconst 2, 1) := by decide +kernel
theorem dL_law_953 : decode cL_law 953 = .ok (.iadd, 1) := by decide +kernel
theorem dL_law_954 : decode cL_law 954 = .ok (.iaload, 1) := by decide +kernel
theorem dL_law_955 : decode cL_law 955 = .ok (.invokevirtual 122, 3) := by decide +kernel
theorem dL_law_958 : decode cL_law 958 = .ok (.pop2, 1) := by decide +kernel
theorem dL_law_959 : decode cL_law 959 = .ok (.aload_n 2, 1) := by decide +kernel
theorem dL_law_960 : decode cL_law 960 = .ok (.aload_n 0, 1) := by decide +kernel
theorem dL_law_961 : decode cL_law 961 = .ok (.iload_n 3, 1) := by decide +kernel
theorem dL_law_962 : decode cL_law 962 = .ok (.iconst 1, 1) := by decide +kernel
theorem dL_law_963 : decode cL_law 963 = .ok (.iadd, 1) := by decide +kernel
theorem dL_law_964 : decode cL_law 964 = .ok (.iaload, 1) := by decide +kernel
theorem dL_law_965 : decode cL_law 965 = .ok (.aload_n 0, 1) := by decide +kernel
theorem dL_law_966 : decode cL_law 966 = .ok (.iload_n 3, 1) := by decide +kernel
theorem dL_law_967 : decode cL_law 967 = .ok (.iconst 2, 1) := by decide +kernel
theorem dL_law_968 : decode cL_law 968 = .ok (.iadd, 1) := by decide +kernel
theorem dL_law_969 : decode cL_law 969 = .ok (.iaload, 1) := by decide +kernel
theorem dL_law_970 : decode cL_law 970 = .ok (.invokevirtual 126, 3) := by decide +kernel
theorem dL_law_973 : decode cL_law 973 = .ok (.pop2, 1) := by decide +kernel
theorem dL_law_974 : decode cL_law 974 = .ok (.goto 204, 3) := by decide +kernel
theorem dL_law_977 : decode cL_law 977 = .ok (.aload_n 1, 1) := by decide +kernel
theorem dL_law_978 : decode cL_law 978 = .ok (.aload_n 0, 1) := by decide +kernel
theorem dL_law_979 : decode cL_law 979 = .ok (.iload_n 3, 1) := by decide +kernel
theorem dL_law_980 : decode cL_law 980 = .ok (.iconst 1, 1) := by decide +kernel
theorem dL_law_981 : decode cL_law 981 = .ok (.iadd, 1) := by decide +kernel
theorem dL_law_982 : decode cL_law 982 = .ok (.iaload, 1) := by decide +kernel
theorem dL_law_983 : decode cL_law 983 = .ok (.invokevirtual 127, 3) := by decide +kernel
theorem dL_law_986 : decode cL_law 986 = .ok (.pop, 1) := by decide +kernel
theorem dL_law_987 : decode cL_law 987 = .ok (.aload_n 2, 1) := by decide +kernel
theorem dL_law_988 : decode cL_law 988 = .ok (.aload_n 0, 1) := by decide +kernel
theorem dL_law_989 : decode cL_law 989 = .ok (.iload_n 3, 1) := by decide +kernel
theorem dL_law_990 : decode cL_law 990 = .ok (.iconst 1, 1) := by decide +kernel
theorem dL_law_991 : decode cL_law 991 = .ok (.iadd, 1) := by decide +kernel
theorem dL_law_992 : decode cL_law 992 = .ok (.iaload, 1) := by decide +kernel
theorem dL_law_993 : decode cL_law 993 = .ok (.invokevirtual 130, 3) := by decide +kernel
theorem dL_law_996 : decode cL_law 996 = .ok (.pop, 1) := by decide +kernel
theorem dL_law_997 : decode cL_law 997 = .ok (.goto 181, 3) := by decide +kernel
theorem dL_law_1000 : decode cL_law 1000 = .ok (.aload_n 1, 1) := by decide +kernel
theorem dL_law_1001 : decode cL_law 1001 = .ok (.aload_n 0, 1) := by decide +kernel
theorem dL_law_1002 : decode cL_law 1002 = .ok (.iload_n 3, 1) := by decide +kernel
theorem dL_law_1003 : decode cL_law 1003 = .ok (.iconst 1, 1) := by decide +kernel
theorem dL_law_1004 : decode cL_law 1004 = .ok (.iadd, 1) := by decide +kernel
theorem dL_law_1005 : decode cL_law 1005 = .ok (.iaload, 1) := by decide +kernel
theorem dL_law_1006 : decode cL_law 1006 = .ok (.invokevirtual 131, 3) := by decide +kernel
theorem dL_law_1009 : decode cL_law 1009 = .ok (.pop, 1) := by decide +kernel
theorem dL_law_1010 : decode cL_law 1010 = .ok (.aload_n 2, 1) := by decide +kernel
theorem dL_law_1011 : decode cL_law 1011 = .ok (.aload_n 0, 1) := by decide +kernel
theorem dL_law_1012 : decode cL_law 1012 = .ok (.iload_n 3, 1) := by decide +kernel
theorem dL_law_1013 : decode cL_law 1013 = .ok (.iconst 1, 1) := by decide +kernel
theorem dL_law_1014 : decode cL_law 1014 = .ok (.iadd, 1) := by decide +kernel
theorem dL_law_1015 : decode cL_law 1015 = .ok (.iaload, 1) := by decide +kernel
theorem dL_law_1016 : decode cL_law 1016 = .ok (.invokevirtual 134, 3) := by decide +kernel
theorem dL_law_1019 : decode cL_law 1019 = .ok (.pop, 1) := by decide +kernel
theorem dL_law_1020 : decode cL_law 1020 = .ok (.goto 158, 3) := by decide +kernel
theorem dL_law_1023 : decode cL_law 1023 = .ok (.aload_n 1, 1) := by decide +kernel
theorem dL_law_1024 : decode cL_law 1024 = .ok (.aload_n 0, 1) := by decide +kernel
theorem dL_law_1025 : decode cL_law 1025 = .ok (.iload_n 3, 1) := by decide +kernel
theorem dL_law_1026 : decode cL_law 1026 = .ok (.iconst 1, 1) := by decide +kernel
theorem dL_law_1027 : decode cL_law 1027 = .ok (.iadd, 1) := by decide +kernel
theorem dL_law_1028 : decode cL_law 1028 = .ok (.iaload, 1) := by decide +kernel
theorem dL_law_1029 : decode cL_law 1029 = .ok (.aload_n 0, 1) := by decide +kernel
theorem dL_law_1030 : decode cL_law 1030 = .ok (.iload_n 3, 1) := by decide +kernel
theorem dL_law_1031 : decode cL_law 1031 = .ok (.iconst 2, 1) := by decide +kernel
theorem dL_law_1032 : decode cL_law 1032 = .ok (.iadd, 1) := by decide +kernel
theorem dL_law_1033 : decode cL_law 1033 = .ok (.iaload, 1) := by decide +kernel
theorem dL_law_1034 : decode cL_law 1034 = .ok (.invokevirtual 135, 3) := by decide +kernel
theorem dL_law_1037 : decode cL_law 1037 = .ok (.pop, 1) := by decide +kernel
theorem dL_law_1038 : decode cL_law 1038 = .ok (.aload_n 2, 1) := by decide +kernel
theorem dL_law_1039 : decode cL_law 1039 = .ok (.aload_n 0, 1) := by decide +kernel
theorem dL_law_1040 : decode cL_law 1040 = .ok (.iload_n 3, 1) := by decide +kernel
theorem dL_law_1041 : decode cL_law 1041 = .ok (.iconst 1, 1) := by decide +kernel
theorem dL_law_1042 : decode cL_law 1042 = .ok (.iadd, 1) := by decide +kernel
theorem dL_law_1043 : decode cL_law 1043 = .ok (.iaload, 1) := by decide +kernel
theorem dL_law_1044 : decode cL_law 1044 = .ok (.aload_n 0, 1) := by decide +kernel
theorem dL_law_1045 : decode cL_law 1045 = .ok (.iload_n 3, 1) := by decide +kernel
theorem dL_law_1046 : decode cL_law 1046 = .ok (.iconst 2, 1) := by decide +kernel
theorem dL_law_1047 : decode cL_law 1047 = .ok (.iadd, 1) := by decide +kernel
theorem dL_law_1048 : decode cL_law 1048 = .ok (.iaload, 1) := by decide +kernel
theorem dL_law_1049 : decode cL_law 1049 = .ok (.invokevirtual 139, 3) := by decide +kernel
theorem dL_law_1052 : decode cL_law 1052 = .ok (.pop, 1) := by decide +kernel
theorem dL_law_1053 : decode cL_law 1053 = .ok (.goto 125, 3) := by decide +kernel
theorem dL_law_1056 : decode cL_law 1056 = .ok (.aload_n 1, 1) := by decide +kernel
theorem dL_law_1057 : decode cL_law 1057 = .ok (.aload_n 0, 1) := by decide +kernel
theorem dL_law_1058 : decode cL_law 1058 = .ok (.iload_n 3, 1) := by decide +kernel
theorem dL_law_1059 : decode cL_law 1059 = .ok (.iconst 1, 1) := by decide +kernel
theorem dL_law_1060 : decode cL_law 1060 = .ok (.iadd, 1) := by decide +kernel
theorem dL_law_1061 : decode cL_law 1061 = .ok (.iaload, 1) := by decide +kernel
theorem dL_law_1062 : decode cL_law 1062 = .ok (.aload_n 0, 1) := by decide +kernel
theorem dL_law_1063 : decode cL_law 1063 = .ok (.iload_n 3, 1) := by decide +kernel
theorem dL_law_1064 : decode cL_law 1064 = .ok (.iconst 2, 1) := by decide +kernel
theorem dL_law_1065 : decode cL_law 1065 = .ok (.iadd, 1) := by decide +kernel
theorem dL_law_1066 : decode cL_law 1066 = .ok (.iaload, 1) := by decide +kernel
theorem dL_law_1067 : decode cL_law 1067 = .ok (.invokevirtual 140, 3) := by decide +kernel
theorem dL_law_1070 : decode cL_law 1070 = .ok (.pop, 1) := by decide +kernel
theorem dL_law_1071 : decode cL_law 1071 = .ok (.aload_n 2, 1) := by decide +kernel
theorem dL_law_1072 : decode cL_law 1072 = .ok (.aload_n 0, 1) := by decide +kernel
theorem dL_law_1073 : decode cL_law 1073 = .ok (.iload_n 3, 1) := by decide +kernel
theorem dL_law_1074 : decode cL_law 1074 = .ok (.iconst 1, 1) := by decide +kernel
theorem dL_law_1075 : decode cL_law 1075 = .ok (.iadd, 1) := by decide +kernel
theorem dL_law_1076 : decode cL_law 1076 = .ok (.iaload, 1) := by decide +kernel
theorem dL_law_1077 : decode cL_law 1077 = .ok (.aload_n 0, 1) := by decide +kernel
theorem dL_law_1078 : decode cL_law 1078 = .ok (.iload_n 3, 1) := by decide +kernel
theorem dL_law_1079 : decode cL_law 1079 = .ok (.iconst 2, 1) := by decide +kernel
theorem dL_law_1080 : decode cL_law 1080 = .ok (.iadd, 1) := by decide +kernel
theorem dL_law_1081 : decode cL_law 1081 = .ok (.iaload, 1) := by decide +kernel
theorem dL_law_1082 : decode cL_law 1082 = .ok (.invokevirtual 143, 3) := by decide +kernel
theorem dL_law_1085 : decode cL_law 1085 = .ok (.pop, 1) := by decide +kernel
theorem dL_law_1086 : decode cL_law 1086 = .ok (.goto 92, 3) := by decide +kernel
theorem dL_law_1089 : decode cL_law 1089 = .ok (.aload_n 1, 1) := by decide +kernel
theorem dL_law_1090 : decode cL_law 1090 = .ok (.aload_n 0, 1) := by decide +kernel
theorem dL_law_1091 : decode cL_law 1091 = .ok (.iload_n 3, 1) := by decide +kernel
theorem dL_law_1092 : decode cL_law 1092 = .ok (.iconst 1, 1) := by decide +kernel
theorem dL_law_1093 : decode cL_law 1093 = .ok (.iadd, 1) := by decide +kernel
theorem dL_law_1094 : decode cL_law 1094 = .ok (.iaload, 1) := by decide +kernel
theorem dL_law_1095 : decode cL_law 1095 = .ok (.aload_n 0, 1) := by decide +kernel
theorem dL_law_1096 : decode cL_law 1096 = .ok (.iload_n 3, 1) := by decide +kernel
theorem dL_law_1097 : decode cL_law 1097 = .ok (.iconst 2, 1) := by decide +kernel
theorem dL_law_1098 : decode cL_law 1098 = .ok (.iadd, 1) := by decide +kernel
theorem dL_law_1099 : decode cL_law 1099 = .ok (.iaload, 1) := by decide +kernel
theorem dL_law_1100 : decode cL_law 1100 = .ok (.invokevirtual 144, 3) := by decide +kernel
theorem dL_law_1103 : decode cL_law 1103 = .ok (.pop, 1) := by decide +kernel
theorem dL_law_1104 : decode cL_law 1104 = .ok (.aload_n 2, 1) := by decide +kernel
theorem dL_law_1105 : decode cL_law 1105 = .ok (.aload_n 0, 1) := by decide +kernel
theorem dL_law_1106 : decode cL_law 1106 = .ok (.iload_n 3, 1) := by decide +kernel
theorem dL_law_1107 : decode cL_law 1107 = .ok (.iconst 1, 1) := by decide +kernel
theorem dL_law_1108 : decode cL_law 1108 = .ok (.iadd, 1) := by decide +kernel
theorem dL_law_1109 : decode cL_law 1109 = .ok (.iaload, 1) := by decide +kernel
theorem dL_law_1110 : decode cL_law 1110 = .ok (.aload_n 0, 1) := by decide +kernel
theorem dL_law_1111 : decode cL_law 1111 = .ok (.iload_n 3, 1) := by decide +kernel
theorem dL_law_1112 : decode cL_law 1112 = .ok (.iconst 2, 1) := by decide +kernel
theorem dL_law_1113 : decode cL_law 1113 = .ok (.iadd, 1) := by decide +kernel
theorem dL_law_1114 : decode cL_law 1114 = .ok (.iaload, 1) := by decide +kernel
theorem dL_law_1115 : decode cL_law 1115 = .ok (.invokevirtual 147, 3) := by decide +kernel
theorem dL_law_1118 : decode cL_law 1118 = .ok (.pop, 1) := by decide +kernel
theorem dL_law_1119 : decode cL_law 1119 = .ok (.goto 59, 3) := by decide +kernel
theorem dL_law_1122 : decode cL_law 1122 = .ok (.aload_n 1, 1) := by decide +kernel
theorem dL_law_1123 : decode cL_law 1123 = .ok (.aload_n 0, 1) := by decide +kernel
theorem dL_law_1124 : decode cL_law 1124 = .ok (.iload_n 3, 1) := by decide +kernel
theorem dL_law_1125 : decode cL_law 1125 = .ok (.iconst 1, 1) := by decide +kernel
theorem dL_law_1126 : decode cL_law 1126 = .ok (.iadd, 1) := by decide +kernel
theorem dL_law_1127 : decode cL_law 1127 = .ok (.iaload, 1) := by decide +kernel
theorem dL_law_1128 : decode cL_law 1128 = .ok (.aload_n 0, 1) := by decide +kernel
theorem dL_law_1129 : decode cL_law 1129 = .ok (.iload_n 3, 1) := by decide +kernel
theorem dL_law_1130 : decode cL_law 1130 = .ok (.iconst 2, 1) := by decide +kernel
theorem dL_law_1131 : decode cL_law 1131 = .ok (.iadd, 1) := by decide +kernel
theorem dL_law_1132 : decode cL_law 1132 = .ok (.iaload, 1) := by decide +kernel
theorem dL_law_1133 : decode cL_law 1133 = .ok (.invokevirtual 148, 3) := by decide +kernel
theorem dL_law_1136 : decode cL_law 1136 = .ok (.pop, 1) := by decide +kernel
theorem dL_law_1137 : decode cL_law 1137 = .ok (.aload_n 2, 1) := by decide +kernel
theorem dL_law_1138 : decode cL_law 1138 = .ok (.aload_n 0, 1) := by decide +kernel
theorem dL_law_1139 : decode cL_law 1139 = .ok (.iload_n 3, 1) := by decide +kernel
theorem dL_law_1140 : decode cL_law 1140 = .ok (.iconst 1, 1) := by decide +kernel
theorem dL_law_1141 : decode cL_law 1141 = .ok (.iadd, 1) := by decide +kernel
theorem dL_law_1142 : decode cL_law 1142 = .ok (.iaload, 1) := by decide +kernel
theorem dL_law_1143 : decode cL_law 1143 = .ok (.aload_n 0, 1) := by decide +kernel
theorem dL_law_1144 : decode cL_law 1144 = .ok (.iload_n 3, 1) := by decide +kernel
theorem dL_law_1145 : decode cL_law 1145 = .ok (.iconst 2, 1) := by decide +kernel
theorem dL_law_1146 : decode cL_law 1146 = .ok (.iadd, 1) := by decide +kernel
theorem dL_law_1147 : decode cL_law 1147 = .ok (.iaload, 1) := by decide +kernel
theorem dL_law_1148 : decode cL_law 1148 = .ok (.invokevirtual 151, 3) := by decide +kernel
theorem dL_law_1151 : decode cL_law 1151 = .ok (.pop, 1) := by decide +kernel
theorem dL_law_1152 : decode cL_law 1152 = .ok (.goto 26, 3) := by decide +kernel
theorem dL_law_1155 : decode cL_law 1155 = .ok (.aload_n 1, 1) := by decide +kernel
theorem dL_law_1156 : decode cL_law 1156 = .ok (.aload_n 0, 1) := by decide +kernel
theorem dL_law_1157 : decode cL_law 1157 = .ok (.iload_n 3, 1) := by decide +kernel
theorem dL_law_1158 : decode cL_law 1158 = .ok (.iconst 1, 1) := by decide +kernel
theorem dL_law_1159 : decode cL_law 1159 = .ok (.iadd, 1) := by decide +kernel
theorem dL_law_1160 : decode cL_law 1160 = .ok (.iaload, 1) := by decide +kernel
theorem dL_law_1161 : decode cL_law 1161 = .ok (.invokevirtual 152, 3) := by decide +kernel
theorem dL_law_1164 : decode cL_law 1164 = .ok (.pop, 1) := by decide +kernel
theorem dL_law_1165 : decode cL_law 1165 = .ok (.aload_n 2, 1) := by decide +kernel
theorem dL_law_1166 : decode cL_law 1166 = .ok (.aload_n 0, 1) := by decide +kernel
theorem dL_law_1167 : decode cL_law 1167 = .ok (.iload_n 3, 1) := by decide +kernel
theorem dL_law_1168 : decode cL_law 1168 = .ok (.iconst 1, 1) := by decide +kernel
theorem dL_law_1169 : decode cL_law 1169 = .ok (.iadd, 1) := by decide +kernel
theorem dL_law_1170 : decode cL_law 1170 = .ok (.iaload, 1) := by decide +kernel
theorem dL_law_1171 : decode cL_law 1171 = .ok (.invokevirtual 155, 3) := by decide +kernel
theorem dL_law_1174 : decode cL_law 1174 = .ok (.pop, 1) := by decide +kernel
theorem dL_law_1175 : decode cL_law 1175 = .ok (.goto 3, 3) := by decide +kernel
theorem dL_law_1178 : decode cL_law 1178 = .ok (.iinc 3 6, 3) := by decide +kernel
theorem dL_law_1181 : decode cL_law 1181 = .ok (.goto (-1163), 3) := by decide +kernel
theorem dL_law_1184 : decode cL_law 1184 = .ok (.iconst 1, 1) := by decide +kernel
theorem dL_law_1185 : decode cL_law 1185 = .ok (.ireturn, 1) := by decide +kernel
theorem dX0_arrange_0 : decode cX0_arrange 0 = .ok (.aload_n 0, 1) := by decide +kernel
theorem dX0_arrange_1 : decode cX0_arrange 1 = .ok (.getfield 18, 3) := by decide +kernel
theorem dX0_arrange_4 : decode cX0_arrange 4 = .ok (.aload_n 0, 1) := by decide +kernel
theorem dX0_arrange_5 : decode cX0_arrange 5 = .ok (.getfield 12, 3) := by decide +kernel
theorem dX0_arrange_8 : decode cX0_arrange 8 = .ok (.invokevirtual 57, 3) := by decide +kernel
theorem dX0_arrange_11 : decode cX0_arrange 11 = .ok (.aload_n 0, 1) := by decide +kernel
theorem dX0_arrange_12 : decode cX0_arrange 12 = .ok (.getfield 12, 3) := by decide +kernel
theorem dX0_arrange_15 : decode cX0_arrange 15 = .ok (.aload_n 0, 1) := by decide +kernel
theorem dX0_arrange_16 : decode cX0_arrange 16 = .ok (.getfield 18, 3) := by decide +kernel
theorem dX0_arrange_19 : decode cX0_arrange 19 = .ok (.aload_n 1, 1) := by decide +kernel
theorem dX0_arrange_20 : decode cX0_arrange 20 = .ok (.invokevirtual 61, 3) := by decide +kernel
theorem dX0_arrange_23 : decode cX0_arrange 23 = .ok (.return_, 1) := by decide +kernel
theorem dX0_cut_0 : decode cX0_cut 0 = .ok (.aload_n 0, 1) := by decide +kernel
theorem dX0_cut_1 : decode cX0_cut 1 = .ok (.getfield 12, 3) := by decide +kernel
theorem dX0_cut_4 : decode cX0_cut 4 = .ok (.iload_n 1, 1) := by decide +kernel
theorem dX0_cut_5 : decode cX0_cut 5 = .ok (.invokevirtual 53, 3) := by decide +kernel
theorem dX0_cut_8 : decode cX0_cut 8 = .ok (.return_, 1) := by decide +kernel
theorem dX0_find_0 : decode cX0_find 0 = .ok (.aload_n 0, 1) := by decide +kernel
theorem dX0_find_1 : decode cX0_find 1 = .ok (.getfield 21, 3) := by decide +kernel
theorem dX0_find_4 : decode cX0_find 4 = .ok (.ifCond .eq 14, 3) := by decide +kernel
theorem dX0_find_7 : decode cX0_find 7 = .ok (.aload_n 0, 1) := by decide +kernel
theorem dX0_find_8 : decode cX0_find 8 = .ok (.getfield 12, 3) := by decide +kernel
theorem dX0_find_11 : decode cX0_find 11 = .ok (.iload_n 1, 1) := by decide +kernel
theorem dX0_find_12 : decode cX0_find 12 = .ok (.invokevirtual 25, 3) := by decide +kernel
theorem dX0_find_15 : decode cX0_find 15 = .ok (.goto 4, 3) := by decide +kernel
theorem dX0_find_18 : decode cX0_find 18 = .ok (.iconst (-1), 1) := by decide +kernel
theorem dX0_find_19 : decode cX0_find 19 = .ok (.ireturn, 1) := by decide +kernel
theorem dX0_hasPlace_0 : decode cX0_hasPlace 0 = .ok (.aload 4, 2) := by decide +kernel
theorem dX0_hasPlace_2 : decode cX0_hasPlace 2 = .ok (.aload_n 0, 1) := by decide +kernel
theorem dX0_hasPlace_3 : decode cX0_hasPlace 3 = .ok (.getfield 12, 3) := by decide +kernel
theorem dX0_hasPlace_6 : decode cX0_hasPlace 6 = .ok (.getfield 29, 3) := by decide +kernel
theorem dX0_hasPlace_9 : decode cX0_hasPlace 9 = .ok (.iload_n 1, 1) := by decide +kernel
theorem dX0_hasPlace_10 : decode cX0_hasPlace 10 = .ok (.iaload, 1) := by decide +kernel
theorem dX0_hasPlace_11 : decode cX0_hasPlace 11 = .ok (.invokevirtual 33, 3) := by decide +kernel
theorem dX0_hasPlace_14 : decode cX0_hasPlace 14 = .ok (.ifCond .eq 5, 3) := by decide +kernel
theorem dX0_hasPlace_17 : decode cX0_hasPlace 17 = .ok (.iconst 1, 1) := by decide +kernel
theorem dX0_hasPlace_18 : decode cX0_hasPlace 18 = .ok (.ireturn, 1) := by decide +kernel
theorem dX0_hasPlace_19 : decode cX0_hasPlace 19 = .ok (.aload_n 0, 1) := by decide +kernel
theorem dX0_hasPlace_20 : decode cX0_hasPlace 20 = .ok (.getfield 12, 3) := by decide +kernel
theorem dX0_hasPlace_23 : decode cX0_hasPlace 23 = .ok (.iload_n 1, 1) := by decide +kernel
theorem dX0_hasPlace_24 : decode cX0_hasPlace 24 = .ok (.invokevirtual 39, 3) := by decide +kernel
theorem dX0_hasPlace_27 : decode cX0_hasPlace 27 = .ok (.istore 5, 2) := by decide +kernel
theorem dX0_hasPlace_29 : decode cX0_hasPlace 29 = .ok (.iload_n 3, 1) := by decide +kernel
theorem dX0_hasPlace_30 : decode cX0_hasPlace 30 = .ok (.iconst (-1), 1) := by decide +kernel
theorem dX0_hasPlace_31 : decode cX0_hasPlace 31 = .ok (.if_icmp .eq 19, 3) := by decide +kernel
theorem dX0_hasPlace_34 : decode cX0_hasPlace 34 = .ok (.aload_n 0, 1) := by decide +kernel
theorem dX0_hasPlace_35 : decode cX0_hasPlace 35 = .ok (.getfield 12, 3) := by decide +kernel
theorem dX0_hasPlace_38 : decode cX0_hasPlace 38 = .ok (.getfield 42, 3) := by decide +kernel
theorem dX0_hasPlace_41 : decode cX0_hasPlace 41 = .ok (.iload_n 3, 1) := by decide +kernel
theorem dX0_hasPlace_42 : decode cX0_hasPlace 42 = .ok (.iaload, 1) := by decide +kernel
theorem dX0_hasPlace_43 : decode cX0_hasPlace 43 = .ok (.iload_n 1, 1) := by decide +kernel
theorem dX0_hasPlace_44 : decode cX0_hasPlace 44 = .ok (.if_icmp .ne 6, 3) := by decide +kernel
theorem dX0_hasPlace_47 : decode cX0_hasPlace 47 = .ok (.iinc 5 (-1), 3) := by decide +kernel
theorem dX0_hasPlace_50 : decode cX0_hasPlace 50 = .ok (.iload_n 2, 1) := by decide +kernel
theorem dX0_hasPlace_51 : decode cX0_hasPlace 51 = .ok (.ifCond .lt 13, 3) := by decide +kernel
theorem dX0_hasPlace_54 : decode cX0_hasPlace 54 = .ok (.iload_n 2, 1) := by decide +kernel
theorem dX0_hasPlace_55 : decode cX0_hasPlace 55 = .ok (.iload 5, 2) := by decide +kernel
theorem dX0_hasPlace_57 : decode cX0_hasPlace 57 = .ok (.if_icmp .gt 7, 3) := by decide +kernel
theorem dX0_hasPlace_60 : decode cX0_hasPlace 60 = .ok (.iconst 1, 1) := by decide +kernel
theorem dX0_hasPlace_61 : decode cX0_hasPlace 61 = .ok (.goto 4, 3) := by decide +kernel
theorem dX0_hasPlace_64 : decode cX0_hasPlace 64 = .ok (.iconst 0, 1) := by decide +kernel
theorem dX0_hasPlace_65 : decode cX0_hasPlace 65 = .ok (.ireturn, 1) := by decide +kernel
theorem dX0_insert_0 : decode cX0_insert 0 = .ok (.aload_n 0, 1) := by decide +kernel
theorem dX0_insert_1 : decode cX0_insert 1 = .ok (.getfield 12, 3) := by decide +kernel
theorem dX0_insert_4 : decode cX0_insert 4 = .ok (.aload_n 0, 1) := by decide +kernel
theorem dX0_insert_5 : decode cX0_insert 5 = .ok (.getfield 12, 3) := by decide +kernel
theorem dX0_insert_8 : decode cX0_insert 8 = .ok (.iload_n 2, 1) := by decide +kernel
theorem dX0_insert_9 : decode cX0_insert 9 = .ok (.iload_n 3, 1) := by decide +kernel
theorem dX0_insert_10 : decode cX0_insert 10 = .ok (.invokevirtual 45, 3) := by decide +kernel
theorem dX0_insert_13 : decode cX0_insert 13 = .ok (.iload_n 1, 1) := by decide +kernel
theorem dX0_insert_14 : decode cX0_insert 14 = .ok (.iload_n 2, 1) := by decide +kernel
theorem dX0_insert_15 : decode cX0_insert 15 = .ok (.iload 4, 2) := by decide +kernel
theorem dX0_insert_17 : decode cX0_insert 17 = .ok (.lload 5, 2) := by decide +kernel
theorem dX0_insert_19 : decode cX0_insert 19 = .ok (.invokevirtual 49, 3) := by decide +kernel
theorem dX0_insert_22 : decode cX0_insert 22 = .ok (.return_, 1) := by decide +kernel
theorem dX10_add_0 : decode cX10_add 0 = .ok (.aload_n 0, 1) := by decide +kernel
theorem dX10_add_1 : decode cX10_add 1 = .ok (.getfield 34, 3) := by decide +kernel
theorem dX10_add_4 : decode cX10_add 4 = .ok (.bipush 40, 2) := by decide +kernel
theorem dX10_add_6 : decode cX10_add 6 = .ok (.if_icmp .ge 54, 3) := by decide +kernel
theorem dX10_add_9 : decode cX10_add 9 = .ok (.aload_n 0, 1) := by decide +kernel
theorem dX10_add_10 : decode cX10_add 10 = .ok (.getfield 9, 3) := by decide +kernel
theorem dX10_add_13 : decode cX10_add 13 = .ok (.aload_n 0, 1) := by decide +kernel
theorem dX10_add_14 : decode cX10_add 14 = .ok (.getfield 34, 3) := by decide +kernel
theorem dX10_add_17 : decode cX10_add 17 = .ok (.iload_n 1, 1) := by decide +kernel
theorem dX10_add_18 : decode cX10_add 18 = .ok (.iastore, 1) := by decide +kernel
theorem dX10_add_19 : decode cX10_add 19 = .ok (.aload_n 0, 1) := by decide +kernel
theorem dX10_add_20 : decode cX10_add 20 = .ok (.getfield 15, 3) := by decide +kernel
theorem dX10_add_23 : decode cX10_add 23 = .ok (.aload_n 0, 1) := by decide +kernel
theorem dX10_add_24 : decode cX10_add 24 = .ok (.getfield 34, 3) := by decide +kernel
theorem dX10_add_27 : decode cX10_add 27 = .ok (.iload_n 2, 1) := by decide +kernel
theorem dX10_add_28 : decode cX10_add 28 = .ok (.iastore, 1) := by decide +kernel
theorem dX10_add_29 : decode cX10_add 29 = .ok (.aload_n 0, 1) := by decide +kernel
theorem dX10_add_30 : decode cX10_add 30 = .ok (.getfield 24, 3) := by decide +kernel
theorem dX10_add_33 : decode cX10_add 33 = .ok (.aload_n 0, 1) := by decide +kernel
theorem dX10_add_34 : decode cX10_add 34 = .ok (.getfield 34, 3) := by decide +kernel
theorem dX10_add_37 : decode cX10_add 37 = .ok (.iload_n 3, 1) := by decide +kernel
theorem dX10_add_38 : decode cX10_add 38 = .ok (.iastore, 1) := by decide +kernel
theorem dX10_add_39 : decode cX10_add 39 = .ok (.aload_n 0, 1) := by decide +kernel
theorem dX10_add_40 : decode cX10_add 40 = .ok (.getfield 27, 3) := by decide +kernel
theorem dX10_add_43 : decode cX10_add 43 = .ok (.aload_n 0, 1) := by decide +kernel
theorem dX10_add_44 : decode cX10_add 44 = .ok (.getfield 34, 3) := by decide +kernel
theorem dX10_add_47 : decode cX10_add 47 = .ok (.lload 4, 2) := by decide +kernel
theorem dX10_add_49 : decode cX10_add 49 = .ok (.lastore, 1) := by decide +kernel
theorem dX10_add_50 : decode cX10_add 50 = .ok (.aload_n 0, 1) := by decide +kernel
theorem dX10_add_51 : decode cX10_add 51 = .ok (.dup, 1) := by decide +kernel
theorem dX10_add_52 : decode cX10_add 52 = .ok (.getfield 34, 3) := by decide +kernel
theorem dX10_add_55 : decode cX10_add 55 = .ok (.iconst 1, 1) := by decide +kernel
theorem dX10_add_56 : decode cX10_add 56 = .ok (.iadd, 1) := by decide +kernel
theorem dX10_add_57 : decode cX10_add 57 = .ok (.putfield 34, 3) := by decide +kernel
theorem dX10_add_60 : decode cX10_add 60 = .ok (.return_, 1) := by decide +kernel
theorem dX10_arrange_0 : decode cX10_arrange 0 = .ok (.aload_n 0, 1) := by decide +kernel
theorem dX10_arrange_1 : decode cX10_arrange 1 = .ok (.invokevirtual 42, 3) := by decide +kernel
theorem dX10_arrange_4 : decode cX10_arrange 4 = .ok (.iconst 0, 1) := by decide +kernel
theorem dX10_arrange_5 : decode cX10_arrange 5 = .ok (.istore_n 3, 1) := by decide +kernel
theorem dX10_arrange_6 : decode cX10_arrange 6 = .ok (.iload_n 3, 1) := by decide +kernel
theorem dX10_arrange_7 : decode cX10_arrange 7 = .ok (.aload_n 1, 1) := by decide +kernel
theorem dX10_arrange_8 : decode cX10_arrange 8 = .ok (.getfield 34, 3) := by decide +kernel
theorem dX10_arrange_11 : decode cX10_arrange 11 = .ok (.if_icmp .ge 16, 3) := by decide +kernel
theorem dX10_arrange_14 : decode cX10_arrange 14 = .ok (.aload_n 1, 1) := by decide +kernel
theorem dX10_arrange_15 : decode cX10_arrange 15 = .ok (.getfield 21, 3) := by decide +kernel
theorem dX10_arrange_18 : decode cX10_arrange 18 = .ok (.iload_n 3, 1) := by decide +kernel
theorem dX10_arrange_19 : decode cX10_arrange 19 = .ok (.iconst 0, 1) := by decide +kernel
theorem dX10_arrange_20 : decode cX10_arrange 20 = .ok (.iastore, 1) := by decide +kernel
theorem dX10_arrange_21 : decode cX10_arrange 21 = .ok (.iinc 3 1, 3) := by decide +kernel
theorem dX10_arrange_24 : decode cX10_arrange 24 = .ok (.goto (-18), 3) := by decide +kernel
theorem dX10_arrange_27 : decode cX10_arrange 27 = .ok (.aload_n 0, 1) := by decide +kernel
theorem dX10_arrange_28 : decode cX10_arrange 28 = .ok (.aload_n 1, 1) := by decide +kernel
theorem dX10_arrange_29 : decode cX10_arrange 29 = .ok (.aload_n 1, 1) := by decide +kernel
theorem dX10_arrange_30 : decode cX10_arrange 30 = .ok (.iconst (-1), 1) := by decide +kernel
theorem dX10_arrange_31 : decode cX10_arrange 31 = .ok (.iconst 0, 1) := by decide +kernel
theorem dX10_arrange_32 : decode cX10_arrange 32 = .ok (.invokevirtual 76, 3) := by decide +kernel
theorem dX10_arrange_35 : decode cX10_arrange 35 = .ok (.iconst (-1), 1) := by decide +kernel
theorem dX10_arrange_36 : decode cX10_arrange 36 = .ok (.invokevirtual 80, 3) := by decide +kernel
theorem dX10_arrange_39 : decode cX10_arrange 39 = .ok (.istore_n 3, 1) := by decide +kernel
theorem dX10_arrange_40 : decode cX10_arrange 40 = .ok (.iconst 0, 1) := by decide +kernel
theorem dX10_arrange_41 : decode cX10_arrange 41 = .ok (.istore 4, 2) := by decide +kernel
theorem dX10_arrange_43 : decode cX10_arrange 43 = .ok (.iload 4, 2) := by decide +kernel
theorem dX10_arrange_45 : decode cX10_arrange 45 = .ok (.bipush 80, 2) := by decide +kernel
theorem dX10_arrange_47 : decode cX10_arrange 47 = .ok (.if_icmp .ge 59, 3) := by decide +kernel
theorem dX10_arrange_50 : decode cX10_arrange 50 = .ok (.iload_n 3, 1) := by decide +kernel
theorem dX10_arrange_51 : decode cX10_arrange 51 = .ok (.ifCond .lt 55, 3) := by decide +kernel
theorem dX10_arrange_54 : decode cX10_arrange 54 = .ok (.aload_n 1, 1) := by decide +kernel
theorem dX10_arrange_55 : decode cX10_arrange 55 = .ok (.aload_n 0, 1) := by decide +kernel
theorem dX10_arrange_56 : decode cX10_arrange 56 = .ok (.getfield 9, 3) := by decide +kernel
theorem dX10_arrange_59 : decode cX10_arrange 59 = .ok (.iload_n 3, 1) := by decide +kernel
theorem dX10_arrange_60 : decode cX10_arrange 60 = .ok (.iaload, 1) := by decide +kernel
theorem dX10_arrange_61 : decode cX10_arrange 61 = .ok (.aload_n 2, 1) := by decide +kernel
theorem dX10_arrange_62 : decode cX10_arrange 62 = .ok (.aload_n 0, 1) := by decide +kernel
theorem dX10_arrange_63 : decode cX10_arrange 63 = .ok (.getfield 24, 3) := by decide +kernel
theorem dX10_arrange_66 : decode cX10_arrange 66 = .ok (.iload_n 3, 1) := by decide +kernel
theorem dX10_arrange_67 : decode cX10_arrange 67 = .ok (.iaload, 1) := by decide +kernel
theorem dX10_arrange_68 : decode cX10_arrange 68 = .ok (.invokevirtual 84, 3) := by decide +kernel
theorem dX10_arrange_71 : decode cX10_arrange 71 = .ok (.invokevirtual 88, 3) := by decide +kernel
theorem dX10_arrange_74 : decode cX10_arrange 74 = .ok (.istore 5, 2) := by decide +kernel
theorem dX10_arrange_76 : decode cX10_arrange 76 = .ok (.iload 5, 2) := by decide +kernel
theorem dX10_arrange_78 : decode cX10_arrange 78 = .ok (.iconst (-1), 1) := by decide +kernel
theorem dX10_arrange_79 : decode cX10_arrange 79 = .ok (.if_icmp .ne 12, 3) := by decide +kernel
theorem dX10_arrange_82 : decode cX10_arrange 82 = .ok (.aload_n 0, 1) := by decide +kernel
theorem dX10_arrange_83 : decode cX10_arrange 83 = .ok (.getfield 18, 3) := by decide +kernel
theorem dX10_arrange_86 : decode cX10_arrange 86 = .ok (.iload_n 3, 1) := by decide +kernel
theorem dX10_arrange_87 : decode cX10_arrange 87 = .ok (.iaload, 1) := by decide +kernel
theorem dX10_arrange_88 : decode cX10_arrange 88 = .ok (.goto 11, 3) := by decide +kernel
theorem dX10_arrange_91 : decode cX10_arrange 91 = .ok (.aload_n 0, 1) := by decide +kernel
theorem dX10_arrange_92 : decode cX10_arrange 92 = .ok (.aload_n 1, 1) := by decide +kernel
theorem dX10_arrange_93 : decode cX10_arrange 93 = .ok (.iload 5, 2) := by decide +kernel
theorem dX10_arrange_95 : decode cX10_arrange 95 = .ok (.iload_n 3, 1) := by decide +kernel
theorem dX10_arrange_96 : decode cX10_arrange 96 = .ok (.invokevirtual 80, 3) := by decide +kernel
theorem dX10_arrange_99 : decode cX10_arrange 99 = .ok (.istore_n 3, 1) := by decide +kernel
theorem dX10_arrange_100 : decode cX10_arrange 100 = .ok (.iinc 4 1, 3) := by decide +kernel
theorem dX10_arrange_103 : decode cX10_arrange 103 = .ok (.goto (-60), 3) := by decide +kernel
theorem dX10_arrange_106 : decode cX10_arrange 106 = .ok (.return_, 1) := by decide +kernel
theorem dX10_childCount_0 : decode cX10_childCount 0 = .ok (.iconst 0, 1) := by decide +kernel
theorem dX10_childCount_1 : decode cX10_childCount 1 = .ok (.istore_n 2, 1) := by decide +kernel
theorem dX10_childCount_2 : decode cX10_childCount 2 = .ok (.iload_n 1, 1) := by decide +kernel
theorem dX10_childCount_3 : decode cX10_childCount 3 = .ok (.iconst 1, 1) := by decide +kernel
theorem dX10_childCount_4 : decode cX10_childCount 4 = .ok (.iadd, 1) := by decide +kernel
theorem dX10_childCount_5 : decode cX10_childCount 5 = .ok (.istore_n 3, 1) := by decide +kernel
theorem dX10_childCount_6 : decode cX10_childCount 6 = .ok (.iload_n 3, 1) := by decide +kernel
theorem dX10_childCount_7 : decode cX10_childCount 7 = .ok (.aload_n 0, 1) := by decide +kernel
theorem dX10_childCount_8 : decode cX10_childCount 8 = .ok (.getfield 34, 3) := by decide +kernel
theorem dX10_childCount_11 : decode cX10_childCount 11 = .ok (.if_icmp .ge 22, 3) := by decide +kernel
theorem dX10_childCount_14 : decode cX10_childCount 14 = .ok (.aload_n 0, 1) := by decide +kernel
theorem dX10_childCount_15 : decode cX10_childCount 15 = .ok (.getfield 18, 3) := by decide +kernel
theorem dX10_childCount_18 : decode cX10_childCount 18 = .ok (.iload_n 3, 1) := by decide +kernel
theorem dX10_childCount_19 : decode cX10_childCount 19 = .ok (.iaload, 1) := by decide +kernel
theorem dX10_childCount_20 : decode cX10_childCount 20 = .ok (.iload_n 1, 1) := by decide +kernel
theorem dX10_childCount_21 : decode cX10_childCount 21 = .ok (.if_icmp .ne 6, 3) := by decide +kernel
theorem dX10_childCount_24 : decode cX10_childCount 24 = .ok (.iinc 2 1, 3) := by decide +kernel
theorem dX10_childCount_27 : decode cX10_childCount 27 = .ok (.iinc 3 1, 3) := by decide +kernel
theorem dX10_childCount_30 : decode cX10_childCount 30 = .ok (.goto (-24), 3) := by decide +kernel
theorem dX10_childCount_33 : decode cX10_childCount 33 = .ok (.iload_n 2, 1) := by decide +kernel
theorem dX10_childCount_34 : decode cX10_childCount 34 = .ok (.ireturn, 1) := by decide +kernel
theorem dX10_childIndex_0 : decode cX10_childIndex 0 = .ok (.iconst 0, 1) := by decide +kernel
theorem dX10_childIndex_1 : decode cX10_childIndex 1 = .ok (.istore_n 3, 1) := by decide +kernel
theorem dX10_childIndex_2 : decode cX10_childIndex 2 = .ok (.iconst 0, 1) := by decide +kernel
theorem dX10_childIndex_3 : decode cX10_childIndex 3 = .ok (.istore 4, 2) := by decide +kernel
theorem dX10_childIndex_5 : decode cX10_childIndex 5 = .ok (.iload 4, 2) := by decide +kernel
theorem dX10_childIndex_7 : decode cX10_childIndex 7 = .ok (.aload_n 0, 1) := by decide +kernel
theorem dX10_childIndex_8 : decode cX10_childIndex 8 = .ok (.getfield 34, 3) := by decide +kernel
theorem dX10_childIndex_11 : decode cX10_childIndex 11 = .ok (.if_icmp .ge 31, 3) := by decide +kernel
theorem dX10_childIndex_14 : decode cX10_childIndex 14 = .ok (.aload_n 0, 1) := by decide +kernel
theorem dX10_childIndex_15 : decode cX10_childIndex 15 = .ok (.getfield 15, 3) := by decide +kernel
theorem dX10_childIndex_18 : decode cX10_childIndex 18 = .ok (.iload 4, 2) := by decide +kernel
theorem dX10_childIndex_20 : decode cX10_childIndex 20 = .ok (.iaload, 1) := by decide +kernel
theorem dX10_childIndex_21 : decode cX10_childIndex 21 = .ok (.iload_n 1, 1) := by decide +kernel
theorem dX10_childIndex_22 : decode cX10_childIndex 22 = .ok (.if_icmp .ne 14, 3) := by decide +kernel
theorem dX10_childIndex_25 : decode cX10_childIndex 25 = .ok (.iload_n 3, 1) := by decide +kernel
theorem dX10_childIndex_26 : decode cX10_childIndex 26 = .ok (.iload_n 2, 1) := by decide +kernel
theorem dX10_childIndex_27 : decode cX10_childIndex 27 = .ok (.if_icmp .ne 6, 3) := by decide +kernel
theorem dX10_childIndex_30 : decode cX10_childIndex 30 = .ok (.iload 4, 2) := by decide +kernel
theorem dX10_childIndex_32 : decode cX10_childIndex 32 = .ok (.ireturn, 1) := by decide +kernel
theorem dX10_childIndex_33 : decode cX10_childIndex 33 = .ok (.iinc 3 1, 3) := by decide +kernel
theorem dX10_childIndex_36 : decode cX10_childIndex 36 = .ok (.iinc 4 1, 3) := by decide +kernel
theorem dX10_childIndex_39 : decode cX10_childIndex 39 = .ok (.goto (-34), 3) := by decide +kernel
theorem dX10_childIndex_42 : decode cX10_childIndex 42 = .ok (.aload_n 0, 1) := by decide +kernel
theorem dX10_childIndex_43 : decode cX10_childIndex 43 = .ok (.getfield 34, 3) := by decide +kernel
theorem dX10_childIndex_46 : decode cX10_childIndex 46 = .ok (.ireturn, 1) := by decide +kernel
theorem dX10_clear_0 : decode cX10_clear 0 = .ok (.aload_n 0, 1) := by decide +kernel
theorem dX10_clear_1 : decode cX10_clear 1 = .ok (.iconst 0, 1) := by decide +kernel
theorem dX10_clear_2 : decode cX10_clear 2 = .ok (.putfield 34, 3) := by decide +kernel
theorem dX10_clear_5 : decode cX10_clear 5 = .ok (.return_, 1) := by decide +kernel
theorem dX10_copy_0 : decode cX10_copy 0 = .ok (.aload_n 0, 1) := by decide +kernel
theorem dX10_copy_1 : decode cX10_copy 1 = .ok (.aload_n 1, 1) := by decide +kernel
theorem dX10_copy_2 : decode cX10_copy 2 = .ok (.getfield 34, 3) := by decide +kernel
theorem dX10_copy_5 : decode cX10_copy 5 = .ok (.putfield 34, 3) := by decide +kernel
theorem dX10_copy_8 : decode cX10_copy 8 = .ok (.iconst 0, 1) := by decide +kernel
theorem dX10_copy_9 : decode cX10_copy 9 = .ok (.istore_n 2, 1) := by decide +kernel
theorem dX10_copy_10 : decode cX10_copy 10 = .ok (.iload_n 2, 1) := by decide +kernel
theorem dX10_copy_11 : decode cX10_copy 11 = .ok (.aload_n 0, 1) := by decide +kernel
theorem dX10_copy_12 : decode cX10_copy 12 = .ok (.getfield 34, 3) := by decide +kernel
theorem dX10_copy_15 : decode cX10_copy 15 = .ok (.if_icmp .ge 93, 3) := by decide +kernel
theorem dX10_copy_18 : decode cX10_copy 18 = .ok (.aload_n 0, 1) := by decide +kernel
theorem dX10_copy_19 : decode cX10_copy 19 = .ok (.getfield 9, 3) := by decide +kernel
theorem dX10_copy_22 : decode cX10_copy 22 = .ok (.iload_n 2, 1) := by decide +kernel
theorem dX10_copy_23 : decode cX10_copy 23 = .ok (.aload_n 1, 1) := by decide +kernel
theorem dX10_copy_24 : decode cX10_copy 24 = .ok (.getfield 9, 3) := by decide +kernel
theorem dX10_copy_27 : decode cX10_copy 27 = .ok (.iload_n 2, 1) := by decide +kernel
theorem dX10_copy_28 : decode cX10_copy 28 = .ok (.iaload, 1) := by decide +kernel
theorem dX10_copy_29 : decode cX10_copy 29 = .ok (.iastore, 1) := by decide +kernel
theorem dX10_copy_30 : decode cX10_copy 30 = .ok (.aload_n 0, 1) := by decide +kernel
theorem dX10_copy_31 : decode cX10_copy 31 = .ok (.getfield 15, 3) := by decide +kernel
theorem dX10_copy_34 : decode cX10_copy 34 = .ok (.iload_n 2, 1) := by decide +kernel
theorem dX10_copy_35 : decode cX10_copy 35 = .ok (.aload_n 1, 1) := by decide +kernel
theorem dX10_copy_36 : decode cX10_copy 36 = .ok (.getfield 15, 3) := by decide +kernel
theorem dX10_copy_39 : decode cX10_copy 39 = .ok (.iload_n 2, 1) := by decide +kernel
theorem dX10_copy_40 : decode cX10_copy 40 = .ok (.iaload, 1) := by decide +kernel
theorem dX10_copy_41 : decode cX10_copy 41 = .ok (.iastore, 1) := by decide +kernel
theorem dX10_copy_42 : decode cX10_copy 42 = .ok (.aload_n 0, 1) := by decide +kernel
theorem dX10_copy_43 : decode cX10_copy 43 = .ok (.getfield 18, 3) := by decide +kernel
theorem dX10_copy_46 : decode cX10_copy 46 = .ok (.iload_n 2, 1) := by decide +kernel
theorem dX10_copy_47 : decode cX10_copy 47 = .ok (.aload_n 1, 1) := by decide +kernel
theorem dX10_copy_48 : decode cX10_copy 48 = .ok (.getfield 18, 3) := by decide +kernel
theorem dX10_copy_51 : decode cX10_copy 51 = .ok (.iload_n 2, 1) := by decide +kernel
theorem dX10_copy_52 : decode cX10_copy 52 = .ok (.iaload, 1) := by decide +kernel
theorem dX10_copy_53 : decode cX10_copy 53 = .ok (.iastore, 1) := by decide +kernel
theorem dX10_copy_54 : decode cX10_copy 54 = .ok (.aload_n 0, 1) := by decide +kernel
theorem dX10_copy_55 : decode cX10_copy 55 = .ok (.getfield 21, 3) := by decide +kernel
theorem dX10_copy_58 : decode cX10_copy 58 = .ok (.iload_n 2, 1) := by decide +kernel
theorem dX10_copy_59 : decode cX10_copy 59 = .ok (.aload_n 1, 1) := by decide +kernel
theorem dX10_copy_60 : decode cX10_copy 60 = .ok (.getfield 21, 3) := by decide +kernel
theorem dX10_copy_63 : decode cX10_copy 63 = .ok (.iload_n 2, 1) := by decide +kernel
theorem dX10_copy_64 : decode cX10_copy 64 = .ok (.iaload, 1) := by decide +kernel
theorem dX10_copy_65 : decode cX10_copy 65 = .ok (.iastore, 1) := by decide +kernel
theorem dX10_copy_66 : decode cX10_copy 66 = .ok (.aload_n 0, 1) := by decide +kernel
theorem dX10_copy_67 : decode cX10_copy 67 = .ok (.getfield 24, 3) := by decide +kernel
theorem dX10_copy_70 : decode cX10_copy 70 = .ok (.iload_n 2, 1) := by decide +kernel
theorem dX10_copy_71 : decode cX10_copy 71 = .ok (.aload_n 1, 1) := by decide +kernel
theorem dX10_copy_72 : decode cX10_copy 72 = .ok (.getfield 24, 3) := by decide +kernel
theorem dX10_copy_75 : decode cX10_copy 75 = .ok (.iload_n 2, 1) := by decide +kernel
theorem dX10_copy_76 : decode cX10_copy 76 = .ok (.iaload, 1) := by decide +kernel
theorem dX10_copy_77 : decode cX10_copy 77 = .ok (.iastore, 1) := by decide +kernel
theorem dX10_copy_78 : decode cX10_copy 78 = .ok (.aload_n 0, 1) := by decide +kernel
theorem dX10_copy_79 : decode cX10_copy 79 = .ok (.getfield 27, 3) := by decide +kernel
theorem dX10_copy_82 : decode cX10_copy 82 = .ok (.iload_n 2, 1) := by decide +kernel
theorem dX10_copy_83 : decode cX10_copy 83 = .ok (.aload_n 1, 1) := by decide +kernel
theorem dX10_copy_84 : decode cX10_copy 84 = .ok (.getfield 27, 3) := by decide +kernel
theorem dX10_copy_87 : decode cX10_copy 87 = .ok (.iload_n 2, 1) := by decide +kernel
theorem dX10_copy_88 : decode cX10_copy 88 = .ok (.laload, 1) := by decide +kernel
theorem dX10_copy_89 : decode cX10_copy 89 = .ok (.lastore, 1) := by decide +kernel
theorem dX10_copy_90 : decode cX10_copy 90 = .ok (.aload_n 0, 1) := by decide +kernel
theorem dX10_copy_91 : decode cX10_copy 91 = .ok (.getfield 31, 3) := by decide +kernel
theorem dX10_copy_94 : decode cX10_copy 94 = .ok (.iload_n 2, 1) := by decide +kernel
theorem dX10_copy_95 : decode cX10_copy 95 = .ok (.aload_n 1, 1) := by decide +kernel
theorem dX10_copy_96 : decode cX10_copy 96 = .ok (.getfield 31, 3) := by decide +kernel
theorem dX10_copy_99 : decode cX10_copy 99 = .ok (.iload_n 2, 1) := by decide +kernel
theorem dX10_copy_100 : decode cX10_copy 100 = .ok (.iaload, 1) := by decide +kernel
theorem dX10_copy_101 : decode cX10_copy 101 = .ok (.iastore, 1) := by decide +kernel
theorem dX10_copy_102 : decode cX10_copy 102 = .ok (.iinc 2 1, 3) := by decide +kernel
theorem dX10_copy_105 : decode cX10_copy 105 = .ok (.goto (-95), 3) := by decide +kernel
theorem dX10_copy_108 : decode cX10_copy 108 = .ok (.return_, 1) := by decide +kernel
theorem dX10_cut_0 : decode cX10_cut 0 = .ok (.iload_n 1, 1) := by decide +kernel
theorem dX10_cut_1 : decode cX10_cut 1 = .ok (.ifCond .lt 11, 3) := by decide +kernel
theorem dX10_cut_4 : decode cX10_cut 4 = .ok (.iload_n 1, 1) := by decide +kernel
theorem dX10_cut_5 : decode cX10_cut 5 = .ok (.aload_n 0, 1) := by decide +kernel
theorem dX10_cut_6 : decode cX10_cut 6 = .ok (.getfield 34, 3) := by decide +kernel
theorem dX10_cut_9 : decode cX10_cut 9 = .ok (.if_icmp .lt 4, 3) := by decide +kernel
theorem dX10_cut_12 : decode cX10_cut 12 = .ok (.return_, 1) := by decide +kernel
theorem dX10_cut_13 : decode cX10_cut 13 = .ok (.iload_n 1, 1) := by decide +kernel
theorem dX10_cut_14 : decode cX10_cut 14 = .ok (.iconst 1, 1) := by decide +kernel
theorem dX10_cut_15 : decode cX10_cut 15 = .ok (.iadd, 1) := by decide +kernel
theorem dX10_cut_16 : decode cX10_cut 16 = .ok (.istore_n 2, 1) := by decide +kernel
theorem dX10_cut_17 : decode cX10_cut 17 = .ok (.iload_n 2, 1) := by decide +kernel
theorem dX10_cut_18 : decode cX10_cut 18 = .ok (.aload_n 0, 1) := by decide +kernel
theorem dX10_cut_19 : decode cX10_cut 19 = .ok (.getfield 34, 3) := by decide +kernel
theorem dX10_cut_22 : decode cX10_cut 22 = .ok (.if_icmp .ge 17, 3) := by decide +kernel
theorem dX10_cut_25 : decode cX10_cut 25 = .ok (.aload_n 0, 1) := by decide +kernel
theorem dX10_cut_26 : decode cX10_cut 26 = .ok (.iload_n 2, 1) := by decide +kernel
theorem dX10_cut_27 : decode cX10_cut 27 = .ok (.iload_n 2, 1) := by decide +kernel
theorem dX10_cut_28 : decode cX10_cut 28 = .ok (.iconst 1, 1) := by decide +kernel
theorem dX10_cut_29 : decode cX10_cut 29 = .ok (.isub, 1) := by decide +kernel
theorem dX10_cut_30 : decode cX10_cut 30 = .ok (.invokevirtual 38, 3) := by decide +kernel
theorem dX10_cut_33 : decode cX10_cut 33 = .ok (.iinc 2 1, 3) := by decide +kernel
theorem dX10_cut_36 : decode cX10_cut 36 = .ok (.goto (-19), 3) := by decide +kernel
theorem dX10_cut_39 : decode cX10_cut 39 = .ok (.aload_n 0, 1) := by decide +kernel
theorem dX10_cut_40 : decode cX10_cut 40 = .ok (.dup, 1) := by decide +kernel
theorem dX10_cut_41 : decode cX10_cut 41 = .ok (.getfield 34, 3) := by decide +kernel
theorem dX10_cut_44 : decode cX10_cut 44 = .ok (.iconst 1, 1) := by decide +kernel
theorem dX10_cut_45 : decode cX10_cut 45 = .ok (.isub, 1) := by decide +kernel
theorem dX10_cut_46 : decode cX10_cut 46 = .ok (.putfield 34, 3) := by decide +kernel
theorem dX10_cut_49 : decode cX10_cut 49 = .ok (.return_, 1) := by decide +kernel
theorem dX10_extent_0 : decode cX10_extent 0 = .ok (.iload_n 1, 1) := by decide +kernel
theorem dX10_extent_1 : decode cX10_extent 1 = .ok (.iconst 1, 1) := by decide +kernel
theorem dX10_extent_2 : decode cX10_extent 2 = .ok (.iadd, 1) := by decide +kernel
theorem dX10_extent_3 : decode cX10_extent 3 = .ok (.istore_n 2, 1) := by decide +kernel
theorem dX10_extent_4 : decode cX10_extent 4 = .ok (.iload_n 2, 1) := by decide +kernel
theorem dX10_extent_5 : decode cX10_extent 5 = .ok (.aload_n 0, 1) := by decide +kernel
theorem dX10_extent_6 : decode cX10_extent 6 = .ok (.getfield 34, 3) := by decide +kernel
theorem dX10_extent_9 : decode cX10_extent 9 = .ok (.if_icmp .ge 24, 3) := by decide +kernel
theorem dX10_extent_12 : decode cX10_extent 12 = .ok (.aload_n 0, 1) := by decide +kernel
theorem dX10_extent_13 : decode cX10_extent 13 = .ok (.getfield 21, 3) := by decide +kernel
theorem dX10_extent_16 : decode cX10_extent 16 = .ok (.iload_n 2, 1) := by decide +kernel
theorem dX10_extent_17 : decode cX10_extent 17 = .ok (.iaload, 1) := by decide +kernel
theorem dX10_extent_18 : decode cX10_extent 18 = .ok (.aload_n 0, 1) := by decide +kernel
theorem dX10_extent_19 : decode cX10_extent 19 = .ok (.getfield 21, 3) := by decide +kernel
theorem dX10_extent_22 : decode cX10_extent 22 = .ok (.iload_n 1, 1) := by decide +kernel
theorem dX10_extent_23 : decode cX10_extent 23 = .ok (.iaload, 1) := by decide +kernel
theorem dX10_extent_24 : decode cX10_extent 24 = .ok (.if_icmp .le 9, 3) := by decide +kernel
theorem dX10_extent_27 : decode cX10_extent 27 = .ok (.iinc 2 1, 3) := by decide +kernel
theorem dX10_extent_30 : decode cX10_extent 30 = .ok (.goto (-26), 3) := by decide +kernel
theorem dX10_extent_33 : decode cX10_extent 33 = .ok (.iload_n 2, 1) := by decide +kernel
theorem dX10_extent_34 : decode cX10_extent 34 = .ok (.iload_n 1, 1) := by decide +kernel
theorem dX10_extent_35 : decode cX10_extent 35 = .ok (.isub, 1) := by decide +kernel
theorem dX10_extent_36 : decode cX10_extent 36 = .ok (.ireturn, 1) := by decide +kernel
theorem dX10_find_0 : decode cX10_find 0 = .ok (.iconst 0, 1) := by decide +kernel
theorem dX10_find_1 : decode cX10_find 1 = .ok (.istore_n 2, 1) := by decide +kernel
theorem dX10_find_2 : decode cX10_find 2 = .ok (.iload_n 2, 1) := by decide +kernel
theorem dX10_find_3 : decode cX10_find 3 = .ok (.aload_n 0, 1) := by decide +kernel
theorem dX10_find_4 : decode cX10_find 4 = .ok (.getfield 34, 3) := by decide +kernel
theorem dX10_find_7 : decode cX10_find 7 = .ok (.if_icmp .ge 21, 3) := by decide +kernel
theorem dX10_find_10 : decode cX10_find 10 = .ok (.aload_n 0, 1) := by decide +kernel
theorem dX10_find_11 : decode cX10_find 11 = .ok (.getfield 9, 3) := by decide +kernel
theorem dX10_find_14 : decode cX10_find 14 = .ok (.iload_n 2, 1) := by decide +kernel
theorem dX10_find_15 : decode cX10_find 15 = .ok (.iaload, 1) := by decide +kernel
theorem dX10_find_16 : decode cX10_find 16 = .ok (.iload_n 1, 1) := by decide +kernel
theorem dX10_find_17 : decode cX10_find 17 = .ok (.if_icmp .ne 5, 3) := by decide +kernel
theorem dX10_find_20 : decode cX10_find 20 = .ok (.iload_n 2, 1) := by decide +kernel
theorem dX10_find_21 : decode cX10_find 21 = .ok (.ireturn, 1) := by decide +kernel
theorem dX10_find_22 : decode cX10_find 22 = .ok (.iinc 2 1, 3) := by decide +kernel
theorem dX10_find_25 : decode cX10_find 25 = .ok (.goto (-23), 3) := by decide +kernel
theorem dX10_find_28 : decode cX10_find 28 = .ok (.iconst (-1), 1) := by decide +kernel
theorem dX10_find_29 : decode cX10_find 29 = .ok (.ireturn, 1) := by decide +kernel
theorem dX10_firstBreak_0 : decode cX10_firstBreak 0 = .ok (.aload_n 0, 1) := by decide +kernel
theorem dX10_firstBreak_1 : decode cX10_firstBreak 1 = .ok (.getfield 34, 3) := by decide +kernel
theorem dX10_firstBreak_4 : decode cX10_firstBreak 4 = .ok (.ifCond .le 14, 3) := by decide +kernel
theorem dX10_firstBreak_7 : decode cX10_firstBreak 7 = .ok (.aload_n 0, 1) := by decide +kernel
theorem dX10_firstBreak_8 : decode cX10_firstBreak 8 = .ok (.getfield 24, 3) := by decide +kernel
theorem dX10_firstBreak_11 : decode cX10_firstBreak 11 = .ok (.iconst 0, 1) := by decide +kernel
theorem dX10_firstBreak_12 : decode cX10_firstBreak 12 = .ok (.iaload, 1) := by decide +kernel
theorem dX10_firstBreak_13 : decode cX10_firstBreak 13 = .ok (.ifCond .eq 5, 3) := by decide +kernel
theorem dX10_firstBreak_16 : decode cX10_firstBreak 16 = .ok (.iconst 0, 1) := by decide +kernel
theorem dX10_firstBreak_17 : decode cX10_firstBreak 17 = .ok (.ireturn, 1) := by decide +kernel
theorem dX10_firstBreak_18 : decode cX10_firstBreak 18 = .ok (.iconst 0, 1) := by decide +kernel
theorem dX10_firstBreak_19 : decode cX10_firstBreak 19 = .ok (.istore_n 3, 1) := by decide +kernel
theorem dX10_firstBreak_20 : decode cX10_firstBreak 20 = .ok (.iload_n 3, 1) := by decide +kernel
theorem dX10_firstBreak_21 : decode cX10_firstBreak 21 = .ok (.aload_n 0, 1) := by decide +kernel
theorem dX10_firstBreak_22 : decode cX10_firstBreak 22 = .ok (.getfield 34, 3) := by decide +kernel
theorem dX10_firstBreak_25 : decode cX10_firstBreak 25 = .ok (.if_icmp .ge 98, 3) := by decide +kernel
theorem dX10_firstBreak_28 : decode cX10_firstBreak 28 = .ok (.aload_n 2, 1) := by decide +kernel
theorem dX10_firstBreak_29 : decode cX10_firstBreak 29 = .ok (.invokevirtual 100, 3) := by decide +kernel
theorem dX10_firstBreak_32 : decode cX10_firstBreak 32 = .ok (.iload_n 3, 1) := by decide +kernel
theorem dX10_firstBreak_33 : decode cX10_firstBreak 33 = .ok (.iconst 1, 1) := by decide +kernel
theorem dX10_firstBreak_34 : decode cX10_firstBreak 34 = .ok (.iadd, 1) := by decide +kernel
theorem dX10_firstBreak_35 : decode cX10_firstBreak 35 = .ok (.istore 4, 2) := by decide +kernel
theorem dX10_firstBreak_37 : decode cX10_firstBreak 37 = .ok (.iload 4, 2) := by decide +kernel
theorem dX10_firstBreak_39 : decode cX10_firstBreak 39 = .ok (.aload_n 0, 1) := by decide +kernel
theorem dX10_firstBreak_40 : decode cX10_firstBreak 40 = .ok (.getfield 34, 3) := by decide +kernel
theorem dX10_firstBreak_43 : decode cX10_firstBreak 43 = .ok (.if_icmp .ge 38, 3) := by decide +kernel
theorem dX10_firstBreak_46 : decode cX10_firstBreak 46 = .ok (.aload_n 0, 1) := by decide +kernel
theorem dX10_firstBreak_47 : decode cX10_firstBreak 47 = .ok (.getfield 18, 3) := by decide +kernel
theorem dX10_firstBreak_50 : decode cX10_firstBreak 50 = .ok (.iload 4, 2) := by decide +kernel
theorem dX10_firstBreak_52 : decode cX10_firstBreak 52 = .ok (.iaload, 1) := by decide +kernel
theorem dX10_firstBreak_53 : decode cX10_firstBreak 53 = .ok (.iload_n 3, 1) := by decide +kernel
theorem dX10_firstBreak_54 : decode cX10_firstBreak 54 = .ok (.if_icmp .ne 21, 3) := by decide +kernel
theorem dX10_firstBreak_57 : decode cX10_firstBreak 57 = .ok (.aload_n 2, 1) := by decide +kernel
theorem dX10_firstBreak_58 : decode cX10_firstBreak 58 = .ok (.aload_n 0, 1) := by decide +kernel
theorem dX10_firstBreak_59 : decode cX10_firstBreak 59 = .ok (.getfield 24, 3) := by decide +kernel
theorem dX10_firstBreak_62 : decode cX10_firstBreak 62 = .ok (.iload 4, 2) := by decide +kernel
theorem dX10_firstBreak_64 : decode cX10_firstBreak 64 = .ok (.iaload, 1) := by decide +kernel
theorem dX10_firstBreak_65 : decode cX10_firstBreak 65 = .ok (.aload_n 0, 1) := by decide +kernel
theorem dX10_firstBreak_66 : decode cX10_firstBreak 66 = .ok (.getfield 27, 3) := by decide +kernel
theorem dX10_firstBreak_69 : decode cX10_firstBreak 69 = .ok (.iload 4, 2) := by decide +kernel
theorem dX10_firstBreak_71 : decode cX10_firstBreak 71 = .ok (.laload, 1) := by decide +kernel
theorem dX10_firstBreak_72 : decode cX10_firstBreak 72 = .ok (.invokevirtual 103, 3) := by decide +kernel
theorem dX10_firstBreak_75 : decode cX10_firstBreak 75 = .ok (.iinc 4 1, 3) := by decide +kernel
theorem dX10_firstBreak_78 : decode cX10_firstBreak 78 = .ok (.goto (-41), 3) := by decide +kernel
theorem dX10_firstBreak_81 : decode cX10_firstBreak 81 = .ok (.aload_n 1, 1) := by decide +kernel
theorem dX10_firstBreak_82 : decode cX10_firstBreak 82 = .ok (.aload_n 0, 1) := by decide +kernel
theorem dX10_firstBreak_83 : decode cX10_firstBreak 83 = .ok (.getfield 24, 3) := by decide +kernel
theorem dX10_firstBreak_86 : decode cX10_firstBreak 86 = .ok (.iload_n 3, 1) := by decide +kernel
theorem dX10_firstBreak_87 : decode cX10_firstBreak 87 = .ok (.iaload, 1) := by decide +kernel
theorem dX10_firstBreak_88 : decode cX10_firstBreak 88 = .ok (.aload_n 2, 1) := by decide +kernel
theorem dX10_firstBreak_89 : decode cX10_firstBreak 89 = .ok (.invokevirtual 106, 3) := by decide +kernel
theorem dX10_firstBreak_92 : decode cX10_firstBreak 92 = .ok (.ifCond .eq 23, 3) := by decide +kernel
theorem dX10_firstBreak_95 : decode cX10_firstBreak 95 = .ok (.aload_n 1, 1) := by decide +kernel
theorem dX10_firstBreak_96 : decode cX10_firstBreak 96 = .ok (.aload_n 0, 1) := by decide +kernel
theorem dX10_firstBreak_97 : decode cX10_firstBreak 97 = .ok (.getfield 24, 3) := by decide +kernel
theorem dX10_firstBreak_100 : decode cX10_firstBreak 100 = .ok (.iload_n 3, 1) := by decide +kernel
theorem dX10_firstBreak_101 : decode cX10_firstBreak 101 = .ok (.iaload, 1) := by decide +kernel
theorem dX10_firstBreak_102 : decode cX10_firstBreak 102 = .ok (.invokevirtual 84, 3) := by decide +kernel
theorem dX10_firstBreak_105 : decode cX10_firstBreak 105 = .ok (.ifCond .eq 12, 3) := by decide +kernel
theorem dX10_firstBreak_108 : decode cX10_firstBreak 108 = .ok (.aload_n 2, 1) := by decide +kernel
theorem dX10_firstBreak_109 : decode cX10_firstBreak 109 = .ok (.invokevirtual 110, 3) := by decide +kernel
theorem dX10_firstBreak_112 : decode cX10_firstBreak 112 = .ok (.ifCond .eq 5, 3) := by decide +kernel
theorem dX10_firstBreak_115 : decode cX10_firstBreak 115 = .ok (.iload_n 3, 1) := by decide +kernel
theorem dX10_firstBreak_116 : decode cX10_firstBreak 116 = .ok (.ireturn, 1) := by decide +kernel
theorem dX10_firstBreak_117 : decode cX10_firstBreak 117 = .ok (.iinc 3 1, 3) := by decide +kernel
theorem dX10_firstBreak_120 : decode cX10_firstBreak 120 = .ok (.goto (-100), 3) := by decide +kernel
theorem dX10_firstBreak_123 : decode cX10_firstBreak 123 = .ok (.iconst (-1), 1) := by decide +kernel
theorem dX10_firstBreak_124 : decode cX10_firstBreak 124 = .ok (.ireturn, 1) := by decide +kernel
theorem dX10_insert_0 : decode cX10_insert 0 = .ok (.iload_n 1, 1) := by decide +kernel
theorem dX10_insert_1 : decode cX10_insert 1 = .ok (.ifCond .lt 20, 3) := by decide +kernel
theorem dX10_insert_4 : decode cX10_insert 4 = .ok (.iload_n 1, 1) := by decide +kernel
theorem dX10_insert_5 : decode cX10_insert 5 = .ok (.aload_n 0, 1) := by decide +kernel
theorem dX10_insert_6 : decode cX10_insert 6 = .ok (.getfield 34, 3) := by decide +kernel
theorem dX10_insert_9 : decode cX10_insert 9 = .ok (.if_icmp .gt 12, 3) := by decide +kernel
theorem dX10_insert_12 : decode cX10_insert 12 = .ok (.aload_n 0, 1) := by decide +kernel
theorem dX10_insert_13 : decode cX10_insert 13 = .ok (.getfield 34, 3) := by decide +kernel
theorem dX10_insert_16 : decode cX10_insert 16 = .ok (.bipush 40, 2) := by decide +kernel
theorem dX10_insert_18 : decode cX10_insert 18 = .ok (.if_icmp .lt 4, 3) := by decide +kernel
theorem dX10_insert_21 : decode cX10_insert 21 = .ok (.return_, 1) := by decide +kernel
theorem dX10_insert_22 : decode cX10_insert 22 = .ok (.aload_n 0, 1) := by decide +kernel
theorem dX10_insert_23 : decode cX10_insert 23 = .ok (.getfield 34, 3) := by decide +kernel
theorem dX10_insert_26 : decode cX10_insert 26 = .ok (.istore 7, 2) := by decide +kernel
theorem dX10_insert_28 : decode cX10_insert 28 = .ok (.iload 7, 2) := by decide +kernel
theorem dX10_insert_30 : decode cX10_insert 30 = .ok (.iload_n 1, 1) := by decide +kernel
theorem dX10_insert_31 : decode cX10_insert 31 = .ok (.if_icmp .le 19, 3) := by decide +kernel
theorem dX10_insert_34 : decode cX10_insert 34 = .ok (.aload_n 0, 1) := by decide +kernel
theorem dX10_insert_35 : decode cX10_insert 35 = .ok (.iload 7, 2) := by decide +kernel
theorem dX10_insert_37 : decode cX10_insert 37 = .ok (.iconst 1, 1) := by decide +kernel
theorem dX10_insert_38 : decode cX10_insert 38 = .ok (.isub, 1) := by decide +kernel
theorem dX10_insert_39 : decode cX10_insert 39 = .ok (.iload 7, 2) := by decide +kernel
theorem dX10_insert_41 : decode cX10_insert 41 = .ok (.invokevirtual 38, 3) := by decide +kernel
theorem dX10_insert_44 : decode cX10_insert 44 = .ok (.iinc 7 (-1), 3) := by decide +kernel
theorem dX10_insert_47 : decode cX10_insert 47 = .ok (.goto (-19), 3) := by decide +kernel
theorem dX10_insert_50 : decode cX10_insert 50 = .ok (.aload_n 0, 1) := by decide +kernel
theorem dX10_insert_51 : decode cX10_insert 51 = .ok (.getfield 9, 3) := by decide +kernel
theorem dX10_insert_54 : decode cX10_insert 54 = .ok (.iload_n 1, 1) := by decide +kernel
theorem dX10_insert_55 : decode cX10_insert 55 = .ok (.iload_n 2, 1) := by decide +kernel
theorem dX10_insert_56 : decode cX10_insert 56 = .ok (.iastore, 1) := by decide +kernel
theorem dX10_insert_57 : decode cX10_insert 57 = .ok (.aload_n 0, 1) := by decide +kernel
theorem dX10_insert_58 : decode cX10_insert 58 = .ok (.getfield 15, 3) := by decide +kernel
theorem dX10_insert_61 : decode cX10_insert 61 = .ok (.iload_n 1, 1) := by decide +kernel
theorem dX10_insert_62 : decode cX10_insert 62 = .ok (.iload_n 3, 1) := by decide +kernel
theorem dX10_insert_63 : decode cX10_insert 63 = .ok (.iastore, 1) := by decide +kernel
theorem dX10_insert_64 : decode cX10_insert 64 = .ok (.aload_n 0, 1) := by decide +kernel
theorem dX10_insert_65 : decode cX10_insert 65 = .ok (.getfield 24, 3) := by decide +kernel
theorem dX10_insert_68 : decode cX10_insert 68 = .ok (.iload_n 1, 1) := by decide +kernel
theorem dX10_insert_69 : decode cX10_insert 69 = .ok (.iload 4, 2) := by decide +kernel
theorem dX10_insert_71 : decode cX10_insert 71 = .ok (.iastore, 1) := by decide +kernel
theorem dX10_insert_72 : decode cX10_insert 72 = .ok (.aload_n 0, 1) := by decide +kernel
theorem dX10_insert_73 : decode cX10_insert 73 = .ok (.getfield 27, 3) := by decide +kernel
theorem dX10_insert_76 : decode cX10_insert 76 = .ok (.iload_n 1, 1) := by decide +kernel
theorem dX10_insert_77 : decode cX10_insert 77 = .ok (.lload 5, 2) := by decide +kernel
theorem dX10_insert_79 : decode cX10_insert 79 = .ok (.lastore, 1) := by decide +kernel
theorem dX10_insert_80 : decode cX10_insert 80 = .ok (.aload_n 0, 1) := by decide +kernel
theorem dX10_insert_81 : decode cX10_insert 81 = .ok (.dup, 1) := by decide +kernel
theorem dX10_insert_82 : decode cX10_insert 82 = .ok (.getfield 34, 3) := by decide +kernel
theorem dX10_insert_85 : decode cX10_insert 85 = .ok (.iconst 1, 1) := by decide +kernel
theorem dX10_insert_86 : decode cX10_insert 86 = .ok (.iadd, 1) := by decide +kernel
theorem dX10_insert_87 : decode cX10_insert 87 = .ok (.putfield 34, 3) := by decide +kernel
theorem dX10_insert_90 : decode cX10_insert 90 = .ok (.return_, 1) := by decide +kernel
theorem dX10_isSameFrom_0 : decode cX10_isSameFrom 0 = .ok (.aload_n 0, 1) := by decide +kernel
theorem dX10_isSameFrom_1 : decode cX10_isSameFrom 1 = .ok (.iload_n 1, 1) := by decide +kernel
theorem dX10_isSameFrom_2 : decode cX10_isSameFrom 2 = .ok (.invokevirtual 96, 3) := by decide +kernel
theorem dX10_isSameFrom_5 : decode cX10_isSameFrom 5 = .ok (.istore 4, 2) := by decide +kernel
theorem dX10_isSameFrom_7 : decode cX10_isSameFrom 7 = .ok (.iload 4, 2) := by decide +kernel
theorem dX10_isSameFrom_9 : decode cX10_isSameFrom 9 = .ok (.aload_n 2, 1) := by decide +kernel
theorem dX10_isSameFrom_10 : decode cX10_isSameFrom 10 = .ok (.iload_n 3, 1) := by decide +kernel
theorem dX10_isSameFrom_11 : decode cX10_isSameFrom 11 = .ok (.invokevirtual 96, 3) := by decide +kernel
theorem dX10_isSameFrom_14 : decode cX10_isSameFrom 14 = .ok (.if_icmp .eq 5, 3) := by decide +kernel
theorem dX10_isSameFrom_17 : decode cX10_isSameFrom 17 = .ok (.iconst 0, 1) := by decide +kernel
theorem dX10_isSameFrom_18 : decode cX10_isSameFrom 18 = .ok (.ireturn, 1) := by decide +kernel
theorem dX10_isSameFrom_19 : decode cX10_isSameFrom 19 = .ok (.aload_n 2, 1) := by decide +kernel
theorem dX10_isSameFrom_20 : decode cX10_isSameFrom 20 = .ok (.getfield 21, 3) := by decide +kernel
theorem dX10_isSameFrom_23 : decode cX10_isSameFrom 23 = .ok (.iload_n 3, 1) := by decide +kernel
theorem dX10_isSameFrom_24 : decode cX10_isSameFrom 24 = .ok (.iaload, 1) := by decide +kernel
theorem dX10_isSameFrom_25 : decode cX10_isSameFrom 25 = .ok (.aload_n 0, 1) := by decide +kernel
theorem dX10_isSameFrom_26 : decode cX10_isSameFrom 26 = .ok (.getfield 21, 3) := by decide +kernel
theorem dX10_isSameFrom_29 : decode cX10_isSameFrom 29 = .ok (.iload_n 1, 1) := by decide +kernel
theorem dX10_isSameFrom_30 : decode cX10_isSameFrom 30 = .ok (.iaload, 1) := by decide +kernel
theorem dX10_isSameFrom_31 : decode cX10_isSameFrom 31 = .ok (.isub, 1) := by decide +kernel
theorem dX10_isSameFrom_32 : decode cX10_isSameFrom 32 = .ok (.istore 5, 2) := by decide +kernel
theorem dX10_isSameFrom_34 : decode cX10_isSameFrom 34 = .ok (.iconst 0, 1) := by decide +kernel
theorem dX10_isSameFrom_35 : decode cX10_isSameFrom 35 = .ok (.istore 6, 2) := by decide +kernel
theorem dX10_isSameFrom_37 : decode cX10_isSameFrom 37 = .ok (.iload 6, 2) := by decide +kernel
theorem dX10_isSameFrom_39 : decode cX10_isSameFrom 39 = .ok (.iload 4, 2) := by decide +kernel
theorem dX10_isSameFrom_41 : decode cX10_isSameFrom 41 = .ok (.if_icmp .ge 78, 3) := by decide +kernel
theorem dX10_isSameFrom_44 : decode cX10_isSameFrom 44 = .ok (.aload_n 0, 1) := by decide +kernel
theorem dX10_isSameFrom_45 : decode cX10_isSameFrom 45 = .ok (.getfield 24, 3) := by decide +kernel
theorem dX10_isSameFrom_48 : decode cX10_isSameFrom 48 = .ok (.iload_n 1, 1) := by decide +kernel
theorem dX10_isSameFrom_49 : decode cX10_isSameFrom 49 = .ok (.iload 6, 2) := by decide +kernel
theorem dX10_isSameFrom_51 : decode cX10_isSameFrom 51 = .ok (.iadd, 1) := by decide +kernel
theorem dX10_isSameFrom_52 : decode cX10_isSameFrom 52 = .ok (.iaload, 1) := by decide +kernel
theorem dX10_isSameFrom_53 : decode cX10_isSameFrom 53 = .ok (.aload_n 2, 1) := by decide +kernel
theorem dX10_isSameFrom_54 : decode cX10_isSameFrom 54 = .ok (.getfield 24, 3) := by decide +kernel
theorem dX10_isSameFrom_57 : decode cX10_isSameFrom 57 = .ok (.iload_n 3, 1) := by decide +kernel
theorem dX10_isSameFrom_58 : decode cX10_isSameFrom 58 = .ok (.iload 6, 2) := by decide +kernel
theorem dX10_isSameFrom_60 : decode cX10_isSameFrom 60 = .ok (.iadd, 1) := by decide +kernel
theorem dX10_isSameFrom_61 : decode cX10_isSameFrom 61 = .ok (.iaload, 1) := by decide +kernel
theorem dX10_isSameFrom_62 : decode cX10_isSameFrom 62 = .ok (.if_icmp .ne 49, 3) := by decide +kernel
theorem dX10_isSameFrom_65 : decode cX10_isSameFrom 65 = .ok (.aload_n 0, 1) := by decide +kernel
theorem dX10_isSameFrom_66 : decode cX10_isSameFrom 66 = .ok (.getfield 27, 3) := by decide +kernel
theorem dX10_isSameFrom_69 : decode cX10_isSameFrom 69 = .ok (.iload_n 1, 1) := by decide +kernel
theorem dX10_isSameFrom_70 : decode cX10_isSameFrom 70 = .ok (.iload 6, 2) := by decide +kernel
theorem dX10_isSameFrom_72 : decode cX10_isSameFrom 72 = .ok (.iadd, 1) := by decide +kernel
theorem dX10_isSameFrom_73 : decode cX10_isSameFrom 73 = .ok (.laload, 1) := by decide +kernel
theorem dX10_isSameFrom_74 : decode cX10_isSameFrom 74 = .ok (.aload_n 2, 1) := by decide +kernel
theorem dX10_isSameFrom_75 : decode cX10_isSameFrom 75 = .ok (.getfield 27, 3) := by decide +kernel
theorem dX10_isSameFrom_78 : decode cX10_isSameFrom 78 = .ok (.iload_n 3, 1) := by decide +kernel
theorem dX10_isSameFrom_79 : decode cX10_isSameFrom 79 = .ok (.iload 6, 2) := by decide +kernel
theorem dX10_isSameFrom_81 : decode cX10_isSameFrom 81 = .ok (.iadd, 1) := by decide +kernel
theorem dX10_isSameFrom_82 : decode cX10_isSameFrom 82 = .ok (.laload, 1) := by decide +kernel
theorem dX10_isSameFrom_83 : decode cX10_isSameFrom 83 = .ok (.lcmp, 1) := by decide +kernel
theorem dX10_isSameFrom_84 : decode cX10_isSameFrom 84 = .ok (.ifCond .ne 27, 3) := by decide +kernel
theorem dX10_isSameFrom_87 : decode cX10_isSameFrom 87 = .ok (.aload_n 0, 1) := by decide +kernel
theorem dX10_isSameFrom_88 : decode cX10_isSameFrom 88 = .ok (.getfield 21, 3) := by decide +kernel
theorem dX10_isSameFrom_91 : decode cX10_isSameFrom 91 = .ok (.iload_n 1, 1) := by decide +kernel
theorem dX10_isSameFrom_92 : decode cX10_isSameFrom 92 = .ok (.iload 6, 2) := by decide +kernel
theorem dX10_isSameFrom_94 : decode cX10_isSameFrom 94 = .ok (.iadd, 1) := by decide +kernel
theorem dX10_isSameFrom_95 : decode cX10_isSameFrom 95 = .ok (.iaload, 1) := by decide +kernel
theorem dX10_isSameFrom_96 : decode cX10_isSameFrom 96 = .ok (.iload 5, 2) := by decide +kernel
theorem dX10_isSameFrom_98 : decode cX10_isSameFrom 98 = .ok (.iadd, 1) := by decide +kernel
theorem dX10_isSameFrom_99 : decode cX10_isSameFrom 99 = .ok (.aload_n 2, 1) := by decide +kernel
theorem dX10_isSameFrom_100 : decode cX10_isSameFrom 100 = .ok (.getfield 21, 3) := by decide +kernel
theorem dX10_isSameFrom_103 : decode cX10_isSameFrom 103 = .ok (.iload_n 3, 1) := by decide +kernel
theorem dX10_isSameFrom_104 : decode cX10_isSameFrom 104 = .ok (.iload 6, 2) := by decide +kernel
theorem dX10_isSameFrom_106 : decode cX10_isSameFrom 106 = .ok (.iadd, 1) := by decide +kernel
theorem dX10_isSameFrom_107 : decode cX10_isSameFrom 107 = .ok (.iaload, 1) := by decide +kernel
theorem dX10_isSameFrom_108 : decode cX10_isSameFrom 108 = .ok (.if_icmp .eq 5, 3) := by decide +kernel
theorem dX10_isSameFrom_111 : decode cX10_isSameFrom 111 = .ok (.iconst 0, 1) := by decide +kernel
theorem dX10_isSameFrom_112 : decode cX10_isSameFrom 112 = .ok (.ireturn, 1) := by decide +kernel
theorem dX10_isSameFrom_113 : decode cX10_isSameFrom 113 = .ok (.iinc 6 1, 3) := by decide +kernel
theorem dX10_isSameFrom_116 : decode cX10_isSameFrom 116 = .ok (.goto (-79), 3) := by decide +kernel
theorem dX10_isSameFrom_119 : decode cX10_isSameFrom 119 = .ok (.iconst 1, 1) := by decide +kernel
theorem dX10_isSameFrom_120 : decode cX10_isSameFrom 120 = .ok (.ireturn, 1) := by decide +kernel
theorem dX10_isWithin_0 : decode cX10_isWithin 0 = .ok (.iload_n 1, 1) := by decide +kernel
theorem dX10_isWithin_1 : decode cX10_isWithin 1 = .ok (.iload_n 2, 1) := by decide +kernel
theorem dX10_isWithin_2 : decode cX10_isWithin 2 = .ok (.if_icmp .lt 18, 3) := by decide +kernel
theorem dX10_isWithin_5 : decode cX10_isWithin 5 = .ok (.iload_n 1, 1) := by decide +kernel
theorem dX10_isWithin_6 : decode cX10_isWithin 6 = .ok (.iload_n 2, 1) := by decide +kernel
theorem dX10_isWithin_7 : decode cX10_isWithin 7 = .ok (.aload_n 0, 1) := by decide +kernel
theorem dX10_isWithin_8 : decode cX10_isWithin 8 = .ok (.iload_n 2, 1) := by decide +kernel
theorem dX10_isWithin_9 : decode cX10_isWithin 9 = .ok (.invokevirtual 96, 3) := by decide +kernel
theorem dX10_isWithin_12 : decode cX10_isWithin 12 = .ok (.iadd, 1) := by decide +kernel
theorem dX10_isWithin_13 : decode cX10_isWithin 13 = .ok (.if_icmp .ge 7, 3) := by decide +kernel
theorem dX10_isWithin_16 : decode cX10_isWithin 16 = .ok (.iconst 1, 1) := by decide +kernel
theorem dX10_isWithin_17 : decode cX10_isWithin 17 = .ok (.goto 4, 3) := by decide +kernel
theorem dX10_isWithin_20 : decode cX10_isWithin 20 = .ok (.iconst 0, 1) := by decide +kernel
theorem dX10_isWithin_21 : decode cX10_isWithin 21 = .ok (.ireturn, 1) := by decide +kernel
theorem dX10_moveEntry_0 : decode cX10_moveEntry 0 = .ok (.aload_n 0, 1) := by decide +kernel
theorem dX10_moveEntry_1 : decode cX10_moveEntry 1 = .ok (.getfield 9, 3) := by decide +kernel
theorem dX10_moveEntry_4 : decode cX10_moveEntry 4 = .ok (.iload_n 2, 1) := by decide +kernel
theorem dX10_moveEntry_5 : decode cX10_moveEntry 5 = .ok (.aload_n 0, 1) := by decide +kernel
theorem dX10_moveEntry_6 : decode cX10_moveEntry 6 = .ok (.getfield 9, 3) := by decide +kernel
theorem dX10_moveEntry_9 : decode cX10_moveEntry 9 = .ok (.iload_n 1, 1) := by decide +kernel
theorem dX10_moveEntry_10 : decode cX10_moveEntry 10 = .ok (.iaload, 1) := by decide +kernel
theorem dX10_moveEntry_11 : decode cX10_moveEntry 11 = .ok (.iastore, 1) := by decide +kernel
theorem dX10_moveEntry_12 : decode cX10_moveEntry 12 = .ok (.aload_n 0, 1) := by decide +kernel
theorem dX10_moveEntry_13 : decode cX10_moveEntry 13 = .ok (.getfield 15, 3) := by decide +kernel
theorem dX10_moveEntry_16 : decode cX10_moveEntry 16 = .ok (.iload_n 2, 1) := by decide +kernel
theorem dX10_moveEntry_17 : decode cX10_moveEntry 17 = .ok (.aload_n 0, 1) := by decide +kernel
theorem dX10_moveEntry_18 : decode cX10_moveEntry 18 = .ok (.getfield 15, 3) := by decide +kernel
theorem dX10_moveEntry_21 : decode cX10_moveEntry 21 = .ok (.iload_n 1, 1) := by decide +kernel
theorem dX10_moveEntry_22 : decode cX10_moveEntry 22 = .ok (.iaload, 1) := by decide +kernel
theorem dX10_moveEntry_23 : decode cX10_moveEntry 23 = .ok (.iastore, 1) := by decide +kernel
theorem dX10_moveEntry_24 : decode cX10_moveEntry 24 = .ok (.aload_n 0, 1) := by decide +kernel
theorem dX10_moveEntry_25 : decode cX10_moveEntry 25 = .ok (.getfield 24, 3) := by decide +kernel
theorem dX10_moveEntry_28 : decode cX10_moveEntry 28 = .ok (.iload_n 2, 1) := by decide +kernel
theorem dX10_moveEntry_29 : decode cX10_moveEntry 29 = .ok (.aload_n 0, 1) := by decide +kernel
theorem dX10_moveEntry_30 : decode cX10_moveEntry 30 = .ok (.getfield 24, 3) := by decide +kernel
theorem dX10_moveEntry_33 : decode cX10_moveEntry 33 = .ok (.iload_n 1, 1) := by decide +kernel
theorem dX10_moveEntry_34 : decode cX10_moveEntry 34 = .ok (.iaload, 1) := by decide +kernel
theorem dX10_moveEntry_35 : decode cX10_moveEntry 35 = .ok (.iastore, 1) := by decide +kernel
theorem dX10_moveEntry_36 : decode cX10_moveEntry 36 = .ok (.aload_n 0, 1) := by decide +kernel
theorem dX10_moveEntry_37 : decode cX10_moveEntry 37 = .ok (.getfield 27, 3) := by decide +kernel
theorem dX10_moveEntry_40 : decode cX10_moveEntry 40 = .ok (.iload_n 2, 1) := by decide +kernel
theorem dX10_moveEntry_41 : decode cX10_moveEntry 41 = .ok (.aload_n 0, 1) := by decide +kernel
theorem dX10_moveEntry_42 : decode cX10_moveEntry 42 = .ok (.getfield 27, 3) := by decide +kernel
theorem dX10_moveEntry_45 : decode cX10_moveEntry 45 = .ok (.iload_n 1, 1) := by decide +kernel
theorem dX10_moveEntry_46 : decode cX10_moveEntry 46 = .ok (.laload, 1) := by decide +kernel
theorem dX10_moveEntry_47 : decode cX10_moveEntry 47 = .ok (.lastore, 1) := by decide +kernel
theorem dX10_moveEntry_48 : decode cX10_moveEntry 48 = .ok (.return_, 1) := by decide +kernel
theorem dX10_nameOf_0 : decode cX10_nameOf 0 = .ok (.aload_n 0, 1) := by decide +kernel
theorem dX10_nameOf_1 : decode cX10_nameOf 1 = .ok (.getfield 34, 3) := by decide +kernel
theorem dX10_nameOf_4 : decode cX10_nameOf 4 = .ok (.iconst 1, 1) := by decide +kernel
theorem dX10_nameOf_5 : decode cX10_nameOf 5 = .ok (.isub, 1) := by decide +kernel
theorem dX10_nameOf_6 : decode cX10_nameOf 6 = .ok (.istore_n 3, 1) := by decide +kernel
theorem dX10_nameOf_7 : decode cX10_nameOf 7 = .ok (.iload_n 3, 1) := by decide +kernel
theorem dX10_nameOf_8 : decode cX10_nameOf 8 = .ok (.iload_n 1, 1) := by decide +kernel
theorem dX10_nameOf_9 : decode cX10_nameOf 9 = .ok (.if_icmp .lt 122, 3) := by decide +kernel
theorem dX10_nameOf_12 : decode cX10_nameOf 12 = .ok (.aload_n 0, 1) := by decide +kernel
theorem dX10_nameOf_13 : decode cX10_nameOf 13 = .ok (.getfield 24, 3) := by decide +kernel
theorem dX10_nameOf_16 : decode cX10_nameOf 16 = .ok (.iload_n 3, 1) := by decide +kernel
theorem dX10_nameOf_17 : decode cX10_nameOf 17 = .ok (.iaload, 1) := by decide +kernel
theorem dX10_nameOf_18 : decode cX10_nameOf 18 = .ok (.bipush 7, 2) := by decide +kernel
theorem dX10_nameOf_20 : decode cX10_nameOf 20 = .ok (.iadd, 1) := by decide +kernel
theorem dX10_nameOf_21 : decode cX10_nameOf 21 = .ok (.istore 4, 2) := by decide +kernel
theorem dX10_nameOf_23 : decode cX10_nameOf 23 = .ok (.bipush 56, 2) := by decide +kernel
theorem dX10_nameOf_25 : decode cX10_nameOf 25 = .ok (.istore 5, 2) := by decide +kernel
theorem dX10_nameOf_27 : decode cX10_nameOf 27 = .ok (.iload 5, 2) := by decide +kernel
theorem dX10_nameOf_29 : decode cX10_nameOf 29 = .ok (.ifCond .lt 43, 3) := by decide +kernel
theorem dX10_nameOf_32 : decode cX10_nameOf 32 = .ok (.aload_n 0, 1) := by decide +kernel
theorem dX10_nameOf_33 : decode cX10_nameOf 33 = .ok (.getfield 27, 3) := by decide +kernel
theorem dX10_nameOf_36 : decode cX10_nameOf 36 = .ok (.iload_n 3, 1) := by decide +kernel
theorem dX10_nameOf_37 : decode cX10_nameOf 37 = .ok (.laload, 1) := by decide +kernel
theorem dX10_nameOf_38 : decode cX10_nameOf 38 = .ok (.iload 5, 2) := by decide +kernel
theorem dX10_nameOf_40 : decode cX10_nameOf 40 = .ok (.lushr, 1) := by decide +kernel
theorem dX10_nameOf_41 : decode cX10_nameOf 41 = .ok (.l2i, 1) := by decide +kernel
theorem dX10_nameOf_42 : decode cX10_nameOf 42 = .ok (.sipush 255, 3) := by decide +kernel
theorem dX10_nameOf_45 : decode cX10_nameOf 45 = .ok (.iand, 1) := by decide +kernel
theorem dX10_nameOf_46 : decode cX10_nameOf 46 = .ok (.istore 6, 2) := by decide +kernel
theorem dX10_nameOf_48 : decode cX10_nameOf 48 = .ok (.iload 6, 2) := by decide +kernel
theorem dX10_nameOf_50 : decode cX10_nameOf 50 = .ok (.ifCond .eq 16, 3) := by decide +kernel
theorem dX10_nameOf_53 : decode cX10_nameOf 53 = .ok (.iload 4, 2) := by decide +kernel
theorem dX10_nameOf_55 : decode cX10_nameOf 55 = .ok (.bipush 31, 2) := by decide +kernel
theorem dX10_nameOf_57 : decode cX10_nameOf 57 = .ok (.imul, 1) := by decide +kernel
theorem dX10_nameOf_58 : decode cX10_nameOf 58 = .ok (.iload 6, 2) := by decide +kernel
theorem dX10_nameOf_60 : decode cX10_nameOf 60 = .ok (.iadd, 1) := by decide +kernel
theorem dX10_nameOf_61 : decode cX10_nameOf 61 = .ok (.ldc 114, 2) := by decide +kernel
theorem dX10_nameOf_63 : decode cX10_nameOf 63 = .ok (.irem, 1) := by decide +kernel
theorem dX10_nameOf_64 : decode cX10_nameOf 64 = .ok (.istore 4, 2) := by decide +kernel
theorem dX10_nameOf_66 : decode cX10_nameOf 66 = .ok (.iinc 5 (-8), 3) := by decide +kernel
theorem dX10_nameOf_69 : decode cX10_nameOf 69 = .ok (.goto (-42), 3) := by decide +kernel
theorem dX10_nameOf_72 : decode cX10_nameOf 72 = .ok (.iload_n 3, 1) := by decide +kernel
theorem dX10_nameOf_73 : decode cX10_nameOf 73 = .ok (.iconst 1, 1) := by decide +kernel
theorem dX10_nameOf_74 : decode cX10_nameOf 74 = .ok (.iadd, 1) := by decide +kernel
theorem dX10_nameOf_75 : decode cX10_nameOf 75 = .ok (.istore 5, 2) := by decide +kernel
theorem dX10_nameOf_77 : decode cX10_nameOf 77 = .ok (.iload 5, 2) := by decide +kernel
theorem dX10_nameOf_79 : decode cX10_nameOf 79 = .ok (.aload_n 0, 1) := by decide +kernel
theorem dX10_nameOf_80 : decode cX10_nameOf 80 = .ok (.getfield 34, 3) := by decide +kernel
theorem dX10_nameOf_83 : decode cX10_nameOf 83 = .ok (.if_icmp .ge 37, 3) := by decide +kernel
theorem dX10_nameOf_86 : decode cX10_nameOf 86 = .ok (.aload_n 0, 1) := by decide +kernel
theorem dX10_nameOf_87 : decode cX10_nameOf 87 = .ok (.getfield 18, 3) := by decide +kernel
theorem dX10_nameOf_90 : decode cX10_nameOf 90 = .ok (.iload 5, 2) := by decide +kernel
theorem dX10_nameOf_92 : decode cX10_nameOf 92 = .ok (.iaload, 1) := by decide +kernel
theorem dX10_nameOf_93 : decode cX10_nameOf 93 = .ok (.iload_n 3, 1) := by decide +kernel
theorem dX10_nameOf_94 : decode cX10_nameOf 94 = .ok (.if_icmp .ne 20, 3) := by decide +kernel
theorem dX10_nameOf_97 : decode cX10_nameOf 97 = .ok (.iload 4, 2) := by decide +kernel
theorem dX10_nameOf_99 : decode cX10_nameOf 99 = .ok (.bipush 37, 2) := by decide +kernel
theorem dX10_nameOf_101 : decode cX10_nameOf 101 = .ok (.imul, 1) := by decide +kernel
theorem dX10_nameOf_102 : decode cX10_nameOf 102 = .ok (.aload_n 2, 1) := by decide +kernel
theorem dX10_nameOf_103 : decode cX10_nameOf 103 = .ok (.iload 5, 2) := by decide +kernel
theorem dX10_nameOf_105 : decode cX10_nameOf 105 = .ok (.iaload, 1) := by decide +kernel
theorem dX10_nameOf_106 : decode cX10_nameOf 106 = .ok (.iadd, 1) := by decide +kernel
theorem dX10_nameOf_107 : decode cX10_nameOf 107 = .ok (.iconst 1, 1) := by decide +kernel
theorem dX10_nameOf_108 : decode cX10_nameOf 108 = .ok (.iadd, 1) := by decide +kernel
theorem dX10_nameOf_109 : decode cX10_nameOf 109 = .ok (.ldc 114, 2) := by decide +kernel
theorem dX10_nameOf_111 : decode cX10_nameOf 111 = .ok (.irem, 1) := by decide +kernel
theorem dX10_nameOf_112 : decode cX10_nameOf 112 = .ok (.istore 4, 2) := by decide +kernel
theorem dX10_nameOf_114 : decode cX10_nameOf 114 = .ok (.iinc 5 1, 3) := by decide +kernel
theorem dX10_nameOf_117 : decode cX10_nameOf 117 = .ok (.goto (-40), 3) := by decide +kernel
theorem dX10_nameOf_120 : decode cX10_nameOf 120 = .ok (.aload_n 2, 1) := by decide +kernel
theorem dX10_nameOf_121 : decode cX10_nameOf 121 = .ok (.iload_n 3, 1) := by decide +kernel
theorem dX10_nameOf_122 : decode cX10_nameOf 122 = .ok (.iload 4, 2) := by decide +kernel
theorem dX10_nameOf_124 : decode cX10_nameOf 124 = .ok (.iastore, 1) := by decide +kernel
theorem dX10_nameOf_125 : decode cX10_nameOf 125 = .ok (.iinc 3 (-1), 3) := by decide +kernel
theorem dX10_nameOf_128 : decode cX10_nameOf 128 = .ok (.goto (-121), 3) := by decide +kernel
theorem dX10_nameOf_131 : decode cX10_nameOf 131 = .ok (.aload_n 2, 1) := by decide +kernel
theorem dX10_nameOf_132 : decode cX10_nameOf 132 = .ok (.iload_n 1, 1) := by decide +kernel
theorem dX10_nameOf_133 : decode cX10_nameOf 133 = .ok (.iaload, 1) := by decide +kernel
theorem dX10_nameOf_134 : decode cX10_nameOf 134 = .ok (.ireturn, 1) := by decide +kernel
theorem dX10_nextWaiting_0 : decode cX10_nextWaiting 0 = .ok (.iconst (-1), 1) := by decide +kernel
theorem dX10_nextWaiting_1 : decode cX10_nextWaiting 1 = .ok (.istore_n 3, 1) := by decide +kernel
theorem dX10_nextWaiting_2 : decode cX10_nextWaiting 2 = .ok (.iconst 0, 1) := by decide +kernel
theorem dX10_nextWaiting_3 : decode cX10_nextWaiting 3 = .ok (.istore 4, 2) := by decide +kernel
theorem dX10_nextWaiting_5 : decode cX10_nextWaiting 5 = .ok (.iload 4, 2) := by decide +kernel
theorem dX10_nextWaiting_7 : decode cX10_nextWaiting 7 = .ok (.aload_n 0, 1) := by decide +kernel
theorem dX10_nextWaiting_8 : decode cX10_nextWaiting 8 = .ok (.getfield 34, 3) := by decide +kernel
theorem dX10_nextWaiting_11 : decode cX10_nextWaiting 11 = .ok (.if_icmp .ge 90, 3) := by decide +kernel
theorem dX10_nextWaiting_14 : decode cX10_nextWaiting 14 = .ok (.aload_n 0, 1) := by decide +kernel
theorem dX10_nextWaiting_15 : decode cX10_nextWaiting 15 = .ok (.getfield 15, 3) := by decide +kernel
theorem dX10_nextWaiting_18 : decode cX10_nextWaiting 18 = .ok (.iload 4, 2) := by decide +kernel
theorem dX10_nextWaiting_20 : decode cX10_nextWaiting 20 = .ok (.iaload, 1) := by decide +kernel
theorem dX10_nextWaiting_21 : decode cX10_nextWaiting 21 = .ok (.iload_n 1, 1) := by decide +kernel
theorem dX10_nextWaiting_22 : decode cX10_nextWaiting 22 = .ok (.if_icmp .ne 73, 3) := by decide +kernel
theorem dX10_nextWaiting_25 : decode cX10_nextWaiting 25 = .ok (.aload_n 0, 1) := by decide +kernel
theorem dX10_nextWaiting_26 : decode cX10_nextWaiting 26 = .ok (.getfield 21, 3) := by decide +kernel
theorem dX10_nextWaiting_29 : decode cX10_nextWaiting 29 = .ok (.iload 4, 2) := by decide +kernel
theorem dX10_nextWaiting_31 : decode cX10_nextWaiting 31 = .ok (.iaload, 1) := by decide +kernel
theorem dX10_nextWaiting_32 : decode cX10_nextWaiting 32 = .ok (.ifCond .eq 6, 3) := by decide +kernel
theorem dX10_nextWaiting_35 : decode cX10_nextWaiting 35 = .ok (.goto 60, 3) := by decide +kernel
theorem dX10_nextWaiting_38 : decode cX10_nextWaiting 38 = .ok (.iload_n 3, 1) := by decide +kernel
theorem dX10_nextWaiting_39 : decode cX10_nextWaiting 39 = .ok (.iconst (-1), 1) := by decide +kernel
theorem dX10_nextWaiting_40 : decode cX10_nextWaiting 40 = .ok (.if_icmp .eq 52, 3) := by decide +kernel
theorem dX10_nextWaiting_43 : decode cX10_nextWaiting 43 = .ok (.iload_n 2, 1) := by decide +kernel
theorem dX10_nextWaiting_44 : decode cX10_nextWaiting 44 = .ok (.ifCond .eq 51, 3) := by decide +kernel
theorem dX10_nextWaiting_47 : decode cX10_nextWaiting 47 = .ok (.aload_n 0, 1) := by decide +kernel
theorem dX10_nextWaiting_48 : decode cX10_nextWaiting 48 = .ok (.getfield 24, 3) := by decide +kernel
theorem dX10_nextWaiting_51 : decode cX10_nextWaiting 51 = .ok (.iload 4, 2) := by decide +kernel
theorem dX10_nextWaiting_53 : decode cX10_nextWaiting 53 = .ok (.iaload, 1) := by decide +kernel
theorem dX10_nextWaiting_54 : decode cX10_nextWaiting 54 = .ok (.aload_n 0, 1) := by decide +kernel
theorem dX10_nextWaiting_55 : decode cX10_nextWaiting 55 = .ok (.getfield 27, 3) := by decide +kernel
theorem dX10_nextWaiting_58 : decode cX10_nextWaiting 58 = .ok (.iload 4, 2) := by decide +kernel
theorem dX10_nextWaiting_60 : decode cX10_nextWaiting 60 = .ok (.laload, 1) := by decide +kernel
theorem dX10_nextWaiting_61 : decode cX10_nextWaiting 61 = .ok (.aload_n 0, 1) := by decide +kernel
theorem dX10_nextWaiting_62 : decode cX10_nextWaiting 62 = .ok (.getfield 9, 3) := by decide +kernel
theorem dX10_nextWaiting_65 : decode cX10_nextWaiting 65 = .ok (.iload 4, 2) := by decide +kernel
theorem dX10_nextWaiting_67 : decode cX10_nextWaiting 67 = .ok (.iaload, 1) := by decide +kernel
theorem dX10_nextWaiting_68 : decode cX10_nextWaiting 68 = .ok (.aload_n 0, 1) := by decide +kernel
theorem dX10_nextWaiting_69 : decode cX10_nextWaiting 69 = .ok (.getfield 24, 3) := by decide +kernel
theorem dX10_nextWaiting_72 : decode cX10_nextWaiting 72 = .ok (.iload_n 3, 1) := by decide +kernel
theorem dX10_nextWaiting_73 : decode cX10_nextWaiting 73 = .ok (.iaload, 1) := by decide +kernel
theorem dX10_nextWaiting_74 : decode cX10_nextWaiting 74 = .ok (.aload_n 0, 1) := by decide +kernel
theorem dX10_nextWaiting_75 : decode cX10_nextWaiting 75 = .ok (.getfield 27, 3) := by decide +kernel
theorem dX10_nextWaiting_78 : decode cX10_nextWaiting 78 = .ok (.iload_n 3, 1) := by decide +kernel
theorem dX10_nextWaiting_79 : decode cX10_nextWaiting 79 = .ok (.laload, 1) := by decide +kernel
theorem dX10_nextWaiting_80 : decode cX10_nextWaiting 80 = .ok (.aload_n 0, 1) := by decide +kernel
theorem dX10_nextWaiting_81 : decode cX10_nextWaiting 81 = .ok (.getfield 9, 3) := by decide +kernel
theorem dX10_nextWaiting_84 : decode cX10_nextWaiting 84 = .ok (.iload_n 3, 1) := by decide +kernel
theorem dX10_nextWaiting_85 : decode cX10_nextWaiting 85 = .ok (.iaload, 1) := by decide +kernel
theorem dX10_nextWaiting_86 : decode cX10_nextWaiting 86 = .ok (.invokestatic 92, 3) := by decide +kernel
theorem dX10_nextWaiting_89 : decode cX10_nextWaiting 89 = .ok (.ifCond .eq 6, 3) := by decide +kernel
theorem dX10_nextWaiting_92 : decode cX10_nextWaiting 92 = .ok (.iload 4, 2) := by decide +kernel
theorem dX10_nextWaiting_94 : decode cX10_nextWaiting 94 = .ok (.istore_n 3, 1) := by decide +kernel
theorem dX10_nextWaiting_95 : decode cX10_nextWaiting 95 = .ok (.iinc 4 1, 3) := by decide +kernel
theorem dX10_nextWaiting_98 : decode cX10_nextWaiting 98 = .ok (.goto (-93), 3) := by decide +kernel
theorem dX10_nextWaiting_101 : decode cX10_nextWaiting 101 = .ok (.iload_n 3, 1) := by decide +kernel
theorem dX10_nextWaiting_102 : decode cX10_nextWaiting 102 = .ok (.ireturn, 1) := by decide +kernel
theorem dX10_placeOf_0 : decode cX10_placeOf 0 = .ok (.iconst 0, 1) := by decide +kernel
theorem dX10_placeOf_1 : decode cX10_placeOf 1 = .ok (.istore_n 2, 1) := by decide +kernel
theorem dX10_placeOf_2 : decode cX10_placeOf 2 = .ok (.iconst 1, 1) := by decide +kernel
theorem dX10_placeOf_3 : decode cX10_placeOf 3 = .ok (.istore_n 3, 1) := by decide +kernel
theorem dX10_placeOf_4 : decode cX10_placeOf 4 = .ok (.iload_n 3, 1) := by decide +kernel
theorem dX10_placeOf_5 : decode cX10_placeOf 5 = .ok (.iload_n 1, 1) := by decide +kernel
theorem dX10_placeOf_6 : decode cX10_placeOf 6 = .ok (.if_icmp .ge 27, 3) := by decide +kernel
theorem dX10_placeOf_9 : decode cX10_placeOf 9 = .ok (.aload_n 0, 1) := by decide +kernel
theorem dX10_placeOf_10 : decode cX10_placeOf 10 = .ok (.getfield 18, 3) := by decide +kernel
theorem dX10_placeOf_13 : decode cX10_placeOf 13 = .ok (.iload_n 3, 1) := by decide +kernel
theorem dX10_placeOf_14 : decode cX10_placeOf 14 = .ok (.iaload, 1) := by decide +kernel
theorem dX10_placeOf_15 : decode cX10_placeOf 15 = .ok (.aload_n 0, 1) := by decide +kernel
theorem dX10_placeOf_16 : decode cX10_placeOf 16 = .ok (.getfield 18, 3) := by decide +kernel
theorem dX10_placeOf_19 : decode cX10_placeOf 19 = .ok (.iload_n 1, 1) := by decide +kernel
theorem dX10_placeOf_20 : decode cX10_placeOf 20 = .ok (.iaload, 1) := by decide +kernel
theorem dX10_placeOf_21 : decode cX10_placeOf 21 = .ok (.if_icmp .ne 6, 3) := by decide +kernel
theorem dX10_placeOf_24 : decode cX10_placeOf 24 = .ok (.iinc 2 1, 3) := by decide +kernel
theorem dX10_placeOf_27 : decode cX10_placeOf 27 = .ok (.iinc 3 1, 3) := by decide +kernel
theorem dX10_placeOf_30 : decode cX10_placeOf 30 = .ok (.goto (-26), 3) := by decide +kernel
theorem dX10_placeOf_33 : decode cX10_placeOf 33 = .ok (.iload_n 2, 1) := by decide +kernel
theorem dX10_placeOf_34 : decode cX10_placeOf 34 = .ok (.ireturn, 1) := by decide +kernel
theorem dX10_readFrom_0 : decode cX10_readFrom 0 = .ok (.aload_n 0, 1) := by decide +kernel
theorem dX10_readFrom_1 : decode cX10_readFrom 1 = .ok (.invokevirtual 42, 3) := by decide +kernel
theorem dX10_readFrom_4 : decode cX10_readFrom 4 = .ok (.aload_n 1, 1) := by decide +kernel
theorem dX10_readFrom_5 : decode cX10_readFrom 5 = .ok (.invokevirtual 45, 3) := by decide +kernel
theorem dX10_readFrom_8 : decode cX10_readFrom 8 = .ok (.aload_n 1, 1) := by decide +kernel
theorem dX10_readFrom_9 : decode cX10_readFrom 9 = .ok (.invokevirtual 50, 3) := by decide +kernel
theorem dX10_readFrom_12 : decode cX10_readFrom 12 = .ok (.iconst 1, 1) := by decide +kernel
theorem dX10_readFrom_13 : decode cX10_readFrom 13 = .ok (.istore_n 3, 1) := by decide +kernel
theorem dX10_readFrom_14 : decode cX10_readFrom 14 = .ok (.iconst (-1), 1) := by decide +kernel
theorem dX10_readFrom_15 : decode cX10_readFrom 15 = .ok (.istore 4, 2) := by decide +kernel
theorem dX10_readFrom_17 : decode cX10_readFrom 17 = .ok (.iconst 0, 1) := by decide +kernel
theorem dX10_readFrom_18 : decode cX10_readFrom 18 = .ok (.istore 5, 2) := by decide +kernel
theorem dX10_readFrom_20 : decode cX10_readFrom 20 = .ok (.iload 5, 2) := by decide +kernel
theorem dX10_readFrom_22 : decode cX10_readFrom 22 = .ok (.bipush 24, 2) := by decide +kernel
theorem dX10_readFrom_24 : decode cX10_readFrom 24 = .ok (.if_icmp .gt 192, 3) := by decide +kernel
theorem dX10_readFrom_27 : decode cX10_readFrom 27 = .ok (.aload_n 2, 1) := by decide +kernel
theorem dX10_readFrom_28 : decode cX10_readFrom 28 = .ok (.aload_n 1, 1) := by decide +kernel
theorem dX10_readFrom_29 : decode cX10_readFrom 29 = .ok (.invokevirtual 53, 3) := by decide +kernel
theorem dX10_readFrom_32 : decode cX10_readFrom 32 = .ok (.istore 6, 2) := by decide +kernel
theorem dX10_readFrom_34 : decode cX10_readFrom 34 = .ok (.aload_n 1, 1) := by decide +kernel
theorem dX10_readFrom_35 : decode cX10_readFrom 35 = .ok (.getfield 59, 3) := by decide +kernel
theorem dX10_readFrom_38 : decode cX10_readFrom 38 = .ok (.iconst 1, 1) := by decide +kernel
theorem dX10_readFrom_39 : decode cX10_readFrom 39 = .ok (.if_icmp .ne 18, 3) := by decide +kernel
theorem dX10_readFrom_42 : decode cX10_readFrom 42 = .ok (.aload_n 0, 1) := by decide +kernel
theorem dX10_readFrom_43 : decode cX10_readFrom 43 = .ok (.getfield 34, 3) := by decide +kernel
theorem dX10_readFrom_46 : decode cX10_readFrom 46 = .ok (.bipush 24, 2) := by decide +kernel
theorem dX10_readFrom_48 : decode cX10_readFrom 48 = .ok (.if_icmp .ge 9, 3) := by decide +kernel
theorem dX10_readFrom_51 : decode cX10_readFrom 51 = .ok (.iload 6, 2) := by decide +kernel
theorem dX10_readFrom_53 : decode cX10_readFrom 53 = .ok (.iconst (-1), 1) := by decide +kernel
theorem dX10_readFrom_54 : decode cX10_readFrom 54 = .ok (.if_icmp .ne 8, 3) := by decide +kernel
theorem dX10_readFrom_57 : decode cX10_readFrom 57 = .ok (.aload_n 1, 1) := by decide +kernel
theorem dX10_readFrom_58 : decode cX10_readFrom 58 = .ok (.getfield 62, 3) := by decide +kernel
theorem dX10_readFrom_61 : decode cX10_readFrom 61 = .ok (.ireturn, 1) := by decide +kernel
theorem dX10_readFrom_62 : decode cX10_readFrom 62 = .ok (.aload_n 0, 1) := by decide +kernel
theorem dX10_readFrom_63 : decode cX10_readFrom 63 = .ok (.iload 5, 2) := by decide +kernel
theorem dX10_readFrom_65 : decode cX10_readFrom 65 = .ok (.iload 4, 2) := by decide +kernel
theorem dX10_readFrom_67 : decode cX10_readFrom 67 = .ok (.iload 6, 2) := by decide +kernel
theorem dX10_readFrom_69 : decode cX10_readFrom 69 = .ok (.lconst 0, 1) := by decide +kernel
theorem dX10_readFrom_70 : decode cX10_readFrom 70 = .ok (.invokevirtual 65, 3) := by decide +kernel
theorem dX10_readFrom_73 : decode cX10_readFrom 73 = .ok (.aload_n 1, 1) := by decide +kernel
theorem dX10_readFrom_74 : decode cX10_readFrom 74 = .ok (.invokevirtual 50, 3) := by decide +kernel
theorem dX10_readFrom_77 : decode cX10_readFrom 77 = .ok (.aload_n 1, 1) := by decide +kernel
theorem dX10_readFrom_78 : decode cX10_readFrom 78 = .ok (.getfield 59, 3) := by decide +kernel
theorem dX10_readFrom_81 : decode cX10_readFrom 81 = .ok (.iconst 5, 1) := by decide +kernel
theorem dX10_readFrom_82 : decode cX10_readFrom 82 = .ok (.if_icmp .ne 8, 3) := by decide +kernel
theorem dX10_readFrom_85 : decode cX10_readFrom 85 = .ok (.aload_n 1, 1) := by decide +kernel
theorem dX10_readFrom_86 : decode cX10_readFrom 86 = .ok (.getfield 69, 3) := by decide +kernel
theorem dX10_readFrom_89 : decode cX10_readFrom 89 = .ok (.ireturn, 1) := by decide +kernel
theorem dX10_readFrom_90 : decode cX10_readFrom 90 = .ok (.aload_n 1, 1) := by decide +kernel
theorem dX10_readFrom_91 : decode cX10_readFrom 91 = .ok (.getfield 59, 3) := by decide +kernel
theorem dX10_readFrom_94 : decode cX10_readFrom 94 = .ok (.iconst 4, 1) := by decide +kernel
theorem dX10_readFrom_95 : decode cX10_readFrom 95 = .ok (.if_icmp .ne 18, 3) := by decide +kernel
theorem dX10_readFrom_98 : decode cX10_readFrom 98 = .ok (.aload_n 0, 1) := by decide +kernel
theorem dX10_readFrom_99 : decode cX10_readFrom 99 = .ok (.getfield 27, 3) := by decide +kernel
theorem dX10_readFrom_102 : decode cX10_readFrom 102 = .ok (.iload 5, 2) := by decide +kernel
theorem dX10_readFrom_104 : decode cX10_readFrom 104 = .ok (.aload_n 1, 1) := by decide +kernel
theorem dX10_readFrom_105 : decode cX10_readFrom 105 = .ok (.invokevirtual 72, 3) := by decide +kernel
theorem dX10_readFrom_108 : decode cX10_readFrom 108 = .ok (.lastore, 1) := by decide +kernel
theorem dX10_readFrom_109 : decode cX10_readFrom 109 = .ok (.aload_n 1, 1) := by decide +kernel
theorem dX10_readFrom_110 : decode cX10_readFrom 110 = .ok (.invokevirtual 50, 3) := by decide +kernel
theorem dX10_readFrom_113 : decode cX10_readFrom 113 = .ok (.aload_n 1, 1) := by decide +kernel
theorem dX10_readFrom_114 : decode cX10_readFrom 114 = .ok (.getfield 59, 3) := by decide +kernel
theorem dX10_readFrom_117 : decode cX10_readFrom 117 = .ok (.bipush 40, 2) := by decide +kernel
theorem dX10_readFrom_119 : decode cX10_readFrom 119 = .ok (.if_icmp .ne 28, 3) := by decide +kernel
theorem dX10_readFrom_122 : decode cX10_readFrom 122 = .ok (.iload_n 3, 1) := by decide +kernel
theorem dX10_readFrom_123 : decode cX10_readFrom 123 = .ok (.bipush 8, 2) := by decide +kernel
theorem dX10_readFrom_125 : decode cX10_readFrom 125 = .ok (.if_icmp .lt 8, 3) := by decide +kernel
theorem dX10_readFrom_128 : decode cX10_readFrom 128 = .ok (.aload_n 1, 1) := by decide +kernel
theorem dX10_readFrom_129 : decode cX10_readFrom 129 = .ok (.getfield 62, 3) := by decide +kernel
theorem dX10_readFrom_132 : decode cX10_readFrom 132 = .ok (.ireturn, 1) := by decide +kernel
theorem dX10_readFrom_133 : decode cX10_readFrom 133 = .ok (.iinc 3 1, 3) := by decide +kernel
theorem dX10_readFrom_136 : decode cX10_readFrom 136 = .ok (.iload 5, 2) := by decide +kernel
theorem dX10_readFrom_138 : decode cX10_readFrom 138 = .ok (.istore 4, 2) := by decide +kernel
theorem dX10_readFrom_140 : decode cX10_readFrom 140 = .ok (.aload_n 1, 1) := by decide +kernel
theorem dX10_readFrom_141 : decode cX10_readFrom 141 = .ok (.invokevirtual 50, 3) := by decide +kernel
theorem dX10_readFrom_144 : decode cX10_readFrom 144 = .ok (.goto 66, 3) := by decide +kernel
theorem dX10_readFrom_147 : decode cX10_readFrom 147 = .ok (.iload_n 3, 1) := by decide +kernel
theorem dX10_readFrom_148 : decode cX10_readFrom 148 = .ok (.iconst 1, 1) := by decide +kernel
theorem dX10_readFrom_149 : decode cX10_readFrom 149 = .ok (.if_icmp .le 40, 3) := by decide +kernel
theorem dX10_readFrom_152 : decode cX10_readFrom 152 = .ok (.aload_n 1, 1) := by decide +kernel
theorem dX10_readFrom_153 : decode cX10_readFrom 153 = .ok (.getfield 59, 3) := by decide +kernel
theorem dX10_readFrom_156 : decode cX10_readFrom 156 = .ok (.bipush 41, 2) := by decide +kernel
theorem dX10_readFrom_158 : decode cX10_readFrom 158 = .ok (.if_icmp .ne 31, 3) := by decide +kernel
theorem dX10_readFrom_161 : decode cX10_readFrom 161 = .ok (.iinc 3 (-1), 3) := by decide +kernel
theorem dX10_readFrom_164 : decode cX10_readFrom 164 = .ok (.iload 4, 2) := by decide +kernel
theorem dX10_readFrom_166 : decode cX10_readFrom 166 = .ok (.ifCond .ge 7, 3) := by decide +kernel
theorem dX10_readFrom_169 : decode cX10_readFrom 169 = .ok (.iconst (-1), 1) := by decide +kernel
theorem dX10_readFrom_170 : decode cX10_readFrom 170 = .ok (.goto 10, 3) := by decide +kernel
theorem dX10_readFrom_173 : decode cX10_readFrom 173 = .ok (.aload_n 0, 1) := by decide +kernel
theorem dX10_readFrom_174 : decode cX10_readFrom 174 = .ok (.getfield 15, 3) := by decide +kernel
theorem dX10_readFrom_177 : decode cX10_readFrom 177 = .ok (.iload 4, 2) := by decide +kernel
theorem dX10_readFrom_179 : decode cX10_readFrom 179 = .ok (.iaload, 1) := by decide +kernel
theorem dX10_readFrom_180 : decode cX10_readFrom 180 = .ok (.istore 4, 2) := by decide +kernel
theorem dX10_readFrom_182 : decode cX10_readFrom 182 = .ok (.aload_n 1, 1) := by decide +kernel
theorem dX10_readFrom_183 : decode cX10_readFrom 183 = .ok (.invokevirtual 50, 3) := by decide +kernel
theorem dX10_readFrom_186 : decode cX10_readFrom 186 = .ok (.goto (-39), 3) := by decide +kernel
theorem dX10_readFrom_189 : decode cX10_readFrom 189 = .ok (.iload_n 3, 1) := by decide +kernel
theorem dX10_readFrom_190 : decode cX10_readFrom 190 = .ok (.iconst 1, 1) := by decide +kernel
theorem dX10_readFrom_191 : decode cX10_readFrom 191 = .ok (.if_icmp .ne 19, 3) := by decide +kernel
theorem dX10_readFrom_194 : decode cX10_readFrom 194 = .ok (.aload_n 1, 1) := by decide +kernel
theorem dX10_readFrom_195 : decode cX10_readFrom 195 = .ok (.getfield 59, 3) := by decide +kernel
theorem dX10_readFrom_198 : decode cX10_readFrom 198 = .ok (.ifCond .ne 7, 3) := by decide +kernel
theorem dX10_readFrom_201 : decode cX10_readFrom 201 = .ok (.iconst (-1), 1) := by decide +kernel
theorem dX10_readFrom_202 : decode cX10_readFrom 202 = .ok (.goto 7, 3) := by decide +kernel
theorem dX10_readFrom_205 : decode cX10_readFrom 205 = .ok (.aload_n 1, 1) := by decide +kernel
theorem dX10_readFrom_206 : decode cX10_readFrom 206 = .ok (.getfield 62, 3) := by decide +kernel
theorem dX10_readFrom_209 : decode cX10_readFrom 209 = .ok (.ireturn, 1) := by decide +kernel
theorem dX10_readFrom_210 : decode cX10_readFrom 210 = .ok (.iinc 5 1, 3) := by decide +kernel
theorem dX10_readFrom_213 : decode cX10_readFrom 213 = .ok (.goto (-193), 3) := by decide +kernel
theorem dX10_readFrom_216 : decode cX10_readFrom 216 = .ok (.aload_n 1, 1) := by decide +kernel
theorem dX10_readFrom_217 : decode cX10_readFrom 217 = .ok (.getfield 62, 3) := by decide +kernel
theorem dX10_readFrom_220 : decode cX10_readFrom 220 = .ok (.ireturn, 1) := by decide +kernel
theorem dX10_takeFrom_0 : decode cX10_takeFrom 0 = .ok (.iload_n 2, 1) := by decide +kernel
theorem dX10_takeFrom_1 : decode cX10_takeFrom 1 = .ok (.ifCond .lt 20, 3) := by decide +kernel
theorem dX10_takeFrom_4 : decode cX10_takeFrom 4 = .ok (.iload_n 2, 1) := by decide +kernel
theorem dX10_takeFrom_5 : decode cX10_takeFrom 5 = .ok (.aload_n 1, 1) := by decide +kernel
theorem dX10_takeFrom_6 : decode cX10_takeFrom 6 = .ok (.getfield 34, 3) := by decide +kernel
theorem dX10_takeFrom_9 : decode cX10_takeFrom 9 = .ok (.if_icmp .ge 12, 3) := by decide +kernel
theorem dX10_takeFrom_12 : decode cX10_takeFrom 12 = .ok (.aload_n 0, 1) := by decide +kernel
theorem dX10_takeFrom_13 : decode cX10_takeFrom 13 = .ok (.getfield 34, 3) := by decide +kernel
theorem dX10_takeFrom_16 : decode cX10_takeFrom 16 = .ok (.bipush 40, 2) := by decide +kernel
theorem dX10_takeFrom_18 : decode cX10_takeFrom 18 = .ok (.if_icmp .lt 5, 3) := by decide +kernel
theorem dX10_takeFrom_21 : decode cX10_takeFrom 21 = .ok (.iconst (-1), 1) := by decide +kernel
theorem dX10_takeFrom_22 : decode cX10_takeFrom 22 = .ok (.ireturn, 1) := by decide +kernel
theorem dX10_takeFrom_23 : decode cX10_takeFrom 23 = .ok (.aload_n 1, 1) := by decide +kernel
theorem dX10_takeFrom_24 : decode cX10_takeFrom 24 = .ok (.getfield 21, 3) := by decide +kernel
theorem dX10_takeFrom_27 : decode cX10_takeFrom 27 = .ok (.iload_n 2, 1) := by decide +kernel
theorem dX10_takeFrom_28 : decode cX10_takeFrom 28 = .ok (.iconst 1, 1) := by decide +kernel
theorem dX10_takeFrom_29 : decode cX10_takeFrom 29 = .ok (.iastore, 1) := by decide +kernel
theorem dX10_takeFrom_30 : decode cX10_takeFrom 30 = .ok (.aload_n 0, 1) := by decide +kernel
theorem dX10_takeFrom_31 : decode cX10_takeFrom 31 = .ok (.aload_n 1, 1) := by decide +kernel
theorem dX10_takeFrom_32 : decode cX10_takeFrom 32 = .ok (.getfield 9, 3) := by decide +kernel
theorem dX10_takeFrom_35 : decode cX10_takeFrom 35 = .ok (.iload_n 2, 1) := by decide +kernel
theorem dX10_takeFrom_36 : decode cX10_takeFrom 36 = .ok (.iaload, 1) := by decide +kernel
theorem dX10_takeFrom_37 : decode cX10_takeFrom 37 = .ok (.aload_n 1, 1) := by decide +kernel
theorem dX10_takeFrom_38 : decode cX10_takeFrom 38 = .ok (.getfield 15, 3) := by decide +kernel
theorem dX10_takeFrom_41 : decode cX10_takeFrom 41 = .ok (.iload_n 2, 1) := by decide +kernel
theorem dX10_takeFrom_42 : decode cX10_takeFrom 42 = .ok (.iaload, 1) := by decide +kernel
theorem dX10_takeFrom_43 : decode cX10_takeFrom 43 = .ok (.aload_n 1, 1) := by decide +kernel
theorem dX10_takeFrom_44 : decode cX10_takeFrom 44 = .ok (.getfield 24, 3) := by decide +kernel
theorem dX10_takeFrom_47 : decode cX10_takeFrom 47 = .ok (.iload_n 2, 1) := by decide +kernel
theorem dX10_takeFrom_48 : decode cX10_takeFrom 48 = .ok (.iaload, 1) := by decide +kernel
theorem dX10_takeFrom_49 : decode cX10_takeFrom 49 = .ok (.aload_n 1, 1) := by decide +kernel
theorem dX10_takeFrom_50 : decode cX10_takeFrom 50 = .ok (.getfield 27, 3) := by decide +kernel
theorem dX10_takeFrom_53 : decode cX10_takeFrom 53 = .ok (.iload_n 2, 1) := by decide +kernel
theorem dX10_takeFrom_54 : decode cX10_takeFrom 54 = .ok (.laload, 1) := by decide +kernel
theorem dX10_takeFrom_55 : decode cX10_takeFrom 55 = .ok (.invokevirtual 65, 3) := by decide +kernel
theorem dX10_takeFrom_58 : decode cX10_takeFrom 58 = .ok (.aload_n 0, 1) := by decide +kernel
theorem dX10_takeFrom_59 : decode cX10_takeFrom 59 = .ok (.getfield 18, 3) := by decide +kernel
theorem dX10_takeFrom_62 : decode cX10_takeFrom 62 = .ok (.aload_n 0, 1) := by decide +kernel
theorem dX10_takeFrom_63 : decode cX10_takeFrom 63 = .ok (.getfield 34, 3) := by decide +kernel
theorem dX10_takeFrom_66 : decode cX10_takeFrom 66 = .ok (.iconst 1, 1) := by decide +kernel
theorem dX10_takeFrom_67 : decode cX10_takeFrom 67 = .ok (.isub, 1) := by decide +kernel
theorem dX10_takeFrom_68 : decode cX10_takeFrom 68 = .ok (.iload_n 3, 1) := by decide +kernel
theorem dX10_takeFrom_69 : decode cX10_takeFrom 69 = .ok (.iastore, 1) := by decide +kernel
theorem dX10_takeFrom_70 : decode cX10_takeFrom 70 = .ok (.aload_n 0, 1) := by decide +kernel
theorem dX10_takeFrom_71 : decode cX10_takeFrom 71 = .ok (.getfield 21, 3) := by decide +kernel
theorem dX10_takeFrom_74 : decode cX10_takeFrom 74 = .ok (.aload_n 0, 1) := by decide +kernel
theorem dX10_takeFrom_75 : decode cX10_takeFrom 75 = .ok (.getfield 34, 3) := by decide +kernel
theorem dX10_takeFrom_78 : decode cX10_takeFrom 78 = .ok (.iconst 1, 1) := by decide +kernel
theorem dX10_takeFrom_79 : decode cX10_takeFrom 79 = .ok (.isub, 1) := by decide +kernel
theorem dX10_takeFrom_80 : decode cX10_takeFrom 80 = .ok (.iload_n 3, 1) := by decide +kernel
theorem dX10_takeFrom_81 : decode cX10_takeFrom 81 = .ok (.ifCond .ge 7, 3) := by decide +kernel
theorem dX10_takeFrom_84 : decode cX10_takeFrom 84 = .ok (.iconst 1, 1) := by decide +kernel
theorem dX10_takeFrom_85 : decode cX10_takeFrom 85 = .ok (.goto 11, 3) := by decide +kernel
theorem dX10_takeFrom_88 : decode cX10_takeFrom 88 = .ok (.aload_n 0, 1) := by decide +kernel
theorem dX10_takeFrom_89 : decode cX10_takeFrom 89 = .ok (.getfield 21, 3) := by decide +kernel
theorem dX10_takeFrom_92 : decode cX10_takeFrom 92 = .ok (.iload_n 3, 1) := by decide +kernel
theorem dX10_takeFrom_93 : decode cX10_takeFrom 93 = .ok (.iaload, 1) := by decide +kernel
theorem dX10_takeFrom_94 : decode cX10_takeFrom 94 = .ok (.iconst 1, 1) := by decide +kernel
theorem dX10_takeFrom_95 : decode cX10_takeFrom 95 = .ok (.iadd, 1) := by decide +kernel
theorem dX10_takeFrom_96 : decode cX10_takeFrom 96 = .ok (.iastore, 1) := by decide +kernel
theorem dX10_takeFrom_97 : decode cX10_takeFrom 97 = .ok (.aload_n 0, 1) := by decide +kernel
theorem dX10_takeFrom_98 : decode cX10_takeFrom 98 = .ok (.getfield 34, 3) := by decide +kernel
theorem dX10_takeFrom_101 : decode cX10_takeFrom 101 = .ok (.iconst 1, 1) := by decide +kernel
theorem dX10_takeFrom_102 : decode cX10_takeFrom 102 = .ok (.isub, 1) := by decide +kernel
theorem dX10_takeFrom_103 : decode cX10_takeFrom 103 = .ok (.ireturn, 1) := by decide +kernel
theorem dX11_back_0 : decode cX11_back 0 = .ok (.aload_n 0, 1) := by decide +kernel
theorem dX11_back_1 : decode cX11_back 1 = .ok (.getfield 53, 3) := by decide +kernel
theorem dX11_back_4 : decode cX11_back 4 = .ok (.iload_n 1, 1) := by decide +kernel
theorem dX11_back_5 : decode cX11_back 5 = .ok (.invokevirtual 266, 3) := by decide +kernel
theorem dX11_back_8 : decode cX11_back 8 = .ok (.istore_n 3, 1) := by decide +kernel
theorem dX11_back_9 : decode cX11_back 9 = .ok (.iload_n 3, 1) := by decide +kernel
theorem dX11_back_10 : decode cX11_back 10 = .ok (.iconst (-1), 1) := by decide +kernel
theorem dX11_back_11 : decode cX11_back 11 = .ok (.if_icmp .eq 30, 3) := by decide +kernel
theorem dX11_back_14 : decode cX11_back 14 = .ok (.aload_n 0, 1) := by decide +kernel
theorem dX11_back_15 : decode cX11_back 15 = .ok (.getfield 53, 3) := by decide +kernel
theorem dX11_back_18 : decode cX11_back 18 = .ok (.invokevirtual 135, 3) := by decide +kernel
theorem dX11_back_21 : decode cX11_back 21 = .ok (.ifCond .ne 20, 3) := by decide +kernel
theorem dX11_back_24 : decode cX11_back 24 = .ok (.iload_n 1, 1) := by decide +kernel
theorem dX11_back_25 : decode cX11_back 25 = .ok (.iload_n 2, 1) := by decide +kernel
theorem dX11_back_26 : decode cX11_back 26 = .ok (.if_icmp .eq 15, 3) := by decide +kernel
theorem dX11_back_29 : decode cX11_back 29 = .ok (.aload_n 0, 1) := by decide +kernel
theorem dX11_back_30 : decode cX11_back 30 = .ok (.getfield 53, 3) := by decide +kernel
theorem dX11_back_33 : decode cX11_back 33 = .ok (.iload_n 2, 1) := by decide +kernel
theorem dX11_back_34 : decode cX11_back 34 = .ok (.iload_n 1, 1) := by decide +kernel
theorem dX11_back_35 : decode cX11_back 35 = .ok (.invokevirtual 259, 3) := by decide +kernel
theorem dX11_back_38 : decode cX11_back 38 = .ok (.ifCond .ne 5, 3) := by decide +kernel
theorem dX11_back_41 : decode cX11_back 41 = .ok (.iconst (-1), 1) := by decide +kernel
theorem dX11_back_42 : decode cX11_back 42 = .ok (.ireturn, 1) := by decide +kernel
theorem dX11_back_43 : decode cX11_back 43 = .ok (.aload_n 0, 1) := by decide +kernel
theorem dX11_back_44 : decode cX11_back 44 = .ok (.aload_n 0, 1) := by decide +kernel
theorem dX11_back_45 : decode cX11_back 45 = .ok (.getfield 53, 3) := by decide +kernel
theorem dX11_back_48 : decode cX11_back 48 = .ok (.iload_n 1, 1) := by decide +kernel
theorem dX11_back_49 : decode cX11_back 49 = .ok (.invokevirtual 168, 3) := by decide +kernel
theorem dX11_back_52 : decode cX11_back 52 = .ok (.iload_n 3, 1) := by decide +kernel
theorem dX11_back_53 : decode cX11_back 53 = .ok (.iload_n 2, 1) := by decide +kernel
theorem dX11_back_54 : decode cX11_back 54 = .ok (.iload_n 2, 1) := by decide +kernel
theorem dX11_back_55 : decode cX11_back 55 = .ok (.iconst (-1), 1) := by decide +kernel
theorem dX11_back_56 : decode cX11_back 56 = .ok (.invokevirtual 262, 3) := by decide +kernel
theorem dX11_back_59 : decode cX11_back 59 = .ok (.ireturn, 1) := by decide +kernel
theorem dX11_base_0 : decode cX11_base 0 = .ok (.aload_n 0, 1) := by decide +kernel
theorem dX11_base_1 : decode cX11_base 1 = .ok (.iload_n 1, 1) := by decide +kernel
theorem dX11_base_2 : decode cX11_base 2 = .ok (.iload_n 2, 1) := by decide +kernel
theorem dX11_base_3 : decode cX11_base 3 = .ok (.invokevirtual 255, 3) := by decide +kernel
theorem dX11_base_6 : decode cX11_base 6 = .ok (.ireturn, 1) := by decide +kernel
theorem dX11_begin_0 : decode cX11_begin 0 = .ok (.aload_n 0, 1) := by decide +kernel
theorem dX11_begin_1 : decode cX11_begin 1 = .ok (.getfield 53, 3) := by decide +kernel
theorem dX11_begin_4 : decode cX11_begin 4 = .ok (.iload_n 1, 1) := by decide +kernel
theorem dX11_begin_5 : decode cX11_begin 5 = .ok (.invokevirtual 168, 3) := by decide +kernel
theorem dX11_begin_8 : decode cX11_begin 8 = .ok (.astore_n 2, 1) := by decide +kernel
theorem dX11_begin_9 : decode cX11_begin 9 = .ok (.aload_n 0, 1) := by decide +kernel
theorem dX11_begin_10 : decode cX11_begin 10 = .ok (.getfield 60, 3) := by decide +kernel
theorem dX11_begin_13 : decode cX11_begin 13 = .ok (.getfield 208, 3) := by decide +kernel
theorem dX11_begin_16 : decode cX11_begin 16 = .ok (.ifCond .ne 7, 3) := by decide +kernel
theorem dX11_begin_19 : decode cX11_begin 19 = .ok (.aload_n 2, 1) := by decide +kernel
theorem dX11_begin_20 : decode cX11_begin 20 = .ok (.ifnonnull 5, 3) := by decide +kernel
theorem dX11_begin_23 : decode cX11_begin 23 = .ok (.iconst 0, 1) := by decide +kernel
theorem dX11_begin_24 : decode cX11_begin 24 = .ok (.ireturn, 1) := by decide +kernel
theorem dX11_begin_25 : decode cX11_begin 25 = .ok (.aload_n 0, 1) := by decide +kernel
theorem dX11_begin_26 : decode cX11_begin 26 = .ok (.getfield 60, 3) := by decide +kernel
theorem dX11_begin_29 : decode cX11_begin 29 = .ok (.iconst 1, 1) := by decide +kernel
theorem dX11_begin_30 : decode cX11_begin 30 = .ok (.putfield 208, 3) := by decide +kernel
theorem dX11_begin_33 : decode cX11_begin 33 = .ok (.aload_n 0, 1) := by decide +kernel
theorem dX11_begin_34 : decode cX11_begin 34 = .ok (.getfield 60, 3) := by decide +kernel
theorem dX11_begin_37 : decode cX11_begin 37 = .ok (.iload_n 1, 1) := by decide +kernel
theorem dX11_begin_38 : decode cX11_begin 38 = .ok (.putfield 211, 3) := by decide +kernel
theorem dX11_begin_41 : decode cX11_begin 41 = .ok (.aload_n 0, 1) := by decide +kernel
theorem dX11_begin_42 : decode cX11_begin 42 = .ok (.getfield 60, 3) := by decide +kernel
theorem dX11_begin_45 : decode cX11_begin 45 = .ok (.getfield 214, 3) := by decide +kernel
theorem dX11_begin_48 : decode cX11_begin 48 = .ok (.aload_n 2, 1) := by decide +kernel
theorem dX11_begin_49 : decode cX11_begin 49 = .ok (.invokevirtual 188, 3) := by decide +kernel
theorem dX11_begin_52 : decode cX11_begin 52 = .ok (.iconst 1, 1) := by decide +kernel
theorem dX11_begin_53 : decode cX11_begin 53 = .ok (.ireturn, 1) := by decide +kernel
theorem dX11_breaks_0 : decode cX11_breaks 0 = .ok (.aload_n 0, 1) := by decide +kernel
theorem dX11_breaks_1 : decode cX11_breaks 1 = .ok (.invokevirtual 113, 3) := by decide +kernel
theorem dX11_breaks_4 : decode cX11_breaks 4 = .ok (.iconst (-1), 1) := by decide +kernel
theorem dX11_breaks_5 : decode cX11_breaks 5 = .ok (.if_icmp .ne 21, 3) := by decide +kernel
theorem dX11_breaks_8 : decode cX11_breaks 8 = .ok (.aload_n 0, 1) := by decide +kernel
theorem dX11_breaks_9 : decode cX11_breaks 9 = .ok (.getfield 33, 3) := by decide +kernel
theorem dX11_breaks_12 : decode cX11_breaks 12 = .ok (.aload_n 0, 1) := by decide +kernel
theorem dX11_breaks_13 : decode cX11_breaks 13 = .ok (.getfield 19, 3) := by decide +kernel
theorem dX11_breaks_16 : decode cX11_breaks 16 = .ok (.aload_n 0, 1) := by decide +kernel
theorem dX11_breaks_17 : decode cX11_breaks 17 = .ok (.getfield 39, 3) := by decide +kernel
theorem dX11_breaks_20 : decode cX11_breaks 20 = .ok (.invokevirtual 124, 3) := by decide +kernel
theorem dX11_breaks_23 : decode cX11_breaks 23 = .ok (.goto 4, 3) := by decide +kernel
theorem dX11_breaks_26 : decode cX11_breaks 26 = .ok (.iconst (-1), 1) := by decide +kernel
theorem dX11_breaks_27 : decode cX11_breaks 27 = .ok (.ireturn, 1) := by decide +kernel
theorem dX11_carry_0 : decode cX11_carry 0 = .ok (.aload_n 0, 1) := by decide +kernel
theorem dX11_carry_1 : decode cX11_carry 1 = .ok (.getfield 53, 3) := by decide +kernel
theorem dX11_carry_4 : decode cX11_carry 4 = .ok (.iload_n 1, 1) := by decide +kernel
theorem dX11_carry_5 : decode cX11_carry 5 = .ok (.invokevirtual 266, 3) := by decide +kernel
theorem dX11_carry_8 : decode cX11_carry 8 = .ok (.istore_n 3, 1) := by decide +kernel
theorem dX11_carry_9 : decode cX11_carry 9 = .ok (.iload_n 3, 1) := by decide +kernel
theorem dX11_carry_10 : decode cX11_carry 10 = .ok (.iconst (-1), 1) := by decide +kernel
theorem dX11_carry_11 : decode cX11_carry 11 = .ok (.if_icmp .eq 25, 3) := by decide +kernel
theorem dX11_carry_14 : decode cX11_carry 14 = .ok (.aload_n 0, 1) := by decide +kernel
theorem dX11_carry_15 : decode cX11_carry 15 = .ok (.getfield 53, 3) := by decide +kernel
theorem dX11_carry_18 : decode cX11_carry 18 = .ok (.invokevirtual 135, 3) := by decide +kernel
theorem dX11_carry_21 : decode cX11_carry 21 = .ok (.ifCond .ne 15, 3) := by decide +kernel
theorem dX11_carry_24 : decode cX11_carry 24 = .ok (.aload_n 0, 1) := by decide +kernel
theorem dX11_carry_25 : decode cX11_carry 25 = .ok (.getfield 53, 3) := by decide +kernel
theorem dX11_carry_28 : decode cX11_carry 28 = .ok (.iload_n 1, 1) := by decide +kernel
theorem dX11_carry_29 : decode cX11_carry 29 = .ok (.iload_n 2, 1) := by decide +kernel
theorem dX11_carry_30 : decode cX11_carry 30 = .ok (.invokevirtual 269, 3) := by decide +kernel
theorem dX11_carry_33 : decode cX11_carry 33 = .ok (.ifCond .ne 5, 3) := by decide +kernel
theorem dX11_carry_36 : decode cX11_carry 36 = .ok (.iconst (-1), 1) := by decide +kernel
theorem dX11_carry_37 : decode cX11_carry 37 = .ok (.ireturn, 1) := by decide +kernel
theorem dX11_carry_38 : decode cX11_carry 38 = .ok (.aload_n 0, 1) := by decide +kernel
theorem dX11_carry_39 : decode cX11_carry 39 = .ok (.aload_n 0, 1) := by decide +kernel
theorem dX11_carry_40 : decode cX11_carry 40 = .ok (.getfield 53, 3) := by decide +kernel
theorem dX11_carry_43 : decode cX11_carry 43 = .ok (.iload_n 3, 1) := by decide +kernel
theorem dX11_carry_44 : decode cX11_carry 44 = .ok (.invokevirtual 168, 3) := by decide +kernel
theorem dX11_carry_47 : decode cX11_carry 47 = .ok (.iload_n 1, 1) := by decide +kernel
theorem dX11_carry_48 : decode cX11_carry 48 = .ok (.iload_n 2, 1) := by decide +kernel
theorem dX11_carry_49 : decode cX11_carry 49 = .ok (.iload_n 2, 1) := by decide +kernel
theorem dX11_carry_50 : decode cX11_carry 50 = .ok (.iconst (-1), 1) := by decide +kernel
theorem dX11_carry_51 : decode cX11_carry 51 = .ok (.invokevirtual 262, 3) := by decide +kernel
theorem dX11_carry_54 : decode cX11_carry 54 = .ok (.ireturn, 1) := by decide +kernel
theorem dX11_close_0 : decode cX11_close 0 = .ok (.aload_n 0, 1) := by decide +kernel
theorem dX11_close_1 : decode cX11_close 1 = .ok (.getfield 60, 3) := by decide +kernel
theorem dX11_close_4 : decode cX11_close 4 = .ok (.getfield 208, 3) := by decide +kernel
theorem dX11_close_7 : decode cX11_close 7 = .ok (.ifCond .eq 35, 3) := by decide +kernel
theorem dX11_close_10 : decode cX11_close 10 = .ok (.aload_n 0, 1) := by decide +kernel
theorem dX11_close_11 : decode cX11_close 11 = .ok (.getfield 53, 3) := by decide +kernel
theorem dX11_close_14 : decode cX11_close 14 = .ok (.invokevirtual 135, 3) := by decide +kernel
theorem dX11_close_17 : decode cX11_close 17 = .ok (.ifCond .ne 25, 3) := by decide +kernel
theorem dX11_close_20 : decode cX11_close 20 = .ok (.aload_n 0, 1) := by decide +kernel
theorem dX11_close_21 : decode cX11_close 21 = .ok (.getfield 60, 3) := by decide +kernel
theorem dX11_close_24 : decode cX11_close 24 = .ok (.getfield 214, 3) := by decide +kernel
theorem dX11_close_27 : decode cX11_close 27 = .ok (.aload_n 0, 1) := by decide +kernel
theorem dX11_close_28 : decode cX11_close 28 = .ok (.getfield 19, 3) := by decide +kernel
theorem dX11_close_31 : decode cX11_close 31 = .ok (.aload_n 0, 1) := by decide +kernel
theorem dX11_close_32 : decode cX11_close 32 = .ok (.getfield 39, 3) := by decide +kernel
theorem dX11_close_35 : decode cX11_close 35 = .ok (.invokevirtual 124, 3) := by decide +kernel
theorem dX11_close_38 : decode cX11_close 38 = .ok (.iconst (-1), 1) := by decide +kernel
theorem dX11_close_39 : decode cX11_close 39 = .ok (.if_icmp .eq 5, 3) := by decide +kernel
theorem dX11_close_42 : decode cX11_close 42 = .ok (.iconst (-1), 1) := by decide +kernel
theorem dX11_close_43 : decode cX11_close 43 = .ok (.ireturn, 1) := by decide +kernel
theorem dX11_close_44 : decode cX11_close 44 = .ok (.aload_n 0, 1) := by decide +kernel
theorem dX11_close_45 : decode cX11_close 45 = .ok (.getfield 53, 3) := by decide +kernel
theorem dX11_close_48 : decode cX11_close 48 = .ok (.aload_n 0, 1) := by decide +kernel
theorem dX11_close_49 : decode cX11_close 49 = .ok (.getfield 60, 3) := by decide +kernel
theorem dX11_close_52 : decode cX11_close 52 = .ok (.getfield 214, 3) := by decide +kernel
theorem dX11_close_55 : decode cX11_close 55 = .ok (.aload_n 0, 1) := by decide +kernel
theorem dX11_close_56 : decode cX11_close 56 = .ok (.getfield 60, 3) := by decide +kernel
theorem dX11_close_59 : decode cX11_close 59 = .ok (.getfield 211, 3) := by decide +kernel
theorem dX11_close_62 : decode cX11_close 62 = .ok (.iconst (-1), 1) := by decide +kernel
theorem dX11_close_63 : decode cX11_close 63 = .ok (.invokevirtual 204, 3) := by decide +kernel
theorem dX11_close_66 : decode cX11_close 66 = .ok (.istore_n 1, 1) := by decide +kernel
theorem dX11_close_67 : decode cX11_close 67 = .ok (.aload_n 0, 1) := by decide +kernel
theorem dX11_close_68 : decode cX11_close 68 = .ok (.iload_n 1, 1) := by decide +kernel
theorem dX11_close_69 : decode cX11_close 69 = .ok (.invokevirtual 217, 3) := by decide +kernel
theorem dX11_close_72 : decode cX11_close 72 = .ok (.iload_n 1, 1) := by decide +kernel
theorem dX11_close_73 : decode cX11_close 73 = .ok (.ireturn, 1) := by decide +kernel
theorem dX11_comeOfText_0 : decode cX11_comeOfText 0 = .ok (.aload_n 0, 1) := by decide +kernel
theorem dX11_comeOfText_1 : decode cX11_comeOfText 1 = .ok (.getfield 181, 3) := by decide +kernel
theorem dX11_comeOfText_4 : decode cX11_comeOfText 4 = .ok (.aload_n 0, 1) := by decide +kernel
theorem dX11_comeOfText_5 : decode cX11_comeOfText 5 = .ok (.getfield 33, 3) := by decide +kernel
theorem dX11_comeOfText_8 : decode cX11_comeOfText 8 = .ok (.getfield 172, 3) := by decide +kernel
theorem dX11_comeOfText_11 : decode cX11_comeOfText 11 = .ok (.iadd, 1) := by decide +kernel
theorem dX11_comeOfText_12 : decode cX11_comeOfText 12 = .ok (.aload_n 0, 1) := by decide +kernel
theorem dX11_comeOfText_13 : decode cX11_comeOfText 13 = .ok (.getfield 46, 3) := by decide +kernel
theorem dX11_comeOfText_16 : decode cX11_comeOfText 16 = .ok (.invokevirtual 184, 3) := by decide +kernel
theorem dX11_comeOfText_19 : decode cX11_comeOfText 19 = .ok (.isub, 1) := by decide +kernel
theorem dX11_comeOfText_20 : decode cX11_comeOfText 20 = .ok (.sipush 150, 3) := by decide +kernel
theorem dX11_comeOfText_23 : decode cX11_comeOfText 23 = .ok (.if_icmp .le 5, 3) := by decide +kernel
theorem dX11_comeOfText_26 : decode cX11_comeOfText 26 = .ok (.iconst (-1), 1) := by decide +kernel
theorem dX11_comeOfText_27 : decode cX11_comeOfText 27 = .ok (.ireturn, 1) := by decide +kernel
theorem dX11_comeOfText_28 : decode cX11_comeOfText 28 = .ok (.aload_n 0, 1) := by decide +kernel
theorem dX11_comeOfText_29 : decode cX11_comeOfText 29 = .ok (.getfield 53, 3) := by decide +kernel
theorem dX11_comeOfText_32 : decode cX11_comeOfText 32 = .ok (.getfield 187, 3) := by decide +kernel
theorem dX11_comeOfText_35 : decode cX11_comeOfText 35 = .ok (.istore_n 2, 1) := by decide +kernel
theorem dX11_comeOfText_36 : decode cX11_comeOfText 36 = .ok (.aload_n 0, 1) := by decide +kernel
theorem dX11_comeOfText_37 : decode cX11_comeOfText 37 = .ok (.getfield 81, 3) := by decide +kernel
theorem dX11_comeOfText_40 : decode cX11_comeOfText 40 = .ok (.aload_n 0, 1) := by decide +kernel
theorem dX11_comeOfText_41 : decode cX11_comeOfText 41 = .ok (.getfield 33, 3) := by decide +kernel
theorem dX11_comeOfText_44 : decode cX11_comeOfText 44 = .ok (.invokevirtual 188, 3) := by decide +kernel
theorem dX11_comeOfText_47 : decode cX11_comeOfText 47 = .ok (.iconst 0, 1) := by decide +kernel
theorem dX11_comeOfText_48 : decode cX11_comeOfText 48 = .ok (.istore_n 3, 1) := by decide +kernel
theorem dX11_comeOfText_49 : decode cX11_comeOfText 49 = .ok (.iload_n 3, 1) := by decide +kernel
theorem dX11_comeOfText_50 : decode cX11_comeOfText 50 = .ok (.aload_n 0, 1) := by decide +kernel
theorem dX11_comeOfText_51 : decode cX11_comeOfText 51 = .ok (.getfield 81, 3) := by decide +kernel
theorem dX11_comeOfText_54 : decode cX11_comeOfText 54 = .ok (.getfield 172, 3) := by decide +kernel
theorem dX11_comeOfText_57 : decode cX11_comeOfText 57 = .ok (.if_icmp .ge 86, 3) := by decide +kernel
theorem dX11_comeOfText_60 : decode cX11_comeOfText 60 = .ok (.aload_n 0, 1) := by decide +kernel
theorem dX11_comeOfText_61 : decode cX11_comeOfText 61 = .ok (.getfield 46, 3) := by decide +kernel
theorem dX11_comeOfText_64 : decode cX11_comeOfText 64 = .ok (.iload_n 3, 1) := by decide +kernel
theorem dX11_comeOfText_65 : decode cX11_comeOfText 65 = .ok (.invokevirtual 162, 3) := by decide +kernel
theorem dX11_comeOfText_68 : decode cX11_comeOfText 68 = .ok (.istore 4, 2) := by decide +kernel
theorem dX11_comeOfText_70 : decode cX11_comeOfText 70 = .ok (.aload_n 0, 1) := by decide +kernel
theorem dX11_comeOfText_71 : decode cX11_comeOfText 71 = .ok (.getfield 81, 3) := by decide +kernel
theorem dX11_comeOfText_74 : decode cX11_comeOfText 74 = .ok (.getfield 192, 3) := by decide +kernel
theorem dX11_comeOfText_77 : decode cX11_comeOfText 77 = .ok (.iload_n 3, 1) := by decide +kernel
theorem dX11_comeOfText_78 : decode cX11_comeOfText 78 = .ok (.iload 4, 2) := by decide +kernel
theorem dX11_comeOfText_80 : decode cX11_comeOfText 80 = .ok (.iconst (-1), 1) := by decide +kernel
theorem dX11_comeOfText_81 : decode cX11_comeOfText 81 = .ok (.if_icmp .ne 11, 3) := by decide +kernel
theorem dX11_comeOfText_84 : decode cX11_comeOfText 84 = .ok (.aload_n 0, 1) := by decide +kernel
theorem dX11_comeOfText_85 : decode cX11_comeOfText 85 = .ok (.iload_n 2, 1) := by decide +kernel
theorem dX11_comeOfText_86 : decode cX11_comeOfText 86 = .ok (.invokevirtual 195, 3) := by decide +kernel
theorem dX11_comeOfText_89 : decode cX11_comeOfText 89 = .ok (.goto 5, 3) := by decide +kernel
theorem dX11_comeOfText_92 : decode cX11_comeOfText 92 = .ok (.iload 4, 2) := by decide +kernel
theorem dX11_comeOfText_94 : decode cX11_comeOfText 94 = .ok (.iastore, 1) := by decide +kernel
theorem dX11_comeOfText_95 : decode cX11_comeOfText 95 = .ok (.aload_n 0, 1) := by decide +kernel
theorem dX11_comeOfText_96 : decode cX11_comeOfText 96 = .ok (.getfield 81, 3) := by decide +kernel
theorem dX11_comeOfText_99 : decode cX11_comeOfText 99 = .ok (.getfield 198, 3) := by decide +kernel
theorem dX11_comeOfText_102 : decode cX11_comeOfText 102 = .ok (.iload_n 3, 1) := by decide +kernel
theorem dX11_comeOfText_103 : decode cX11_comeOfText 103 = .ok (.aload_n 0, 1) := by decide +kernel
theorem dX11_comeOfText_104 : decode cX11_comeOfText 104 = .ok (.getfield 81, 3) := by decide +kernel
theorem dX11_comeOfText_107 : decode cX11_comeOfText 107 = .ok (.getfield 201, 3) := by decide +kernel
theorem dX11_comeOfText_110 : decode cX11_comeOfText 110 = .ok (.iload_n 3, 1) := by decide +kernel
theorem dX11_comeOfText_111 : decode cX11_comeOfText 111 = .ok (.iaload, 1) := by decide +kernel
theorem dX11_comeOfText_112 : decode cX11_comeOfText 112 = .ok (.ifCond .ge 7, 3) := by decide +kernel
theorem dX11_comeOfText_115 : decode cX11_comeOfText 115 = .ok (.iconst (-1), 1) := by decide +kernel
theorem dX11_comeOfText_116 : decode cX11_comeOfText 116 = .ok (.goto 20, 3) := by decide +kernel
theorem dX11_comeOfText_119 : decode cX11_comeOfText 119 = .ok (.aload_n 0, 1) := by decide +kernel
theorem dX11_comeOfText_120 : decode cX11_comeOfText 120 = .ok (.getfield 81, 3) := by decide +kernel
theorem dX11_comeOfText_123 : decode cX11_comeOfText 123 = .ok (.getfield 192, 3) := by decide +kernel
theorem dX11_comeOfText_126 : decode cX11_comeOfText 126 = .ok (.aload_n 0, 1) := by decide +kernel
theorem dX11_comeOfText_127 : decode cX11_comeOfText 127 = .ok (.getfield 81, 3) := by decide +kernel
theorem dX11_comeOfText_130 : decode cX11_comeOfText 130 = .ok (.getfield 201, 3) := by decide +kernel
theorem dX11_comeOfText_133 : decode cX11_comeOfText 133 = .ok (.iload_n 3, 1) := by decide +kernel
theorem dX11_comeOfText_134 : decode cX11_comeOfText 134 = .ok (.iaload, 1) := by decide +kernel
theorem dX11_comeOfText_135 : decode cX11_comeOfText 135 = .ok (.iaload, 1) := by decide +kernel
theorem dX11_comeOfText_136 : decode cX11_comeOfText 136 = .ok (.iastore, 1) := by decide +kernel
theorem dX11_comeOfText_137 : decode cX11_comeOfText 137 = .ok (.iinc 3 1, 3) := by decide +kernel
theorem dX11_comeOfText_140 : decode cX11_comeOfText 140 = .ok (.goto (-91), 3) := by decide +kernel
theorem dX11_comeOfText_143 : decode cX11_comeOfText 143 = .ok (.aload_n 0, 1) := by decide +kernel
theorem dX11_comeOfText_144 : decode cX11_comeOfText 144 = .ok (.getfield 12, 3) := by decide +kernel
theorem dX11_comeOfText_147 : decode cX11_comeOfText 147 = .ok (.iconst 0, 1) := by decide +kernel
theorem dX11_comeOfText_148 : decode cX11_comeOfText 148 = .ok (.putfield 109, 3) := by decide +kernel
theorem dX11_comeOfText_151 : decode cX11_comeOfText 151 = .ok (.aload_n 0, 1) := by decide +kernel
theorem dX11_comeOfText_152 : decode cX11_comeOfText 152 = .ok (.getfield 53, 3) := by decide +kernel
theorem dX11_comeOfText_155 : decode cX11_comeOfText 155 = .ok (.aload_n 0, 1) := by decide +kernel
theorem dX11_comeOfText_156 : decode cX11_comeOfText 156 = .ok (.getfield 81, 3) := by decide +kernel
theorem dX11_comeOfText_159 : decode cX11_comeOfText 159 = .ok (.iload_n 1, 1) := by decide +kernel
theorem dX11_comeOfText_160 : decode cX11_comeOfText 160 = .ok (.iconst (-1), 1) := by decide +kernel
theorem dX11_comeOfText_161 : decode cX11_comeOfText 161 = .ok (.invokevirtual 204, 3) := by decide +kernel
theorem dX11_comeOfText_164 : decode cX11_comeOfText 164 = .ok (.ireturn, 1) := by decide +kernel
theorem dX11_count_0 : decode cX11_count 0 = .ok (.iload_n 1, 1) := by decide +kernel
theorem dX11_count_1 : decode cX11_count 1 = .ok (.tableswitch 92 0 5 #[39, 47, 55, 60, 68, 84], 39) := by decide +kernel
theorem dX11_count_40 : decode cX11_count 40 = .ok (.aload_n 0, 1) := by decide +kernel
theorem dX11_count_41 : decode cX11_count 41 = .ok (.getfield 19, 3) := by decide +kernel
theorem dX11_count_44 : decode cX11_count 44 = .ok (.getfield 121, 3) := by decide +kernel
theorem dX11_count_47 : decode cX11_count 47 = .ok (.ireturn, 1) := by decide +kernel
theorem dX11_count_48 : decode cX11_count 48 = .ok (.aload_n 0, 1) := by decide +kernel
theorem dX11_count_49 : decode cX11_count 49 = .ok (.getfield 53, 3) := by decide +kernel
theorem dX11_count_52 : decode cX11_count 52 = .ok (.getfield 187, 3) := by decide +kernel
theorem dX11_count_55 : decode cX11_count 55 = .ok (.ireturn, 1) := by decide +kernel
theorem dX11_count_56 : decode cX11_count 56 = .ok (.aload_n 0, 1) := by decide +kernel
theorem dX11_count_57 : decode cX11_count 57 = .ok (.getfield 181, 3) := by decide +kernel
theorem dX11_count_60 : decode cX11_count 60 = .ok (.ireturn, 1) := by decide +kernel
theorem dX11_count_61 : decode cX11_count 61 = .ok (.aload_n 0, 1) := by decide +kernel
theorem dX11_count_62 : decode cX11_count 62 = .ok (.getfield 12, 3) := by decide +kernel
theorem dX11_count_65 : decode cX11_count 65 = .ok (.getfield 109, 3) := by decide +kernel
theorem dX11_count_68 : decode cX11_count 68 = .ok (.ireturn, 1) := by decide +kernel
theorem dX11_count_69 : decode cX11_count 69 = .ok (.aload_n 0, 1) := by decide +kernel
theorem dX11_count_70 : decode cX11_count 70 = .ok (.getfield 60, 3) := by decide +kernel
theorem dX11_count_73 : decode cX11_count 73 = .ok (.getfield 208, 3) := by decide +kernel
theorem dX11_count_76 : decode cX11_count 76 = .ok (.ifCond .eq 7, 3) := by decide +kernel
theorem dX11_count_79 : decode cX11_count 79 = .ok (.iconst 1, 1) := by decide +kernel
theorem dX11_count_80 : decode cX11_count 80 = .ok (.goto 4, 3) := by decide +kernel
theorem dX11_count_83 : decode cX11_count 83 = .ok (.iconst 0, 1) := by decide +kernel
theorem dX11_count_84 : decode cX11_count 84 = .ok (.ireturn, 1) := by decide +kernel
theorem dX11_count_85 : decode cX11_count 85 = .ok (.aload_n 0, 1) := by decide +kernel
theorem dX11_count_86 : decode cX11_count 86 = .ok (.getfield 67, 3) := by decide +kernel
theorem dX11_count_89 : decode cX11_count 89 = .ok (.getfield 316, 3) := by decide +kernel
theorem dX11_count_92 : decode cX11_count 92 = .ok (.ireturn, 1) := by decide +kernel
theorem dX11_count_93 : decode cX11_count 93 = .ok (.iconst (-1), 1) := by decide +kernel
theorem dX11_count_94 : decode cX11_count 94 = .ok (.ireturn, 1) := by decide +kernel
theorem dX11_drop_0 : decode cX11_drop 0 = .ok (.aload_n 0, 1) := by decide +kernel
theorem dX11_drop_1 : decode cX11_drop 1 = .ok (.getfield 60, 3) := by decide +kernel
theorem dX11_drop_4 : decode cX11_drop 4 = .ok (.getfield 208, 3) := by decide +kernel
theorem dX11_drop_7 : decode cX11_drop 7 = .ok (.ifCond .ne 5, 3) := by decide +kernel
theorem dX11_drop_10 : decode cX11_drop 10 = .ok (.iconst 0, 1) := by decide +kernel
theorem dX11_drop_11 : decode cX11_drop 11 = .ok (.ireturn, 1) := by decide +kernel
theorem dX11_drop_12 : decode cX11_drop 12 = .ok (.aload_n 0, 1) := by decide +kernel
theorem dX11_drop_13 : decode cX11_drop 13 = .ok (.iconst (-1), 1) := by decide +kernel
theorem dX11_drop_14 : decode cX11_drop 14 = .ok (.invokevirtual 217, 3) := by decide +kernel
theorem dX11_drop_17 : decode cX11_drop 17 = .ok (.iconst 1, 1) := by decide +kernel
theorem dX11_drop_18 : decode cX11_drop 18 = .ok (.ireturn, 1) := by decide +kernel
theorem dX11_editionOrDraft_0 : decode cX11_editionOrDraft 0 = .ok (.iload_n 1, 1) := by decide +kernel
theorem dX11_editionOrDraft_1 : decode cX11_editionOrDraft 1 = .ok (.bipush 12, 2) := by decide +kernel
theorem dX11_editionOrDraft_3 : decode cX11_editionOrDraft 3 = .ok (.if_icmp .ne 25, 3) := by decide +kernel
theorem dX11_editionOrDraft_6 : decode cX11_editionOrDraft 6 = .ok (.aload_n 0, 1) := by decide +kernel
theorem dX11_editionOrDraft_7 : decode cX11_editionOrDraft 7 = .ok (.getfield 60, 3) := by decide +kernel
theorem dX11_editionOrDraft_10 : decode cX11_editionOrDraft 10 = .ok (.getfield 208, 3) := by decide +kernel
theorem dX11_editionOrDraft_13 : decode cX11_editionOrDraft 13 = .ok (.ifCond .eq 13, 3) := by decide +kernel
theorem dX11_editionOrDraft_16 : decode cX11_editionOrDraft 16 = .ok (.aload_n 0, 1) := by decide +kernel
theorem dX11_editionOrDraft_17 : decode cX11_editionOrDraft 17 = .ok (.getfield 60, 3) := by decide +kernel
theorem dX11_editionOrDraft_20 : decode cX11_editionOrDraft 20 = .ok (.getfield 214, 3) := by decide +kernel
theorem dX11_editionOrDraft_23 : decode cX11_editionOrDraft 23 = .ok (.goto 4, 3) := by decide +kernel
theorem dX11_editionOrDraft_26 : decode cX11_editionOrDraft 26 = .ok (.aconst_null, 1) := by decide +kernel
theorem dX11_editionOrDraft_27 : decode cX11_editionOrDraft 27 = .ok (.areturn, 1) := by decide +kernel
theorem dX11_editionOrDraft_28 : decode cX11_editionOrDraft 28 = .ok (.aload_n 0, 1) := by decide +kernel
theorem dX11_editionOrDraft_29 : decode cX11_editionOrDraft 29 = .ok (.getfield 53, 3) := by decide +kernel
theorem dX11_editionOrDraft_32 : decode cX11_editionOrDraft 32 = .ok (.iload_n 1, 1) := by decide +kernel
theorem dX11_editionOrDraft_33 : decode cX11_editionOrDraft 33 = .ok (.invokevirtual 168, 3) := by decide +kernel
theorem dX11_editionOrDraft_36 : decode cX11_editionOrDraft 36 = .ok (.areturn, 1) := by decide +kernel
theorem dX11_end_0 : decode cX11_end 0 = .ok (.iload_n 1, 1) := by decide +kernel
theorem dX11_end_1 : decode cX11_end 1 = .ok (.ifCond .lt 14, 3) := by decide +kernel
theorem dX11_end_4 : decode cX11_end 4 = .ok (.iload_n 1, 1) := by decide +kernel
theorem dX11_end_5 : decode cX11_end 5 = .ok (.aload_n 0, 1) := by decide +kernel
theorem dX11_end_6 : decode cX11_end 6 = .ok (.getfield 12, 3) := by decide +kernel
theorem dX11_end_9 : decode cX11_end 9 = .ok (.getfield 109, 3) := by decide +kernel
theorem dX11_end_12 : decode cX11_end 12 = .ok (.if_icmp .le 5, 3) := by decide +kernel
theorem dX11_end_15 : decode cX11_end 15 = .ok (.iconst 0, 1) := by decide +kernel
theorem dX11_end_16 : decode cX11_end 16 = .ok (.ireturn, 1) := by decide +kernel
theorem dX11_end_17 : decode cX11_end 17 = .ok (.aload_n 0, 1) := by decide +kernel
theorem dX11_end_18 : decode cX11_end 18 = .ok (.getfield 12, 3) := by decide +kernel
theorem dX11_end_21 : decode cX11_end 21 = .ok (.iload_n 1, 1) := by decide +kernel
theorem dX11_end_22 : decode cX11_end 22 = .ok (.putfield 109, 3) := by decide +kernel
theorem dX11_end_25 : decode cX11_end 25 = .ok (.iconst 1, 1) := by decide +kernel
theorem dX11_end_26 : decode cX11_end 26 = .ok (.ireturn, 1) := by decide +kernel
theorem dX11_endDraft_0 : decode cX11_endDraft 0 = .ok (.iconst 0, 1) := by decide +kernel
theorem dX11_endDraft_1 : decode cX11_endDraft 1 = .ok (.istore_n 2, 1) := by decide +kernel
theorem dX11_endDraft_2 : decode cX11_endDraft 2 = .ok (.iload_n 2, 1) := by decide +kernel
theorem dX11_endDraft_3 : decode cX11_endDraft 3 = .ok (.aload_n 0, 1) := by decide +kernel
theorem dX11_endDraft_4 : decode cX11_endDraft 4 = .ok (.getfield 181, 3) := by decide +kernel
theorem dX11_endDraft_7 : decode cX11_endDraft 7 = .ok (.if_icmp .ge 27, 3) := by decide +kernel
theorem dX11_endDraft_10 : decode cX11_endDraft 10 = .ok (.aload_n 0, 1) := by decide +kernel
theorem dX11_endDraft_11 : decode cX11_endDraft 11 = .ok (.getfield 91, 3) := by decide +kernel
theorem dX11_endDraft_14 : decode cX11_endDraft 14 = .ok (.iload_n 2, 1) := by decide +kernel
theorem dX11_endDraft_15 : decode cX11_endDraft 15 = .ok (.iaload, 1) := by decide +kernel
theorem dX11_endDraft_16 : decode cX11_endDraft 16 = .ok (.bipush (-2), 2) := by decide +kernel
theorem dX11_endDraft_18 : decode cX11_endDraft 18 = .ok (.if_icmp .ne 10, 3) := by decide +kernel
theorem dX11_endDraft_21 : decode cX11_endDraft 21 = .ok (.aload_n 0, 1) := by decide +kernel
theorem dX11_endDraft_22 : decode cX11_endDraft 22 = .ok (.getfield 91, 3) := by decide +kernel
theorem dX11_endDraft_25 : decode cX11_endDraft 25 = .ok (.iload_n 2, 1) := by decide +kernel
theorem dX11_endDraft_26 : decode cX11_endDraft 26 = .ok (.iload_n 1, 1) := by decide +kernel
theorem dX11_endDraft_27 : decode cX11_endDraft 27 = .ok (.iastore, 1) := by decide +kernel
theorem dX11_endDraft_28 : decode cX11_endDraft 28 = .ok (.iinc 2 1, 3) := by decide +kernel
theorem dX11_endDraft_31 : decode cX11_endDraft 31 = .ok (.goto (-29), 3) := by decide +kernel
theorem dX11_endDraft_34 : decode cX11_endDraft 34 = .ok (.aload_n 0, 1) := by decide +kernel
theorem dX11_endDraft_35 : decode cX11_endDraft 35 = .ok (.getfield 60, 3) := by decide +kernel
theorem dX11_endDraft_38 : decode cX11_endDraft 38 = .ok (.iconst 0, 1) := by decide +kernel
theorem dX11_endDraft_39 : decode cX11_endDraft 39 = .ok (.putfield 208, 3) := by decide +kernel
theorem dX11_endDraft_42 : decode cX11_endDraft 42 = .ok (.return_, 1) := by decide +kernel
theorem dX11_fault_0 : decode cX11_fault 0 = .ok (.iload_n 1, 1) := by decide +kernel
theorem dX11_fault_1 : decode cX11_fault 1 = .ok (.ifCond .eq 10, 3) := by decide +kernel
theorem dX11_fault_4 : decode cX11_fault 4 = .ok (.aload_n 0, 1) := by decide +kernel
theorem dX11_fault_5 : decode cX11_fault 5 = .ok (.invokevirtual 113, 3) := by decide +kernel
theorem dX11_fault_8 : decode cX11_fault 8 = .ok (.goto 14, 3) := by decide +kernel
theorem dX11_fault_11 : decode cX11_fault 11 = .ok (.aload_n 0, 1) := by decide +kernel
theorem dX11_fault_12 : decode cX11_fault 12 = .ok (.getfield 23, 3) := by decide +kernel
theorem dX11_fault_15 : decode cX11_fault 15 = .ok (.aload_n 0, 1) := by decide +kernel
theorem dX11_fault_16 : decode cX11_fault 16 = .ok (.getfield 12, 3) := by decide +kernel
theorem dX11_fault_19 : decode cX11_fault 19 = .ok (.invokevirtual 117, 3) := by decide +kernel
theorem dX11_fault_22 : decode cX11_fault 22 = .ok (.ireturn, 1) := by decide +kernel
theorem dX11_feed_0 : decode cX11_feed 0 = .ok (.aload_n 0, 1) := by decide +kernel
theorem dX11_feed_1 : decode cX11_feed 1 = .ok (.getfield 12, 3) := by decide +kernel
theorem dX11_feed_4 : decode cX11_feed 4 = .ok (.bipush 20, 2) := by decide +kernel
theorem dX11_feed_6 : decode cX11_feed 6 = .ok (.invokevirtual 101, 3) := by decide +kernel
theorem dX11_feed_9 : decode cX11_feed 9 = .ok (.ifCond .ne 5, 3) := by decide +kernel
theorem dX11_feed_12 : decode cX11_feed 12 = .ok (.iconst (-1), 1) := by decide +kernel
theorem dX11_feed_13 : decode cX11_feed 13 = .ok (.ireturn, 1) := by decide +kernel
theorem dX11_feed_14 : decode cX11_feed 14 = .ok (.aload_n 0, 1) := by decide +kernel
theorem dX11_feed_15 : decode cX11_feed 15 = .ok (.getfield 12, 3) := by decide +kernel
theorem dX11_feed_18 : decode cX11_feed 18 = .ok (.iload_n 1, 1) := by decide +kernel
theorem dX11_feed_19 : decode cX11_feed 19 = .ok (.invokevirtual 105, 3) := by decide +kernel
theorem dX11_feed_22 : decode cX11_feed 22 = .ok (.aload_n 0, 1) := by decide +kernel
theorem dX11_feed_23 : decode cX11_feed 23 = .ok (.getfield 12, 3) := by decide +kernel
theorem dX11_feed_26 : decode cX11_feed 26 = .ok (.iload_n 2, 1) := by decide +kernel
theorem dX11_feed_27 : decode cX11_feed 27 = .ok (.invokevirtual 105, 3) := by decide +kernel
theorem dX11_feed_30 : decode cX11_feed 30 = .ok (.aload_n 0, 1) := by decide +kernel
theorem dX11_feed_31 : decode cX11_feed 31 = .ok (.getfield 12, 3) := by decide +kernel
theorem dX11_feed_34 : decode cX11_feed 34 = .ok (.iload_n 3, 1) := by decide +kernel
theorem dX11_feed_35 : decode cX11_feed 35 = .ok (.invokevirtual 105, 3) := by decide +kernel
theorem dX11_feed_38 : decode cX11_feed 38 = .ok (.aload_n 0, 1) := by decide +kernel
theorem dX11_feed_39 : decode cX11_feed 39 = .ok (.getfield 12, 3) := by decide +kernel
theorem dX11_feed_42 : decode cX11_feed 42 = .ok (.iload 4, 2) := by decide +kernel
theorem dX11_feed_44 : decode cX11_feed 44 = .ok (.invokevirtual 105, 3) := by decide +kernel
theorem dX11_feed_47 : decode cX11_feed 47 = .ok (.aload_n 0, 1) := by decide +kernel
theorem dX11_feed_48 : decode cX11_feed 48 = .ok (.getfield 12, 3) := by decide +kernel
theorem dX11_feed_51 : decode cX11_feed 51 = .ok (.iload 5, 2) := by decide +kernel
theorem dX11_feed_53 : decode cX11_feed 53 = .ok (.invokevirtual 105, 3) := by decide +kernel
theorem dX11_feed_56 : decode cX11_feed 56 = .ok (.aload_n 0, 1) := by decide +kernel
theorem dX11_feed_57 : decode cX11_feed 57 = .ok (.getfield 12, 3) := by decide +kernel
theorem dX11_feed_60 : decode cX11_feed 60 = .ok (.getfield 109, 3) := by decide +kernel
theorem dX11_feed_63 : decode cX11_feed 63 = .ok (.ireturn, 1) := by decide +kernel
theorem dX11_findBase_0 : decode cX11_findBase 0 = .ok (.aload_n 0, 1) := by decide +kernel
theorem dX11_findBase_1 : decode cX11_findBase 1 = .ok (.getfield 53, 3) := by decide +kernel
theorem dX11_findBase_4 : decode cX11_findBase 4 = .ok (.aload_n 0, 1) := by decide +kernel
theorem dX11_findBase_5 : decode cX11_findBase 5 = .ok (.getfield 53, 3) := by decide +kernel
theorem dX11_findBase_8 : decode cX11_findBase 8 = .ok (.iload_n 1, 1) := by decide +kernel
theorem dX11_findBase_9 : decode cX11_findBase 9 = .ok (.iload_n 2, 1) := by decide +kernel
theorem dX11_findBase_10 : decode cX11_findBase 10 = .ok (.invokevirtual 269, 3) := by decide +kernel
theorem dX11_findBase_13 : decode cX11_findBase 13 = .ok (.invokevirtual 272, 3) := by decide +kernel
theorem dX11_findBase_16 : decode cX11_findBase 16 = .ok (.istore_n 3, 1) := by decide +kernel
theorem dX11_findBase_17 : decode cX11_findBase 17 = .ok (.aload_n 0, 1) := by decide +kernel
theorem dX11_findBase_18 : decode cX11_findBase 18 = .ok (.getfield 53, 3) := by decide +kernel
theorem dX11_findBase_21 : decode cX11_findBase 21 = .ok (.iload_n 3, 1) := by decide +kernel
theorem dX11_findBase_22 : decode cX11_findBase 22 = .ok (.invokevirtual 275, 3) := by decide +kernel
theorem dX11_findBase_25 : decode cX11_findBase 25 = .ok (.istore 4, 2) := by decide +kernel
theorem dX11_findBase_27 : decode cX11_findBase 27 = .ok (.aload_n 0, 1) := by decide +kernel
theorem dX11_findBase_28 : decode cX11_findBase 28 = .ok (.getfield 53, 3) := by decide +kernel
theorem dX11_findBase_31 : decode cX11_findBase 31 = .ok (.iload_n 3, 1) := by decide +kernel
theorem dX11_findBase_32 : decode cX11_findBase 32 = .ok (.iload_n 3, 1) := by decide +kernel
theorem dX11_findBase_33 : decode cX11_findBase 33 = .ok (.iconst 1, 1) := by decide +kernel
theorem dX11_findBase_34 : decode cX11_findBase 34 = .ok (.isub, 1) := by decide +kernel
theorem dX11_findBase_35 : decode cX11_findBase 35 = .ok (.iand, 1) := by decide +kernel
theorem dX11_findBase_36 : decode cX11_findBase 36 = .ok (.invokevirtual 275, 3) := by decide +kernel
theorem dX11_findBase_39 : decode cX11_findBase 39 = .ok (.istore 5, 2) := by decide +kernel
theorem dX11_findBase_41 : decode cX11_findBase 41 = .ok (.iload 5, 2) := by decide +kernel
theorem dX11_findBase_43 : decode cX11_findBase 43 = .ok (.iconst (-1), 1) := by decide +kernel
theorem dX11_findBase_44 : decode cX11_findBase 44 = .ok (.if_icmp .ne 6, 3) := by decide +kernel
theorem dX11_findBase_47 : decode cX11_findBase 47 = .ok (.iload 4, 2) := by decide +kernel
theorem dX11_findBase_49 : decode cX11_findBase 49 = .ok (.ireturn, 1) := by decide +kernel
theorem dX11_findBase_50 : decode cX11_findBase 50 = .ok (.aload_n 0, 1) := by decide +kernel
theorem dX11_findBase_51 : decode cX11_findBase 51 = .ok (.getfield 53, 3) := by decide +kernel
theorem dX11_findBase_54 : decode cX11_findBase 54 = .ok (.aload_n 0, 1) := by decide +kernel
theorem dX11_findBase_55 : decode cX11_findBase 55 = .ok (.getfield 53, 3) := by decide +kernel
theorem dX11_findBase_58 : decode cX11_findBase 58 = .ok (.iload 4, 2) := by decide +kernel
theorem dX11_findBase_60 : decode cX11_findBase 60 = .ok (.iload 5, 2) := by decide +kernel
theorem dX11_findBase_62 : decode cX11_findBase 62 = .ok (.invokevirtual 269, 3) := by decide +kernel
theorem dX11_findBase_65 : decode cX11_findBase 65 = .ok (.invokevirtual 272, 3) := by decide +kernel
theorem dX11_findBase_68 : decode cX11_findBase 68 = .ok (.istore 6, 2) := by decide +kernel
theorem dX11_findBase_70 : decode cX11_findBase 70 = .ok (.aload_n 0, 1) := by decide +kernel
theorem dX11_findBase_71 : decode cX11_findBase 71 = .ok (.getfield 53, 3) := by decide +kernel
theorem dX11_findBase_74 : decode cX11_findBase 74 = .ok (.aload_n 0, 1) := by decide +kernel
theorem dX11_findBase_75 : decode cX11_findBase 75 = .ok (.getfield 53, 3) := by decide +kernel
theorem dX11_findBase_78 : decode cX11_findBase 78 = .ok (.iload 6, 2) := by decide +kernel
theorem dX11_findBase_80 : decode cX11_findBase 80 = .ok (.invokevirtual 275, 3) := by decide +kernel
theorem dX11_findBase_83 : decode cX11_findBase 83 = .ok (.invokevirtual 168, 3) := by decide +kernel
theorem dX11_findBase_86 : decode cX11_findBase 86 = .ok (.astore 7, 2) := by decide +kernel
theorem dX11_findBase_88 : decode cX11_findBase 88 = .ok (.aload 7, 2) := by decide +kernel
theorem dX11_findBase_90 : decode cX11_findBase 90 = .ok (.ifnull 26, 3) := by decide +kernel
theorem dX11_findBase_93 : decode cX11_findBase 93 = .ok (.iload 6, 2) := by decide +kernel
theorem dX11_findBase_95 : decode cX11_findBase 95 = .ok (.iload 6, 2) := by decide +kernel
theorem dX11_findBase_97 : decode cX11_findBase 97 = .ok (.iconst 1, 1) := by decide +kernel
theorem dX11_findBase_98 : decode cX11_findBase 98 = .ok (.isub, 1) := by decide +kernel
theorem dX11_findBase_99 : decode cX11_findBase 99 = .ok (.iand, 1) := by decide +kernel
theorem dX11_findBase_100 : decode cX11_findBase 100 = .ok (.ifCond .ne 16, 3) := by decide +kernel
theorem dX11_findBase_103 : decode cX11_findBase 103 = .ok (.aload_n 0, 1) := by decide +kernel
theorem dX11_findBase_104 : decode cX11_findBase 104 = .ok (.aload 7, 2) := by decide +kernel
theorem dX11_findBase_106 : decode cX11_findBase 106 = .ok (.iload 4, 2) := by decide +kernel
theorem dX11_findBase_108 : decode cX11_findBase 108 = .ok (.iload 5, 2) := by decide +kernel
theorem dX11_findBase_110 : decode cX11_findBase 110 = .ok (.invokevirtual 278, 3) := by decide +kernel
theorem dX11_findBase_113 : decode cX11_findBase 113 = .ok (.ifCond .ne 5, 3) := by decide +kernel
theorem dX11_findBase_116 : decode cX11_findBase 116 = .ok (.iconst (-1), 1) := by decide +kernel
theorem dX11_findBase_117 : decode cX11_findBase 117 = .ok (.ireturn, 1) := by decide +kernel
theorem dX11_findBase_118 : decode cX11_findBase 118 = .ok (.aload_n 0, 1) := by decide +kernel
theorem dX11_findBase_119 : decode cX11_findBase 119 = .ok (.getfield 78, 3) := by decide +kernel
theorem dX11_findBase_122 : decode cX11_findBase 122 = .ok (.aload_n 0, 1) := by decide +kernel
theorem dX11_findBase_123 : decode cX11_findBase 123 = .ok (.getfield 74, 3) := by decide +kernel
theorem dX11_findBase_126 : decode cX11_findBase 126 = .ok (.getfield 282, 3) := by decide +kernel
theorem dX11_findBase_129 : decode cX11_findBase 129 = .ok (.invokevirtual 188, 3) := by decide +kernel
theorem dX11_findBase_132 : decode cX11_findBase 132 = .ok (.bipush 100, 2) := by decide +kernel
theorem dX11_findBase_134 : decode cX11_findBase 134 = .ok (.ireturn, 1) := by decide +kernel
theorem dX11_first_0 : decode cX11_first 0 = .ok (.aload_n 0, 1) := by decide +kernel
theorem dX11_first_1 : decode cX11_first 1 = .ok (.getfield 53, 3) := by decide +kernel
theorem dX11_first_4 : decode cX11_first 4 = .ok (.invokevirtual 135, 3) := by decide +kernel
theorem dX11_first_7 : decode cX11_first 7 = .ok (.ifCond .ne 10, 3) := by decide +kernel
theorem dX11_first_10 : decode cX11_first 10 = .ok (.aload_n 0, 1) := by decide +kernel
theorem dX11_first_11 : decode cX11_first 11 = .ok (.invokevirtual 139, 3) := by decide +kernel
theorem dX11_first_14 : decode cX11_first 14 = .ok (.ifCond .ne 5, 3) := by decide +kernel
theorem dX11_first_17 : decode cX11_first 17 = .ok (.iconst (-1), 1) := by decide +kernel
theorem dX11_first_18 : decode cX11_first 18 = .ok (.ireturn, 1) := by decide +kernel
theorem dX11_first_19 : decode cX11_first 19 = .ok (.aload_n 0, 1) := by decide +kernel
theorem dX11_first_20 : decode cX11_first 20 = .ok (.getfield 46, 3) := by decide +kernel
theorem dX11_first_23 : decode cX11_first 23 = .ok (.invokevirtual 142, 3) := by decide +kernel
theorem dX11_first_26 : decode cX11_first 26 = .ok (.aload_n 0, 1) := by decide +kernel
theorem dX11_first_27 : decode cX11_first 27 = .ok (.iconst (-1), 1) := by decide +kernel
theorem dX11_first_28 : decode cX11_first 28 = .ok (.invokevirtual 145, 3) := by decide +kernel
theorem dX11_first_31 : decode cX11_first 31 = .ok (.ireturn, 1) := by decide +kernel
theorem dX11_flushLeft_0 : decode cX11_flushLeft 0 = .ok (.lconst 0, 1) := by decide +kernel
theorem dX11_flushLeft_1 : decode cX11_flushLeft 1 = .ok (.lstore_n 2, 1) := by decide +kernel
theorem dX11_flushLeft_2 : decode cX11_flushLeft 2 = .ok (.bipush 56, 2) := by decide +kernel
theorem dX11_flushLeft_4 : decode cX11_flushLeft 4 = .ok (.istore 4, 2) := by decide +kernel
theorem dX11_flushLeft_6 : decode cX11_flushLeft 6 = .ok (.bipush 56, 2) := by decide +kernel
theorem dX11_flushLeft_8 : decode cX11_flushLeft 8 = .ok (.istore 5, 2) := by decide +kernel
theorem dX11_flushLeft_10 : decode cX11_flushLeft 10 = .ok (.iload 5, 2) := by decide +kernel
theorem dX11_flushLeft_12 : decode cX11_flushLeft 12 = .ok (.ifCond .lt 54, 3) := by decide +kernel
theorem dX11_flushLeft_15 : decode cX11_flushLeft 15 = .ok (.lload_n 0, 1) := by decide +kernel
theorem dX11_flushLeft_16 : decode cX11_flushLeft 16 = .ok (.iload 5, 2) := by decide +kernel
theorem dX11_flushLeft_18 : decode cX11_flushLeft 18 = .ok (.lushr, 1) := by decide +kernel
theorem dX11_flushLeft_19 : decode cX11_flushLeft 19 = .ok (.l2i, 1) := by decide +kernel
theorem dX11_flushLeft_20 : decode cX11_flushLeft 20 = .ok (.sipush 255, 3) := by decide +kernel
theorem dX11_flushLeft_23 : decode cX11_flushLeft 23 = .ok (.iand, 1) := by decide +kernel
theorem dX11_flushLeft_24 : decode cX11_flushLeft 24 = .ok (.istore 6, 2) := by decide +kernel
theorem dX11_flushLeft_26 : decode cX11_flushLeft 26 = .ok (.iload 6, 2) := by decide +kernel
theorem dX11_flushLeft_28 : decode cX11_flushLeft 28 = .ok (.ifCond .eq 15, 3) := by decide +kernel
theorem dX11_flushLeft_31 : decode cX11_flushLeft 31 = .ok (.iload 6, 2) := by decide +kernel
theorem dX11_flushLeft_33 : decode cX11_flushLeft 33 = .ok (.invokestatic 370, 3) := by decide +kernel
theorem dX11_flushLeft_36 : decode cX11_flushLeft 36 = .ok (.ifCond .ne 7, 3) := by decide +kernel
theorem dX11_flushLeft_39 : decode cX11_flushLeft 39 = .ok (.ldc2_w 373, 3) := by decide +kernel
theorem dX11_flushLeft_42 : decode cX11_flushLeft 42 = .ok (.lreturn, 1) := by decide +kernel
theorem dX11_flushLeft_43 : decode cX11_flushLeft 43 = .ok (.iload 6, 2) := by decide +kernel
theorem dX11_flushLeft_45 : decode cX11_flushLeft 45 = .ok (.ifCond .eq 15, 3) := by decide +kernel
theorem dX11_flushLeft_48 : decode cX11_flushLeft 48 = .ok (.lload_n 2, 1) := by decide +kernel
theorem dX11_flushLeft_49 : decode cX11_flushLeft 49 = .ok (.iload 6, 2) := by decide +kernel
theorem dX11_flushLeft_51 : decode cX11_flushLeft 51 = .ok (.i2l, 1) := by decide +kernel
theorem dX11_flushLeft_52 : decode cX11_flushLeft 52 = .ok (.iload 4, 2) := by decide +kernel
theorem dX11_flushLeft_54 : decode cX11_flushLeft 54 = .ok (.lshl, 1) := by decide +kernel
theorem dX11_flushLeft_55 : decode cX11_flushLeft 55 = .ok (.lor, 1) := by decide +kernel
theorem dX11_flushLeft_56 : decode cX11_flushLeft 56 = .ok (.lstore_n 2, 1) := by decide +kernel
theorem dX11_flushLeft_57 : decode cX11_flushLeft 57 = .ok (.iinc 4 (-8), 3) := by decide +kernel
theorem dX11_flushLeft_60 : decode cX11_flushLeft 60 = .ok (.iinc 5 (-8), 3) := by decide +kernel
theorem dX11_flushLeft_63 : decode cX11_flushLeft 63 = .ok (.goto (-53), 3) := by decide +kernel
theorem dX11_flushLeft_66 : decode cX11_flushLeft 66 = .ok (.lload_n 2, 1) := by decide +kernel
theorem dX11_flushLeft_67 : decode cX11_flushLeft 67 = .ok (.lreturn, 1) := by decide +kernel
theorem dX11_flushRight_0 : decode cX11_flushRight 0 = .ok (.lconst 0, 1) := by decide +kernel
theorem dX11_flushRight_1 : decode cX11_flushRight 1 = .ok (.lstore_n 2, 1) := by decide +kernel
theorem dX11_flushRight_2 : decode cX11_flushRight 2 = .ok (.bipush 56, 2) := by decide +kernel
theorem dX11_flushRight_4 : decode cX11_flushRight 4 = .ok (.istore 4, 2) := by decide +kernel
theorem dX11_flushRight_6 : decode cX11_flushRight 6 = .ok (.iload 4, 2) := by decide +kernel
theorem dX11_flushRight_8 : decode cX11_flushRight 8 = .ok (.ifCond .lt 34, 3) := by decide +kernel
theorem dX11_flushRight_11 : decode cX11_flushRight 11 = .ok (.lload_n 0, 1) := by decide +kernel
theorem dX11_flushRight_12 : decode cX11_flushRight 12 = .ok (.iload 4, 2) := by decide +kernel
theorem dX11_flushRight_14 : decode cX11_flushRight 14 = .ok (.lushr, 1) := by decide +kernel
theorem dX11_flushRight_15 : decode cX11_flushRight 15 = .ok (.ldc2_w 375, 3) := by decide +kernel
theorem dX11_flushRight_18 : decode cX11_flushRight 18 = .ok (.land, 1) := by decide +kernel
theorem dX11_flushRight_19 : decode cX11_flushRight 19 = .ok (.lstore 5, 2) := by decide +kernel
theorem dX11_flushRight_21 : decode cX11_flushRight 21 = .ok (.lload 5, 2) := by decide +kernel
theorem dX11_flushRight_23 : decode cX11_flushRight 23 = .ok (.lconst 0, 1) := by decide +kernel
theorem dX11_flushRight_24 : decode cX11_flushRight 24 = .ok (.lcmp, 1) := by decide +kernel
theorem dX11_flushRight_25 : decode cX11_flushRight 25 = .ok (.ifCond .eq 11, 3) := by decide +kernel
theorem dX11_flushRight_28 : decode cX11_flushRight 28 = .ok (.lload_n 2, 1) := by decide +kernel
theorem dX11_flushRight_29 : decode cX11_flushRight 29 = .ok (.bipush 8, 2) := by decide +kernel
theorem dX11_flushRight_31 : decode cX11_flushRight 31 = .ok (.lshl, 1) := by decide +kernel
theorem dX11_flushRight_32 : decode cX11_flushRight 32 = .ok (.lload 5, 2) := by decide +kernel
theorem dX11_flushRight_34 : decode cX11_flushRight 34 = .ok (.lor, 1) := by decide +kernel
theorem dX11_flushRight_35 : decode cX11_flushRight 35 = .ok (.lstore_n 2, 1) := by decide +kernel
theorem dX11_flushRight_36 : decode cX11_flushRight 36 = .ok (.iinc 4 (-8), 3) := by decide +kernel
theorem dX11_flushRight_39 : decode cX11_flushRight 39 = .ok (.goto (-33), 3) := by decide +kernel
theorem dX11_flushRight_42 : decode cX11_flushRight 42 = .ok (.lload_n 2, 1) := by decide +kernel
theorem dX11_flushRight_43 : decode cX11_flushRight 43 = .ok (.lreturn, 1) := by decide +kernel
theorem dX11_from_0 : decode cX11_from 0 = .ok (.aload_n 0, 1) := by decide +kernel
theorem dX11_from_1 : decode cX11_from 1 = .ok (.getfield 53, 3) := by decide +kernel
theorem dX11_from_4 : decode cX11_from 4 = .ok (.iload_n 1, 1) := by decide +kernel
theorem dX11_from_5 : decode cX11_from 5 = .ok (.iload_n 2, 1) := by decide +kernel
theorem dX11_from_6 : decode cX11_from 6 = .ok (.invokevirtual 259, 3) := by decide +kernel
theorem dX11_from_9 : decode cX11_from 9 = .ok (.ireturn, 1) := by decide +kernel
theorem dX11_grammar_0 : decode cX11_grammar 0 = .ok (.aload_n 0, 1) := by decide +kernel
theorem dX11_grammar_1 : decode cX11_grammar 1 = .ok (.getfield 19, 3) := by decide +kernel
theorem dX11_grammar_4 : decode cX11_grammar 4 = .ok (.getfield 121, 3) := by decide +kernel
theorem dX11_grammar_7 : decode cX11_grammar 7 = .ok (.ifCond .gt 18, 3) := by decide +kernel
theorem dX11_grammar_10 : decode cX11_grammar 10 = .ok (.aload_n 0, 1) := by decide +kernel
theorem dX11_grammar_11 : decode cX11_grammar 11 = .ok (.getfield 23, 3) := by decide +kernel
theorem dX11_grammar_14 : decode cX11_grammar 14 = .ok (.aload_n 0, 1) := by decide +kernel
theorem dX11_grammar_15 : decode cX11_grammar 15 = .ok (.getfield 12, 3) := by decide +kernel
theorem dX11_grammar_18 : decode cX11_grammar 18 = .ok (.invokevirtual 117, 3) := by decide +kernel
theorem dX11_grammar_21 : decode cX11_grammar 21 = .ok (.iconst (-1), 1) := by decide +kernel
theorem dX11_grammar_22 : decode cX11_grammar 22 = .ok (.if_icmp .eq 5, 3) := by decide +kernel
theorem dX11_grammar_25 : decode cX11_grammar 25 = .ok (.iconst (-1), 1) := by decide +kernel
theorem dX11_grammar_26 : decode cX11_grammar 26 = .ok (.ireturn, 1) := by decide +kernel
theorem dX11_grammar_27 : decode cX11_grammar 27 = .ok (.aload_n 0, 1) := by decide +kernel
theorem dX11_grammar_28 : decode cX11_grammar 28 = .ok (.getfield 23, 3) := by decide +kernel
theorem dX11_grammar_31 : decode cX11_grammar 31 = .ok (.astore_n 1, 1) := by decide +kernel
theorem dX11_grammar_32 : decode cX11_grammar 32 = .ok (.aload_n 0, 1) := by decide +kernel
theorem dX11_grammar_33 : decode cX11_grammar 33 = .ok (.aload_n 0, 1) := by decide +kernel
theorem dX11_grammar_34 : decode cX11_grammar 34 = .ok (.getfield 19, 3) := by decide +kernel
theorem dX11_grammar_37 : decode cX11_grammar 37 = .ok (.putfield 23, 3) := by decide +kernel
theorem dX11_grammar_40 : decode cX11_grammar 40 = .ok (.aload_n 0, 1) := by decide +kernel
theorem dX11_grammar_41 : decode cX11_grammar 41 = .ok (.aload_n 1, 1) := by decide +kernel
theorem dX11_grammar_42 : decode cX11_grammar 42 = .ok (.putfield 19, 3) := by decide +kernel
theorem dX11_grammar_45 : decode cX11_grammar 45 = .ok (.aload_n 0, 1) := by decide +kernel
theorem dX11_grammar_46 : decode cX11_grammar 46 = .ok (.getfield 12, 3) := by decide +kernel
theorem dX11_grammar_49 : decode cX11_grammar 49 = .ok (.iconst 0, 1) := by decide +kernel
theorem dX11_grammar_50 : decode cX11_grammar 50 = .ok (.putfield 109, 3) := by decide +kernel
theorem dX11_grammar_53 : decode cX11_grammar 53 = .ok (.aload_n 0, 1) := by decide +kernel
theorem dX11_grammar_54 : decode cX11_grammar 54 = .ok (.getfield 19, 3) := by decide +kernel
theorem dX11_grammar_57 : decode cX11_grammar 57 = .ok (.getfield 121, 3) := by decide +kernel
theorem dX11_grammar_60 : decode cX11_grammar 60 = .ok (.ireturn, 1) := by decide +kernel
theorem dX11_isAhead_0 : decode cX11_isAhead 0 = .ok (.iload_n 0, 1) := by decide +kernel
theorem dX11_isAhead_1 : decode cX11_isAhead 1 = .ok (.iload 4, 2) := by decide +kernel
theorem dX11_isAhead_3 : decode cX11_isAhead 3 = .ok (.if_icmp .eq 15, 3) := by decide +kernel
theorem dX11_isAhead_6 : decode cX11_isAhead 6 = .ok (.iload_n 0, 1) := by decide +kernel
theorem dX11_isAhead_7 : decode cX11_isAhead 7 = .ok (.iload 4, 2) := by decide +kernel
theorem dX11_isAhead_9 : decode cX11_isAhead 9 = .ok (.if_icmp .ge 7, 3) := by decide +kernel
theorem dX11_isAhead_12 : decode cX11_isAhead 12 = .ok (.iconst 1, 1) := by decide +kernel
theorem dX11_isAhead_13 : decode cX11_isAhead 13 = .ok (.goto 4, 3) := by decide +kernel
theorem dX11_isAhead_16 : decode cX11_isAhead 16 = .ok (.iconst 0, 1) := by decide +kernel
theorem dX11_isAhead_17 : decode cX11_isAhead 17 = .ok (.ireturn, 1) := by decide +kernel
theorem dX11_isAhead_18 : decode cX11_isAhead 18 = .ok (.lload_n 1, 1) := by decide +kernel
theorem dX11_isAhead_19 : decode cX11_isAhead 19 = .ok (.lload 5, 2) := by decide +kernel
theorem dX11_isAhead_21 : decode cX11_isAhead 21 = .ok (.lcmp, 1) := by decide +kernel
theorem dX11_isAhead_22 : decode cX11_isAhead 22 = .ok (.ifCond .eq 18, 3) := by decide +kernel
theorem dX11_isAhead_25 : decode cX11_isAhead 25 = .ok (.lload_n 1, 1) := by decide +kernel
theorem dX11_isAhead_26 : decode cX11_isAhead 26 = .ok (.lload 5, 2) := by decide +kernel
theorem dX11_isAhead_28 : decode cX11_isAhead 28 = .ok (.lcmp, 1) := by decide +kernel
theorem dX11_isAhead_29 : decode cX11_isAhead 29 = .ok (.ifCond .ge 7, 3) := by decide +kernel
theorem dX11_isAhead_32 : decode cX11_isAhead 32 = .ok (.iconst 1, 1) := by decide +kernel
theorem dX11_isAhead_33 : decode cX11_isAhead 33 = .ok (.goto 18, 3) := by decide +kernel
theorem dX11_isAhead_36 : decode cX11_isAhead 36 = .ok (.iconst 0, 1) := by decide +kernel
theorem dX11_isAhead_37 : decode cX11_isAhead 37 = .ok (.goto 14, 3) := by decide +kernel
theorem dX11_isAhead_40 : decode cX11_isAhead 40 = .ok (.iload_n 3, 1) := by decide +kernel
theorem dX11_isAhead_41 : decode cX11_isAhead 41 = .ok (.iload 7, 2) := by decide +kernel
theorem dX11_isAhead_43 : decode cX11_isAhead 43 = .ok (.if_icmp .ge 7, 3) := by decide +kernel
theorem dX11_isAhead_46 : decode cX11_isAhead 46 = .ok (.iconst 1, 1) := by decide +kernel
theorem dX11_isAhead_47 : decode cX11_isAhead 47 = .ok (.goto 4, 3) := by decide +kernel
theorem dX11_isAhead_50 : decode cX11_isAhead 50 = .ok (.iconst 0, 1) := by decide +kernel
theorem dX11_isAhead_51 : decode cX11_isAhead 51 = .ok (.ireturn, 1) := by decide +kernel
theorem dX11_isLetter_0 : decode cX11_isLetter 0 = .ok (.iload_n 0, 1) := by decide +kernel
theorem dX11_isLetter_1 : decode cX11_isLetter 1 = .ok (.bipush 97, 2) := by decide +kernel
theorem dX11_isLetter_3 : decode cX11_isLetter 3 = .ok (.if_icmp .lt 13, 3) := by decide +kernel
theorem dX11_isLetter_6 : decode cX11_isLetter 6 = .ok (.iload_n 0, 1) := by decide +kernel
theorem dX11_isLetter_7 : decode cX11_isLetter 7 = .ok (.bipush 122, 2) := by decide +kernel
theorem dX11_isLetter_9 : decode cX11_isLetter 9 = .ok (.if_icmp .gt 7, 3) := by decide +kernel
theorem dX11_isLetter_12 : decode cX11_isLetter 12 = .ok (.iconst 1, 1) := by decide +kernel
theorem dX11_isLetter_13 : decode cX11_isLetter 13 = .ok (.goto 4, 3) := by decide +kernel
theorem dX11_isLetter_16 : decode cX11_isLetter 16 = .ok (.iconst 0, 1) := by decide +kernel
theorem dX11_isLetter_17 : decode cX11_isLetter 17 = .ok (.ireturn, 1) := by decide +kernel
theorem dX11_isWordByte_0 : decode cX11_isWordByte 0 = .ok (.iload_n 0, 1) := by decide +kernel
theorem dX11_isWordByte_1 : decode cX11_isWordByte 1 = .ok (.invokestatic 367, 3) := by decide +kernel
theorem dX11_isWordByte_4 : decode cX11_isWordByte 4 = .ok (.ifCond .ne 15, 3) := by decide +kernel
theorem dX11_isWordByte_7 : decode cX11_isWordByte 7 = .ok (.iload_n 0, 1) := by decide +kernel
theorem dX11_isWordByte_8 : decode cX11_isWordByte 8 = .ok (.bipush 48, 2) := by decide +kernel
theorem dX11_isWordByte_10 : decode cX11_isWordByte 10 = .ok (.if_icmp .lt 13, 3) := by decide +kernel
theorem dX11_isWordByte_13 : decode cX11_isWordByte 13 = .ok (.iload_n 0, 1) := by decide +kernel
theorem dX11_isWordByte_14 : decode cX11_isWordByte 14 = .ok (.bipush 57, 2) := by decide +kernel
theorem dX11_isWordByte_16 : decode cX11_isWordByte 16 = .ok (.if_icmp .gt 7, 3) := by decide +kernel
theorem dX11_isWordByte_19 : decode cX11_isWordByte 19 = .ok (.iconst 1, 1) := by decide +kernel
theorem dX11_isWordByte_20 : decode cX11_isWordByte 20 = .ok (.goto 4, 3) := by decide +kernel
theorem dX11_isWordByte_23 : decode cX11_isWordByte 23 = .ok (.iconst 0, 1) := by decide +kernel
theorem dX11_isWordByte_24 : decode cX11_isWordByte 24 = .ok (.ireturn, 1) := by decide +kernel
theorem dX11_match_0 : decode cX11_match 0 = .ok (.aload_n 0, 1) := by decide +kernel
theorem dX11_match_1 : decode cX11_match 1 = .ok (.iload_n 1, 1) := by decide +kernel
theorem dX11_match_2 : decode cX11_match 2 = .ok (.invokevirtual 149, 3) := by decide +kernel
theorem dX11_match_5 : decode cX11_match 5 = .ok (.ifCond .ne 5, 3) := by decide +kernel
theorem dX11_match_8 : decode cX11_match 8 = .ok (.iconst (-1), 1) := by decide +kernel
theorem dX11_match_9 : decode cX11_match 9 = .ok (.ireturn, 1) := by decide +kernel
theorem dX11_match_10 : decode cX11_match 10 = .ok (.iload_n 2, 1) := by decide +kernel
theorem dX11_match_11 : decode cX11_match 11 = .ok (.ifCond .ne 11, 3) := by decide +kernel
theorem dX11_match_14 : decode cX11_match 14 = .ok (.aload_n 0, 1) := by decide +kernel
theorem dX11_match_15 : decode cX11_match 15 = .ok (.getfield 46, 3) := by decide +kernel
theorem dX11_match_18 : decode cX11_match 18 = .ok (.getfield 152, 3) := by decide +kernel
theorem dX11_match_21 : decode cX11_match 21 = .ok (.ireturn, 1) := by decide +kernel
theorem dX11_match_22 : decode cX11_match 22 = .ok (.iload_n 2, 1) := by decide +kernel
theorem dX11_match_23 : decode cX11_match 23 = .ok (.iconst 1, 1) := by decide +kernel
theorem dX11_match_24 : decode cX11_match 24 = .ok (.if_icmp .ne 19, 3) := by decide +kernel
theorem dX11_match_27 : decode cX11_match 27 = .ok (.aload_n 0, 1) := by decide +kernel
theorem dX11_match_28 : decode cX11_match 28 = .ok (.getfield 46, 3) := by decide +kernel
theorem dX11_match_31 : decode cX11_match 31 = .ok (.getfield 155, 3) := by decide +kernel
theorem dX11_match_34 : decode cX11_match 34 = .ok (.ifCond .eq 7, 3) := by decide +kernel
theorem dX11_match_37 : decode cX11_match 37 = .ok (.iconst 1, 1) := by decide +kernel
theorem dX11_match_38 : decode cX11_match 38 = .ok (.goto 4, 3) := by decide +kernel
theorem dX11_match_41 : decode cX11_match 41 = .ok (.iconst 0, 1) := by decide +kernel
theorem dX11_match_42 : decode cX11_match 42 = .ok (.ireturn, 1) := by decide +kernel
theorem dX11_match_43 : decode cX11_match 43 = .ok (.iload_n 2, 1) := by decide +kernel
theorem dX11_match_44 : decode cX11_match 44 = .ok (.iconst 2, 1) := by decide +kernel
theorem dX11_match_45 : decode cX11_match 45 = .ok (.if_icmp .ne 11, 3) := by decide +kernel
theorem dX11_match_48 : decode cX11_match 48 = .ok (.aload_n 0, 1) := by decide +kernel
theorem dX11_match_49 : decode cX11_match 49 = .ok (.getfield 46, 3) := by decide +kernel
theorem dX11_match_52 : decode cX11_match 52 = .ok (.invokevirtual 159, 3) := by decide +kernel
theorem dX11_match_55 : decode cX11_match 55 = .ok (.ireturn, 1) := by decide +kernel
theorem dX11_match_56 : decode cX11_match 56 = .ok (.iload_n 2, 1) := by decide +kernel
theorem dX11_match_57 : decode cX11_match 57 = .ok (.bipush 100, 2) := by decide +kernel
theorem dX11_match_59 : decode cX11_match 59 = .ok (.if_icmp .lt 17, 3) := by decide +kernel
theorem dX11_match_62 : decode cX11_match 62 = .ok (.aload_n 0, 1) := by decide +kernel
theorem dX11_match_63 : decode cX11_match 63 = .ok (.getfield 46, 3) := by decide +kernel
theorem dX11_match_66 : decode cX11_match 66 = .ok (.iload_n 2, 1) := by decide +kernel
theorem dX11_match_67 : decode cX11_match 67 = .ok (.bipush 100, 2) := by decide +kernel
theorem dX11_match_69 : decode cX11_match 69 = .ok (.isub, 1) := by decide +kernel
theorem dX11_match_70 : decode cX11_match 70 = .ok (.invokevirtual 162, 3) := by decide +kernel
theorem dX11_match_73 : decode cX11_match 73 = .ok (.goto 4, 3) := by decide +kernel
theorem dX11_match_76 : decode cX11_match 76 = .ok (.iconst (-1), 1) := by decide +kernel
theorem dX11_match_77 : decode cX11_match 77 = .ok (.ireturn, 1) := by decide +kernel
theorem dX11_matchText_0 : decode cX11_matchText 0 = .ok (.aload_n 0, 1) := by decide +kernel
theorem dX11_matchText_1 : decode cX11_matchText 1 = .ok (.getfield 53, 3) := by decide +kernel
theorem dX11_matchText_4 : decode cX11_matchText 4 = .ok (.iload_n 1, 1) := by decide +kernel
theorem dX11_matchText_5 : decode cX11_matchText 5 = .ok (.invokevirtual 168, 3) := by decide +kernel
theorem dX11_matchText_8 : decode cX11_matchText 8 = .ok (.astore_n 2, 1) := by decide +kernel
theorem dX11_matchText_9 : decode cX11_matchText 9 = .ok (.aload_n 2, 1) := by decide +kernel
theorem dX11_matchText_10 : decode cX11_matchText 10 = .ok (.ifnull 33, 3) := by decide +kernel
theorem dX11_matchText_13 : decode cX11_matchText 13 = .ok (.aload_n 0, 1) := by decide +kernel
theorem dX11_matchText_14 : decode cX11_matchText 14 = .ok (.invokevirtual 113, 3) := by decide +kernel
theorem dX11_matchText_17 : decode cX11_matchText 17 = .ok (.iconst (-1), 1) := by decide +kernel
theorem dX11_matchText_18 : decode cX11_matchText 18 = .ok (.if_icmp .ne 25, 3) := by decide +kernel
theorem dX11_matchText_21 : decode cX11_matchText 21 = .ok (.aload_n 0, 1) := by decide +kernel
theorem dX11_matchText_22 : decode cX11_matchText 22 = .ok (.getfield 33, 3) := by decide +kernel
theorem dX11_matchText_25 : decode cX11_matchText 25 = .ok (.getfield 172, 3) := by decide +kernel
theorem dX11_matchText_28 : decode cX11_matchText 28 = .ok (.ifCond .eq 15, 3) := by decide +kernel
theorem dX11_matchText_31 : decode cX11_matchText 31 = .ok (.aload_n 0, 1) := by decide +kernel
theorem dX11_matchText_32 : decode cX11_matchText 32 = .ok (.getfield 33, 3) := by decide +kernel
theorem dX11_matchText_35 : decode cX11_matchText 35 = .ok (.getfield 175, 3) := by decide +kernel
theorem dX11_matchText_38 : decode cX11_matchText 38 = .ok (.iconst 0, 1) := by decide +kernel
theorem dX11_matchText_39 : decode cX11_matchText 39 = .ok (.iaload, 1) := by decide +kernel
theorem dX11_matchText_40 : decode cX11_matchText 40 = .ok (.ifCond .eq 5, 3) := by decide +kernel
theorem dX11_matchText_43 : decode cX11_matchText 43 = .ok (.iconst 0, 1) := by decide +kernel
theorem dX11_matchText_44 : decode cX11_matchText 44 = .ok (.ireturn, 1) := by decide +kernel
theorem dX11_matchText_45 : decode cX11_matchText 45 = .ok (.aload_n 0, 1) := by decide +kernel
theorem dX11_matchText_46 : decode cX11_matchText 46 = .ok (.getfield 46, 3) := by decide +kernel
theorem dX11_matchText_49 : decode cX11_matchText 49 = .ok (.aload_n 2, 1) := by decide +kernel
theorem dX11_matchText_50 : decode cX11_matchText 50 = .ok (.aload_n 0, 1) := by decide +kernel
theorem dX11_matchText_51 : decode cX11_matchText 51 = .ok (.getfield 33, 3) := by decide +kernel
theorem dX11_matchText_54 : decode cX11_matchText 54 = .ok (.invokevirtual 177, 3) := by decide +kernel
theorem dX11_matchText_57 : decode cX11_matchText 57 = .ok (.iconst 1, 1) := by decide +kernel
theorem dX11_matchText_58 : decode cX11_matchText 58 = .ok (.ireturn, 1) := by decide +kernel
theorem dX11_merge_0 : decode cX11_merge 0 = .ok (.aload_n 0, 1) := by decide +kernel
theorem dX11_merge_1 : decode cX11_merge 1 = .ok (.getfield 53, 3) := by decide +kernel
theorem dX11_merge_4 : decode cX11_merge 4 = .ok (.iload_n 1, 1) := by decide +kernel
theorem dX11_merge_5 : decode cX11_merge 5 = .ok (.iload_n 2, 1) := by decide +kernel
theorem dX11_merge_6 : decode cX11_merge 6 = .ok (.invokevirtual 259, 3) := by decide +kernel
theorem dX11_merge_9 : decode cX11_merge 9 = .ok (.ifCond .eq 5, 3) := by decide +kernel
theorem dX11_merge_12 : decode cX11_merge 12 = .ok (.iload_n 1, 1) := by decide +kernel
theorem dX11_merge_13 : decode cX11_merge 13 = .ok (.ireturn, 1) := by decide +kernel
theorem dX11_merge_14 : decode cX11_merge 14 = .ok (.aload_n 0, 1) := by decide +kernel
theorem dX11_merge_15 : decode cX11_merge 15 = .ok (.getfield 53, 3) := by decide +kernel
theorem dX11_merge_18 : decode cX11_merge 18 = .ok (.iload_n 2, 1) := by decide +kernel
theorem dX11_merge_19 : decode cX11_merge 19 = .ok (.iload_n 1, 1) := by decide +kernel
theorem dX11_merge_20 : decode cX11_merge 20 = .ok (.invokevirtual 259, 3) := by decide +kernel
theorem dX11_merge_23 : decode cX11_merge 23 = .ok (.ifCond .eq 5, 3) := by decide +kernel
theorem dX11_merge_26 : decode cX11_merge 26 = .ok (.iload_n 2, 1) := by decide +kernel
theorem dX11_merge_27 : decode cX11_merge 27 = .ok (.ireturn, 1) := by decide +kernel
theorem dX11_merge_28 : decode cX11_merge 28 = .ok (.aload_n 0, 1) := by decide +kernel
theorem dX11_merge_29 : decode cX11_merge 29 = .ok (.getfield 53, 3) := by decide +kernel
theorem dX11_merge_32 : decode cX11_merge 32 = .ok (.invokevirtual 135, 3) := by decide +kernel
theorem dX11_merge_35 : decode cX11_merge 35 = .ok (.ifCond .eq 5, 3) := by decide +kernel
theorem dX11_merge_38 : decode cX11_merge 38 = .ok (.iconst (-1), 1) := by decide +kernel
theorem dX11_merge_39 : decode cX11_merge 39 = .ok (.ireturn, 1) := by decide +kernel
theorem dX11_merge_40 : decode cX11_merge 40 = .ok (.aload_n 0, 1) := by decide +kernel
theorem dX11_merge_41 : decode cX11_merge 41 = .ok (.iload_n 1, 1) := by decide +kernel
theorem dX11_merge_42 : decode cX11_merge 42 = .ok (.iload_n 2, 1) := by decide +kernel
theorem dX11_merge_43 : decode cX11_merge 43 = .ok (.invokevirtual 255, 3) := by decide +kernel
theorem dX11_merge_46 : decode cX11_merge 46 = .ok (.istore_n 3, 1) := by decide +kernel
theorem dX11_merge_47 : decode cX11_merge 47 = .ok (.iload_n 3, 1) := by decide +kernel
theorem dX11_merge_48 : decode cX11_merge 48 = .ok (.bipush 100, 2) := by decide +kernel
theorem dX11_merge_50 : decode cX11_merge 50 = .ok (.if_icmp .ne 10, 3) := by decide +kernel
theorem dX11_merge_53 : decode cX11_merge 53 = .ok (.aload_n 0, 1) := by decide +kernel
theorem dX11_merge_54 : decode cX11_merge 54 = .ok (.getfield 78, 3) := by decide +kernel
theorem dX11_merge_57 : decode cX11_merge 57 = .ok (.goto 11, 3) := by decide +kernel
theorem dX11_merge_60 : decode cX11_merge 60 = .ok (.aload_n 0, 1) := by decide +kernel
theorem dX11_merge_61 : decode cX11_merge 61 = .ok (.getfield 53, 3) := by decide +kernel
theorem dX11_merge_64 : decode cX11_merge 64 = .ok (.iload_n 3, 1) := by decide +kernel
theorem dX11_merge_65 : decode cX11_merge 65 = .ok (.invokevirtual 168, 3) := by decide +kernel
theorem dX11_merge_68 : decode cX11_merge 68 = .ok (.astore 4, 2) := by decide +kernel
theorem dX11_merge_70 : decode cX11_merge 70 = .ok (.aload_n 0, 1) := by decide +kernel
theorem dX11_merge_71 : decode cX11_merge 71 = .ok (.aload 4, 2) := by decide +kernel
theorem dX11_merge_73 : decode cX11_merge 73 = .ok (.iload_n 1, 1) := by decide +kernel
theorem dX11_merge_74 : decode cX11_merge 74 = .ok (.iload_n 2, 1) := by decide +kernel
theorem dX11_merge_75 : decode cX11_merge 75 = .ok (.iload_n 1, 1) := by decide +kernel
theorem dX11_merge_76 : decode cX11_merge 76 = .ok (.iload_n 2, 1) := by decide +kernel
theorem dX11_merge_77 : decode cX11_merge 77 = .ok (.invokevirtual 262, 3) := by decide +kernel
theorem dX11_merge_80 : decode cX11_merge 80 = .ok (.ireturn, 1) := by decide +kernel
theorem dX11_mergeOn_0 : decode cX11_mergeOn 0 = .ok (.aload_n 1, 1) := by decide +kernel
theorem dX11_mergeOn_1 : decode cX11_mergeOn 1 = .ok (.ifnull 25, 3) := by decide +kernel
theorem dX11_mergeOn_4 : decode cX11_mergeOn 4 = .ok (.aload_n 0, 1) := by decide +kernel
theorem dX11_mergeOn_5 : decode cX11_mergeOn 5 = .ok (.getfield 53, 3) := by decide +kernel
theorem dX11_mergeOn_8 : decode cX11_mergeOn 8 = .ok (.iload_n 2, 1) := by decide +kernel
theorem dX11_mergeOn_9 : decode cX11_mergeOn 9 = .ok (.invokevirtual 165, 3) := by decide +kernel
theorem dX11_mergeOn_12 : decode cX11_mergeOn 12 = .ok (.ifCond .eq 14, 3) := by decide +kernel
theorem dX11_mergeOn_15 : decode cX11_mergeOn 15 = .ok (.aload_n 0, 1) := by decide +kernel
theorem dX11_mergeOn_16 : decode cX11_mergeOn 16 = .ok (.getfield 53, 3) := by decide +kernel
theorem dX11_mergeOn_19 : decode cX11_mergeOn 19 = .ok (.iload_n 3, 1) := by decide +kernel
theorem dX11_mergeOn_20 : decode cX11_mergeOn 20 = .ok (.invokevirtual 165, 3) := by decide +kernel
theorem dX11_mergeOn_23 : decode cX11_mergeOn 23 = .ok (.ifCond .ne 5, 3) := by decide +kernel
theorem dX11_mergeOn_26 : decode cX11_mergeOn 26 = .ok (.iconst (-1), 1) := by decide +kernel
theorem dX11_mergeOn_27 : decode cX11_mergeOn 27 = .ok (.ireturn, 1) := by decide +kernel
theorem dX11_mergeOn_28 : decode cX11_mergeOn 28 = .ok (.aload_n 0, 1) := by decide +kernel
theorem dX11_mergeOn_29 : decode cX11_mergeOn 29 = .ok (.aload_n 1, 1) := by decide +kernel
theorem dX11_mergeOn_30 : decode cX11_mergeOn 30 = .ok (.iload_n 2, 1) := by decide +kernel
theorem dX11_mergeOn_31 : decode cX11_mergeOn 31 = .ok (.iload_n 3, 1) := by decide +kernel
theorem dX11_mergeOn_32 : decode cX11_mergeOn 32 = .ok (.invokevirtual 278, 3) := by decide +kernel
theorem dX11_mergeOn_35 : decode cX11_mergeOn 35 = .ok (.istore 6, 2) := by decide +kernel
theorem dX11_mergeOn_37 : decode cX11_mergeOn 37 = .ok (.aload_n 0, 1) := by decide +kernel
theorem dX11_mergeOn_38 : decode cX11_mergeOn 38 = .ok (.aload_n 0, 1) := by decide +kernel
theorem dX11_mergeOn_39 : decode cX11_mergeOn 39 = .ok (.getfield 74, 3) := by decide +kernel
theorem dX11_mergeOn_42 : decode cX11_mergeOn 42 = .ok (.aload_n 0, 1) := by decide +kernel
theorem dX11_mergeOn_43 : decode cX11_mergeOn 43 = .ok (.getfield 95, 3) := by decide +kernel
theorem dX11_mergeOn_46 : decode cX11_mergeOn 46 = .ok (.invokevirtual 305, 3) := by decide +kernel
theorem dX11_mergeOn_49 : decode cX11_mergeOn 49 = .ok (.putfield 309, 3) := by decide +kernel
theorem dX11_mergeOn_52 : decode cX11_mergeOn 52 = .ok (.iload 6, 2) := by decide +kernel
theorem dX11_mergeOn_54 : decode cX11_mergeOn 54 = .ok (.ifCond .eq 24, 3) := by decide +kernel
theorem dX11_mergeOn_57 : decode cX11_mergeOn 57 = .ok (.aload_n 0, 1) := by decide +kernel
theorem dX11_mergeOn_58 : decode cX11_mergeOn 58 = .ok (.getfield 53, 3) := by decide +kernel
theorem dX11_mergeOn_61 : decode cX11_mergeOn 61 = .ok (.aload_n 0, 1) := by decide +kernel
theorem dX11_mergeOn_62 : decode cX11_mergeOn 62 = .ok (.getfield 74, 3) := by decide +kernel
theorem dX11_mergeOn_65 : decode cX11_mergeOn 65 = .ok (.getfield 282, 3) := by decide +kernel
theorem dX11_mergeOn_68 : decode cX11_mergeOn 68 = .ok (.iload 4, 2) := by decide +kernel
theorem dX11_mergeOn_70 : decode cX11_mergeOn 70 = .ok (.iload 5, 2) := by decide +kernel
theorem dX11_mergeOn_72 : decode cX11_mergeOn 72 = .ok (.invokevirtual 204, 3) := by decide +kernel
theorem dX11_mergeOn_75 : decode cX11_mergeOn 75 = .ok (.goto 4, 3) := by decide +kernel
theorem dX11_mergeOn_78 : decode cX11_mergeOn 78 = .ok (.iconst (-1), 1) := by decide +kernel
theorem dX11_mergeOn_79 : decode cX11_mergeOn 79 = .ok (.ireturn, 1) := by decide +kernel
theorem dX11_move_0 : decode cX11_move 0 = .ok (.aload_n 0, 1) := by decide +kernel
theorem dX11_move_1 : decode cX11_move 1 = .ok (.getfield 60, 3) := by decide +kernel
theorem dX11_move_4 : decode cX11_move 4 = .ok (.iload_n 1, 1) := by decide +kernel
theorem dX11_move_5 : decode cX11_move 5 = .ok (.invokevirtual 220, 3) := by decide +kernel
theorem dX11_move_8 : decode cX11_move 8 = .ok (.istore 4, 2) := by decide +kernel
theorem dX11_move_10 : decode cX11_move 10 = .ok (.aload_n 0, 1) := by decide +kernel
theorem dX11_move_11 : decode cX11_move 11 = .ok (.getfield 60, 3) := by decide +kernel
theorem dX11_move_14 : decode cX11_move 14 = .ok (.iload_n 2, 1) := by decide +kernel
theorem dX11_move_15 : decode cX11_move 15 = .ok (.invokevirtual 220, 3) := by decide +kernel
theorem dX11_move_18 : decode cX11_move 18 = .ok (.istore 5, 2) := by decide +kernel
theorem dX11_move_20 : decode cX11_move 20 = .ok (.iload 4, 2) := by decide +kernel
theorem dX11_move_22 : decode cX11_move 22 = .ok (.iconst (-1), 1) := by decide +kernel
theorem dX11_move_23 : decode cX11_move 23 = .ok (.if_icmp .eq 31, 3) := by decide +kernel
theorem dX11_move_26 : decode cX11_move 26 = .ok (.iload 4, 2) := by decide +kernel
theorem dX11_move_28 : decode cX11_move 28 = .ok (.ifCond .eq 26, 3) := by decide +kernel
theorem dX11_move_31 : decode cX11_move 31 = .ok (.iload 5, 2) := by decide +kernel
theorem dX11_move_33 : decode cX11_move 33 = .ok (.iconst (-1), 1) := by decide +kernel
theorem dX11_move_34 : decode cX11_move 34 = .ok (.if_icmp .eq 20, 3) := by decide +kernel
theorem dX11_move_37 : decode cX11_move 37 = .ok (.aload_n 0, 1) := by decide +kernel
theorem dX11_move_38 : decode cX11_move 38 = .ok (.getfield 60, 3) := by decide +kernel
theorem dX11_move_41 : decode cX11_move 41 = .ok (.getfield 214, 3) := by decide +kernel
theorem dX11_move_44 : decode cX11_move 44 = .ok (.iload 5, 2) := by decide +kernel
theorem dX11_move_46 : decode cX11_move 46 = .ok (.iload 4, 2) := by decide +kernel
theorem dX11_move_48 : decode cX11_move 48 = .ok (.invokevirtual 247, 3) := by decide +kernel
theorem dX11_move_51 : decode cX11_move 51 = .ok (.ifCond .eq 5, 3) := by decide +kernel
theorem dX11_move_54 : decode cX11_move 54 = .ok (.iconst 0, 1) := by decide +kernel
theorem dX11_move_55 : decode cX11_move 55 = .ok (.ireturn, 1) := by decide +kernel
theorem dX11_move_56 : decode cX11_move 56 = .ok (.aload_n 0, 1) := by decide +kernel
theorem dX11_move_57 : decode cX11_move 57 = .ok (.getfield 60, 3) := by decide +kernel
theorem dX11_move_60 : decode cX11_move 60 = .ok (.iload 5, 2) := by decide +kernel
theorem dX11_move_62 : decode cX11_move 62 = .ok (.iload_n 3, 1) := by decide +kernel
theorem dX11_move_63 : decode cX11_move 63 = .ok (.iload 4, 2) := by decide +kernel
theorem dX11_move_65 : decode cX11_move 65 = .ok (.aload_n 0, 1) := by decide +kernel
theorem dX11_move_66 : decode cX11_move 66 = .ok (.getfield 19, 3) := by decide +kernel
theorem dX11_move_69 : decode cX11_move 69 = .ok (.invokevirtual 230, 3) := by decide +kernel
theorem dX11_move_72 : decode cX11_move 72 = .ok (.ifCond .ne 5, 3) := by decide +kernel
theorem dX11_move_75 : decode cX11_move 75 = .ok (.iconst 0, 1) := by decide +kernel
theorem dX11_move_76 : decode cX11_move 76 = .ok (.ireturn, 1) := by decide +kernel
theorem dX11_move_77 : decode cX11_move 77 = .ok (.aload_n 0, 1) := by decide +kernel
theorem dX11_move_78 : decode cX11_move 78 = .ok (.getfield 60, 3) := by decide +kernel
theorem dX11_move_81 : decode cX11_move 81 = .ok (.getfield 214, 3) := by decide +kernel
theorem dX11_move_84 : decode cX11_move 84 = .ok (.getfield 175, 3) := by decide +kernel
theorem dX11_move_87 : decode cX11_move 87 = .ok (.iload 4, 2) := by decide +kernel
theorem dX11_move_89 : decode cX11_move 89 = .ok (.iaload, 1) := by decide +kernel
theorem dX11_move_90 : decode cX11_move 90 = .ok (.istore 6, 2) := by decide +kernel
theorem dX11_move_92 : decode cX11_move 92 = .ok (.aload_n 0, 1) := by decide +kernel
theorem dX11_move_93 : decode cX11_move 93 = .ok (.getfield 60, 3) := by decide +kernel
theorem dX11_move_96 : decode cX11_move 96 = .ok (.getfield 214, 3) := by decide +kernel
theorem dX11_move_99 : decode cX11_move 99 = .ok (.getfield 251, 3) := by decide +kernel
theorem dX11_move_102 : decode cX11_move 102 = .ok (.iload 4, 2) := by decide +kernel
theorem dX11_move_104 : decode cX11_move 104 = .ok (.laload, 1) := by decide +kernel
theorem dX11_move_105 : decode cX11_move 105 = .ok (.lstore 7, 2) := by decide +kernel
theorem dX11_move_107 : decode cX11_move 107 = .ok (.aload_n 0, 1) := by decide +kernel
theorem dX11_move_108 : decode cX11_move 108 = .ok (.getfield 60, 3) := by decide +kernel
theorem dX11_move_111 : decode cX11_move 111 = .ok (.iload 4, 2) := by decide +kernel
theorem dX11_move_113 : decode cX11_move 113 = .ok (.invokevirtual 244, 3) := by decide +kernel
theorem dX11_move_116 : decode cX11_move 116 = .ok (.aload_n 0, 1) := by decide +kernel
theorem dX11_move_117 : decode cX11_move 117 = .ok (.getfield 60, 3) := by decide +kernel
theorem dX11_move_120 : decode cX11_move 120 = .ok (.iload_n 1, 1) := by decide +kernel
theorem dX11_move_121 : decode cX11_move 121 = .ok (.iload_n 2, 1) := by decide +kernel
theorem dX11_move_122 : decode cX11_move 122 = .ok (.iload_n 3, 1) := by decide +kernel
theorem dX11_move_123 : decode cX11_move 123 = .ok (.iload 6, 2) := by decide +kernel
theorem dX11_move_125 : decode cX11_move 125 = .ok (.lload 7, 2) := by decide +kernel
theorem dX11_move_127 : decode cX11_move 127 = .ok (.invokevirtual 234, 3) := by decide +kernel
theorem dX11_move_130 : decode cX11_move 130 = .ok (.aload_n 0, 1) := by decide +kernel
theorem dX11_move_131 : decode cX11_move 131 = .ok (.getfield 60, 3) := by decide +kernel
theorem dX11_move_134 : decode cX11_move 134 = .ok (.aload_n 0, 1) := by decide +kernel
theorem dX11_move_135 : decode cX11_move 135 = .ok (.getfield 19, 3) := by decide +kernel
theorem dX11_move_138 : decode cX11_move 138 = .ok (.invokevirtual 238, 3) := by decide +kernel
theorem dX11_move_141 : decode cX11_move 141 = .ok (.iconst 1, 1) := by decide +kernel
theorem dX11_move_142 : decode cX11_move 142 = .ok (.ireturn, 1) := by decide +kernel
theorem dX11_name_0 : decode cX11_name 0 = .ok (.aload_n 0, 1) := by decide +kernel
theorem dX11_name_1 : decode cX11_name 1 = .ok (.getfield 53, 3) := by decide +kernel
theorem dX11_name_4 : decode cX11_name 4 = .ok (.iload_n 1, 1) := by decide +kernel
theorem dX11_name_5 : decode cX11_name 5 = .ok (.invokevirtual 168, 3) := by decide +kernel
theorem dX11_name_8 : decode cX11_name 8 = .ok (.astore_n 2, 1) := by decide +kernel
theorem dX11_name_9 : decode cX11_name 9 = .ok (.aload_n 2, 1) := by decide +kernel
theorem dX11_name_10 : decode cX11_name 10 = .ok (.ifnonnull 7, 3) := by decide +kernel
theorem dX11_name_13 : decode cX11_name 13 = .ok (.iconst (-1), 1) := by decide +kernel
theorem dX11_name_14 : decode cX11_name 14 = .ok (.goto 12, 3) := by decide +kernel
theorem dX11_name_17 : decode cX11_name 17 = .ok (.aload_n 2, 1) := by decide +kernel
theorem dX11_name_18 : decode cX11_name 18 = .ok (.iconst 0, 1) := by decide +kernel
theorem dX11_name_19 : decode cX11_name 19 = .ok (.aload_n 0, 1) := by decide +kernel
theorem dX11_name_20 : decode cX11_name 20 = .ok (.getfield 98, 3) := by decide +kernel
theorem dX11_name_23 : decode cX11_name 23 = .ok (.invokevirtual 327, 3) := by decide +kernel
theorem dX11_name_26 : decode cX11_name 26 = .ok (.ireturn, 1) := by decide +kernel
theorem dX11_newNumber_0 : decode cX11_newNumber 0 = .ok (.aload_n 0, 1) := by decide +kernel
theorem dX11_newNumber_1 : decode cX11_newNumber 1 = .ok (.getfield 181, 3) := by decide +kernel
theorem dX11_newNumber_4 : decode cX11_newNumber 4 = .ok (.sipush 150, 3) := by decide +kernel
theorem dX11_newNumber_7 : decode cX11_newNumber 7 = .ok (.if_icmp .lt 5, 3) := by decide +kernel
theorem dX11_newNumber_10 : decode cX11_newNumber 10 = .ok (.iconst (-1), 1) := by decide +kernel
theorem dX11_newNumber_11 : decode cX11_newNumber 11 = .ok (.ireturn, 1) := by decide +kernel
theorem dX11_newNumber_12 : decode cX11_newNumber 12 = .ok (.aload_n 0, 1) := by decide +kernel
theorem dX11_newNumber_13 : decode cX11_newNumber 13 = .ok (.getfield 91, 3) := by decide +kernel
theorem dX11_newNumber_16 : decode cX11_newNumber 16 = .ok (.aload_n 0, 1) := by decide +kernel
theorem dX11_newNumber_17 : decode cX11_newNumber 17 = .ok (.getfield 181, 3) := by decide +kernel
theorem dX11_newNumber_20 : decode cX11_newNumber 20 = .ok (.iload_n 1, 1) := by decide +kernel
theorem dX11_newNumber_21 : decode cX11_newNumber 21 = .ok (.iastore, 1) := by decide +kernel
theorem dX11_newNumber_22 : decode cX11_newNumber 22 = .ok (.aload_n 0, 1) := by decide +kernel
theorem dX11_newNumber_23 : decode cX11_newNumber 23 = .ok (.dup, 1) := by decide +kernel
theorem dX11_newNumber_24 : decode cX11_newNumber 24 = .ok (.getfield 181, 3) := by decide +kernel
theorem dX11_newNumber_27 : decode cX11_newNumber 27 = .ok (.iconst 1, 1) := by decide +kernel
theorem dX11_newNumber_28 : decode cX11_newNumber 28 = .ok (.iadd, 1) := by decide +kernel
theorem dX11_newNumber_29 : decode cX11_newNumber 29 = .ok (.putfield 181, 3) := by decide +kernel
theorem dX11_newNumber_32 : decode cX11_newNumber 32 = .ok (.aload_n 0, 1) := by decide +kernel
theorem dX11_newNumber_33 : decode cX11_newNumber 33 = .ok (.getfield 181, 3) := by decide +kernel
theorem dX11_newNumber_36 : decode cX11_newNumber 36 = .ok (.iconst 1, 1) := by decide +kernel
theorem dX11_newNumber_37 : decode cX11_newNumber 37 = .ok (.isub, 1) := by decide +kernel
theorem dX11_newNumber_38 : decode cX11_newNumber 38 = .ok (.ireturn, 1) := by decide +kernel
theorem dX11_next_0 : decode cX11_next 0 = .ok (.aload_n 0, 1) := by decide +kernel
theorem dX11_next_1 : decode cX11_next 1 = .ok (.getfield 53, 3) := by decide +kernel
theorem dX11_next_4 : decode cX11_next 4 = .ok (.invokevirtual 135, 3) := by decide +kernel
theorem dX11_next_7 : decode cX11_next 7 = .ok (.ifCond .ne 29, 3) := by decide +kernel
theorem dX11_next_10 : decode cX11_next 10 = .ok (.aload_n 0, 1) := by decide +kernel
theorem dX11_next_11 : decode cX11_next 11 = .ok (.getfield 53, 3) := by decide +kernel
theorem dX11_next_14 : decode cX11_next 14 = .ok (.iload_n 1, 1) := by decide +kernel
theorem dX11_next_15 : decode cX11_next 15 = .ok (.invokevirtual 165, 3) := by decide +kernel
theorem dX11_next_18 : decode cX11_next 18 = .ok (.ifCond .eq 18, 3) := by decide +kernel
theorem dX11_next_21 : decode cX11_next 21 = .ok (.aload_n 0, 1) := by decide +kernel
theorem dX11_next_22 : decode cX11_next 22 = .ok (.invokevirtual 139, 3) := by decide +kernel
theorem dX11_next_25 : decode cX11_next 25 = .ok (.ifCond .eq 11, 3) := by decide +kernel
theorem dX11_next_28 : decode cX11_next 28 = .ok (.aload_n 0, 1) := by decide +kernel
theorem dX11_next_29 : decode cX11_next 29 = .ok (.iload_n 1, 1) := by decide +kernel
theorem dX11_next_30 : decode cX11_next 30 = .ok (.invokevirtual 149, 3) := by decide +kernel
theorem dX11_next_33 : decode cX11_next 33 = .ok (.ifCond .ne 5, 3) := by decide +kernel
theorem dX11_next_36 : decode cX11_next 36 = .ok (.iconst (-1), 1) := by decide +kernel
theorem dX11_next_37 : decode cX11_next 37 = .ok (.ireturn, 1) := by decide +kernel
theorem dX11_next_38 : decode cX11_next 38 = .ok (.aload_n 0, 1) := by decide +kernel
theorem dX11_next_39 : decode cX11_next 39 = .ok (.iload_n 1, 1) := by decide +kernel
theorem dX11_next_40 : decode cX11_next 40 = .ok (.invokevirtual 145, 3) := by decide +kernel
theorem dX11_next_43 : decode cX11_next 43 = .ok (.ireturn, 1) := by decide +kernel
theorem dX11_node_0 : decode cX11_node 0 = .ok (.aload_n 0, 1) := by decide +kernel
theorem dX11_node_1 : decode cX11_node 1 = .ok (.getfield 53, 3) := by decide +kernel
theorem dX11_node_4 : decode cX11_node 4 = .ok (.iload_n 1, 1) := by decide +kernel
theorem dX11_node_5 : decode cX11_node 5 = .ok (.invokevirtual 168, 3) := by decide +kernel
theorem dX11_node_8 : decode cX11_node 8 = .ok (.astore_n 3, 1) := by decide +kernel
theorem dX11_node_9 : decode cX11_node 9 = .ok (.aload_n 3, 1) := by decide +kernel
theorem dX11_node_10 : decode cX11_node 10 = .ok (.ifnonnull 5, 3) := by decide +kernel
theorem dX11_node_13 : decode cX11_node 13 = .ok (.iconst (-1), 1) := by decide +kernel
theorem dX11_node_14 : decode cX11_node 14 = .ok (.ireturn, 1) := by decide +kernel
theorem dX11_node_15 : decode cX11_node 15 = .ok (.iload_n 2, 1) := by decide +kernel
theorem dX11_node_16 : decode cX11_node 16 = .ok (.iconst (-1), 1) := by decide +kernel
theorem dX11_node_17 : decode cX11_node 17 = .ok (.if_icmp .ne 8, 3) := by decide +kernel
theorem dX11_node_20 : decode cX11_node 20 = .ok (.aload_n 3, 1) := by decide +kernel
theorem dX11_node_21 : decode cX11_node 21 = .ok (.getfield 172, 3) := by decide +kernel
theorem dX11_node_24 : decode cX11_node 24 = .ok (.ireturn, 1) := by decide +kernel
theorem dX11_node_25 : decode cX11_node 25 = .ok (.iload_n 2, 1) := by decide +kernel
theorem dX11_node_26 : decode cX11_node 26 = .ok (.ifCond .lt 20, 3) := by decide +kernel
theorem dX11_node_29 : decode cX11_node 29 = .ok (.iload_n 2, 1) := by decide +kernel
theorem dX11_node_30 : decode cX11_node 30 = .ok (.aload_n 3, 1) := by decide +kernel
theorem dX11_node_31 : decode cX11_node 31 = .ok (.getfield 172, 3) := by decide +kernel
theorem dX11_node_34 : decode cX11_node 34 = .ok (.if_icmp .ge 12, 3) := by decide +kernel
theorem dX11_node_37 : decode cX11_node 37 = .ok (.aload_n 3, 1) := by decide +kernel
theorem dX11_node_38 : decode cX11_node 38 = .ok (.getfield 192, 3) := by decide +kernel
theorem dX11_node_41 : decode cX11_node 41 = .ok (.iload_n 2, 1) := by decide +kernel
theorem dX11_node_42 : decode cX11_node 42 = .ok (.iaload, 1) := by decide +kernel
theorem dX11_node_43 : decode cX11_node 43 = .ok (.goto 4, 3) := by decide +kernel
theorem dX11_node_46 : decode cX11_node 46 = .ok (.iconst (-1), 1) := by decide +kernel
theorem dX11_node_47 : decode cX11_node 47 = .ok (.ireturn, 1) := by decide +kernel
theorem dX11_of_0 : decode cX11_of 0 = .ok (.aload_n 0, 1) := by decide +kernel
theorem dX11_of_1 : decode cX11_of 1 = .ok (.iload_n 1, 1) := by decide +kernel
theorem dX11_of_2 : decode cX11_of 2 = .ok (.invokevirtual 320, 3) := by decide +kernel
theorem dX11_of_5 : decode cX11_of 5 = .ok (.astore 4, 2) := by decide +kernel
theorem dX11_of_7 : decode cX11_of 7 = .ok (.aload 4, 2) := by decide +kernel
theorem dX11_of_9 : decode cX11_of 9 = .ok (.ifnonnull 7, 3) := by decide +kernel
theorem dX11_of_12 : decode cX11_of 12 = .ok (.iconst (-1), 1) := by decide +kernel
theorem dX11_of_13 : decode cX11_of 13 = .ok (.goto 9, 3) := by decide +kernel
theorem dX11_of_16 : decode cX11_of 16 = .ok (.aload 4, 2) := by decide +kernel
theorem dX11_of_18 : decode cX11_of 18 = .ok (.iload_n 2, 1) := by decide +kernel
theorem dX11_of_19 : decode cX11_of 19 = .ok (.invokevirtual 323, 3) := by decide +kernel
theorem dX11_of_22 : decode cX11_of 22 = .ok (.istore 5, 2) := by decide +kernel
theorem dX11_of_24 : decode cX11_of 24 = .ok (.iload 5, 2) := by decide +kernel
theorem dX11_of_26 : decode cX11_of 26 = .ok (.iconst (-1), 1) := by decide +kernel
theorem dX11_of_27 : decode cX11_of 27 = .ok (.if_icmp .ne 5, 3) := by decide +kernel
theorem dX11_of_30 : decode cX11_of 30 = .ok (.iconst (-1), 1) := by decide +kernel
theorem dX11_of_31 : decode cX11_of 31 = .ok (.ireturn, 1) := by decide +kernel
theorem dX11_of_32 : decode cX11_of 32 = .ok (.iload_n 3, 1) := by decide +kernel
theorem dX11_of_33 : decode cX11_of 33 = .ok (.tableswitch 117 0 6 #[43, 52, 61, 69, 77, 89, 108], 43) := by decide +kernel
theorem dX11_of_76 : decode cX11_of 76 = .ok (.aload 4, 2) := by decide +kernel
theorem dX11_of_78 : decode cX11_of 78 = .ok (.getfield 175, 3) := by decide +kernel
theorem dX11_of_81 : decode cX11_of 81 = .ok (.iload 5, 2) := by decide +kernel
theorem dX11_of_83 : decode cX11_of 83 = .ok (.iaload, 1) := by decide +kernel
theorem dX11_of_84 : decode cX11_of 84 = .ok (.ireturn, 1) := by decide +kernel
theorem dX11_of_85 : decode cX11_of 85 = .ok (.aload 4, 2) := by decide +kernel
theorem dX11_of_87 : decode cX11_of 87 = .ok (.getfield 198, 3) := by decide +kernel
theorem dX11_of_90 : decode cX11_of 90 = .ok (.iload 5, 2) := by decide +kernel
theorem dX11_of_92 : decode cX11_of 92 = .ok (.iaload, 1) := by decide +kernel
theorem dX11_of_93 : decode cX11_of 93 = .ok (.ireturn, 1) := by decide +kernel
theorem dX11_of_94 : decode cX11_of 94 = .ok (.aload 4, 2) := by decide +kernel
theorem dX11_of_96 : decode cX11_of 96 = .ok (.iload 5, 2) := by decide +kernel
theorem dX11_of_98 : decode cX11_of 98 = .ok (.invokevirtual 324, 3) := by decide +kernel
theorem dX11_of_101 : decode cX11_of 101 = .ok (.ireturn, 1) := by decide +kernel
theorem dX11_of_102 : decode cX11_of 102 = .ok (.aload 4, 2) := by decide +kernel
theorem dX11_of_104 : decode cX11_of 104 = .ok (.iload 5, 2) := by decide +kernel
theorem dX11_of_106 : decode cX11_of 106 = .ok (.invokevirtual 241, 3) := by decide +kernel
theorem dX11_of_109 : decode cX11_of 109 = .ok (.ireturn, 1) := by decide +kernel
theorem dX11_of_110 : decode cX11_of 110 = .ok (.aload 4, 2) := by decide +kernel
theorem dX11_of_112 : decode cX11_of 112 = .ok (.iload 5, 2) := by decide +kernel
theorem dX11_of_114 : decode cX11_of 114 = .ok (.aload_n 0, 1) := by decide +kernel
theorem dX11_of_115 : decode cX11_of 115 = .ok (.getfield 98, 3) := by decide +kernel
theorem dX11_of_118 : decode cX11_of 118 = .ok (.invokevirtual 327, 3) := by decide +kernel
theorem dX11_of_121 : decode cX11_of 121 = .ok (.ireturn, 1) := by decide +kernel
theorem dX11_of_122 : decode cX11_of 122 = .ok (.iload_n 1, 1) := by decide +kernel
theorem dX11_of_123 : decode cX11_of 123 = .ok (.bipush 12, 2) := by decide +kernel
theorem dX11_of_125 : decode cX11_of 125 = .ok (.if_icmp .ne 7, 3) := by decide +kernel
theorem dX11_of_128 : decode cX11_of 128 = .ok (.iconst (-1), 1) := by decide +kernel
theorem dX11_of_129 : decode cX11_of 129 = .ok (.goto 11, 3) := by decide +kernel
theorem dX11_of_132 : decode cX11_of 132 = .ok (.aload 4, 2) := by decide +kernel
theorem dX11_of_134 : decode cX11_of 134 = .ok (.getfield 331, 3) := by decide +kernel
theorem dX11_of_137 : decode cX11_of 137 = .ok (.iload 5, 2) := by decide +kernel
theorem dX11_of_139 : decode cX11_of 139 = .ok (.iaload, 1) := by decide +kernel
theorem dX11_of_140 : decode cX11_of 140 = .ok (.ireturn, 1) := by decide +kernel
theorem dX11_of_141 : decode cX11_of 141 = .ok (.aload 4, 2) := by decide +kernel
theorem dX11_of_143 : decode cX11_of 143 = .ok (.getfield 334, 3) := by decide +kernel
theorem dX11_of_146 : decode cX11_of 146 = .ok (.iload 5, 2) := by decide +kernel
theorem dX11_of_148 : decode cX11_of 148 = .ok (.iaload, 1) := by decide +kernel
theorem dX11_of_149 : decode cX11_of 149 = .ok (.ireturn, 1) := by decide +kernel
theorem dX11_of_150 : decode cX11_of 150 = .ok (.iconst (-1), 1) := by decide +kernel
theorem dX11_of_151 : decode cX11_of 151 = .ok (.ireturn, 1) := by decide +kernel
theorem dX11_parent_0 : decode cX11_parent 0 = .ok (.aload_n 0, 1) := by decide +kernel
theorem dX11_parent_1 : decode cX11_parent 1 = .ok (.getfield 53, 3) := by decide +kernel
theorem dX11_parent_4 : decode cX11_parent 4 = .ok (.iload_n 1, 1) := by decide +kernel
theorem dX11_parent_5 : decode cX11_parent 5 = .ok (.invokevirtual 165, 3) := by decide +kernel
theorem dX11_parent_8 : decode cX11_parent 8 = .ok (.ifCond .ne 5, 3) := by decide +kernel
theorem dX11_parent_11 : decode cX11_parent 11 = .ok (.iconst (-1), 1) := by decide +kernel
theorem dX11_parent_12 : decode cX11_parent 12 = .ok (.ireturn, 1) := by decide +kernel
theorem dX11_parent_13 : decode cX11_parent 13 = .ok (.iload_n 2, 1) := by decide +kernel
theorem dX11_parent_14 : decode cX11_parent 14 = .ok (.ifCond .ne 13, 3) := by decide +kernel
theorem dX11_parent_17 : decode cX11_parent 17 = .ok (.aload_n 0, 1) := by decide +kernel
theorem dX11_parent_18 : decode cX11_parent 18 = .ok (.getfield 53, 3) := by decide +kernel
theorem dX11_parent_21 : decode cX11_parent 21 = .ok (.getfield 361, 3) := by decide +kernel
theorem dX11_parent_24 : decode cX11_parent 24 = .ok (.iload_n 1, 1) := by decide +kernel
theorem dX11_parent_25 : decode cX11_parent 25 = .ok (.iaload, 1) := by decide +kernel
theorem dX11_parent_26 : decode cX11_parent 26 = .ok (.ireturn, 1) := by decide +kernel
theorem dX11_parent_27 : decode cX11_parent 27 = .ok (.iload_n 2, 1) := by decide +kernel
theorem dX11_parent_28 : decode cX11_parent 28 = .ok (.iconst 1, 1) := by decide +kernel
theorem dX11_parent_29 : decode cX11_parent 29 = .ok (.if_icmp .ne 15, 3) := by decide +kernel
theorem dX11_parent_32 : decode cX11_parent 32 = .ok (.aload_n 0, 1) := by decide +kernel
theorem dX11_parent_33 : decode cX11_parent 33 = .ok (.getfield 53, 3) := by decide +kernel
theorem dX11_parent_36 : decode cX11_parent 36 = .ok (.getfield 364, 3) := by decide +kernel
theorem dX11_parent_39 : decode cX11_parent 39 = .ok (.iload_n 1, 1) := by decide +kernel
theorem dX11_parent_40 : decode cX11_parent 40 = .ok (.iaload, 1) := by decide +kernel
theorem dX11_parent_41 : decode cX11_parent 41 = .ok (.goto 4, 3) := by decide +kernel
theorem dX11_parent_44 : decode cX11_parent 44 = .ok (.iconst (-1), 1) := by decide +kernel
theorem dX11_parent_45 : decode cX11_parent 45 = .ok (.ireturn, 1) := by decide +kernel
theorem dX11_print_0 : decode cX11_print 0 = .ok (.aload_n 0, 1) := by decide +kernel
theorem dX11_print_1 : decode cX11_print 1 = .ok (.getfield 53, 3) := by decide +kernel
theorem dX11_print_4 : decode cX11_print 4 = .ok (.iload_n 1, 1) := by decide +kernel
theorem dX11_print_5 : decode cX11_print 5 = .ok (.invokevirtual 168, 3) := by decide +kernel
theorem dX11_print_8 : decode cX11_print 8 = .ok (.astore_n 3, 1) := by decide +kernel
theorem dX11_print_9 : decode cX11_print 9 = .ok (.aload_n 3, 1) := by decide +kernel
theorem dX11_print_10 : decode cX11_print 10 = .ok (.ifnonnull 5, 3) := by decide +kernel
theorem dX11_print_13 : decode cX11_print 13 = .ok (.iconst (-1), 1) := by decide +kernel
theorem dX11_print_14 : decode cX11_print 14 = .ok (.ireturn, 1) := by decide +kernel
theorem dX11_print_15 : decode cX11_print 15 = .ok (.aload_n 0, 1) := by decide +kernel
theorem dX11_print_16 : decode cX11_print 16 = .ok (.getfield 87, 3) := by decide +kernel
theorem dX11_print_19 : decode cX11_print 19 = .ok (.iload_n 2, 1) := by decide +kernel
theorem dX11_print_20 : decode cX11_print 20 = .ok (.invokevirtual 349, 3) := by decide +kernel
theorem dX11_print_23 : decode cX11_print 23 = .ok (.aload_n 0, 1) := by decide +kernel
theorem dX11_print_24 : decode cX11_print 24 = .ok (.getfield 87, 3) := by decide +kernel
theorem dX11_print_27 : decode cX11_print 27 = .ok (.aload_n 3, 1) := by decide +kernel
theorem dX11_print_28 : decode cX11_print 28 = .ok (.aload_n 0, 1) := by decide +kernel
theorem dX11_print_29 : decode cX11_print 29 = .ok (.getfield 19, 3) := by decide +kernel
theorem dX11_print_32 : decode cX11_print 32 = .ok (.invokevirtual 352, 3) := by decide +kernel
theorem dX11_print_35 : decode cX11_print 35 = .ok (.iload_n 2, 1) := by decide +kernel
theorem dX11_print_36 : decode cX11_print 36 = .ok (.iconst (-1), 1) := by decide +kernel
theorem dX11_print_37 : decode cX11_print 37 = .ok (.if_icmp .ne 13, 3) := by decide +kernel
theorem dX11_print_40 : decode cX11_print 40 = .ok (.aload_n 0, 1) := by decide +kernel
theorem dX11_print_41 : decode cX11_print 41 = .ok (.getfield 87, 3) := by decide +kernel
theorem dX11_print_44 : decode cX11_print 44 = .ok (.getfield 355, 3) := by decide +kernel
theorem dX11_print_47 : decode cX11_print 47 = .ok (.goto 10, 3) := by decide +kernel
theorem dX11_print_50 : decode cX11_print 50 = .ok (.aload_n 0, 1) := by decide +kernel
theorem dX11_print_51 : decode cX11_print 51 = .ok (.getfield 87, 3) := by decide +kernel
theorem dX11_print_54 : decode cX11_print 54 = .ok (.getfield 358, 3) := by decide +kernel
theorem dX11_print_57 : decode cX11_print 57 = .ok (.ireturn, 1) := by decide +kernel
theorem dX11_put_0 : decode cX11_put 0 = .ok (.aload_n 0, 1) := by decide +kernel
theorem dX11_put_1 : decode cX11_put 1 = .ok (.getfield 60, 3) := by decide +kernel
theorem dX11_put_4 : decode cX11_put 4 = .ok (.iload_n 1, 1) := by decide +kernel
theorem dX11_put_5 : decode cX11_put 5 = .ok (.invokevirtual 220, 3) := by decide +kernel
theorem dX11_put_8 : decode cX11_put 8 = .ok (.istore 6, 2) := by decide +kernel
theorem dX11_put_10 : decode cX11_put 10 = .ok (.lload 4, 2) := by decide +kernel
theorem dX11_put_12 : decode cX11_put 12 = .ok (.invokestatic 223, 3) := by decide +kernel
theorem dX11_put_15 : decode cX11_put 15 = .ok (.lstore 7, 2) := by decide +kernel
theorem dX11_put_17 : decode cX11_put 17 = .ok (.iload 6, 2) := by decide +kernel
theorem dX11_put_19 : decode cX11_put 19 = .ok (.iconst (-1), 1) := by decide +kernel
theorem dX11_put_20 : decode cX11_put 20 = .ok (.if_icmp .eq 21, 3) := by decide +kernel
theorem dX11_put_23 : decode cX11_put 23 = .ok (.aload_n 0, 1) := by decide +kernel
theorem dX11_put_24 : decode cX11_put 24 = .ok (.getfield 19, 3) := by decide +kernel
theorem dX11_put_27 : decode cX11_put 27 = .ok (.iload_n 3, 1) := by decide +kernel
theorem dX11_put_28 : decode cX11_put 28 = .ok (.invokevirtual 227, 3) := by decide +kernel
theorem dX11_put_31 : decode cX11_put 31 = .ok (.ifCond .eq 10, 3) := by decide +kernel
theorem dX11_put_34 : decode cX11_put 34 = .ok (.lload 7, 2) := by decide +kernel
theorem dX11_put_36 : decode cX11_put 36 = .ok (.lconst 0, 1) := by decide +kernel
theorem dX11_put_37 : decode cX11_put 37 = .ok (.lcmp, 1) := by decide +kernel
theorem dX11_put_38 : decode cX11_put 38 = .ok (.ifCond .ge 5, 3) := by decide +kernel
theorem dX11_put_41 : decode cX11_put 41 = .ok (.iconst (-1), 1) := by decide +kernel
theorem dX11_put_42 : decode cX11_put 42 = .ok (.ireturn, 1) := by decide +kernel
theorem dX11_put_43 : decode cX11_put 43 = .ok (.aload_n 0, 1) := by decide +kernel
theorem dX11_put_44 : decode cX11_put 44 = .ok (.getfield 60, 3) := by decide +kernel
theorem dX11_put_47 : decode cX11_put 47 = .ok (.getfield 214, 3) := by decide +kernel
theorem dX11_put_50 : decode cX11_put 50 = .ok (.getfield 172, 3) := by decide +kernel
theorem dX11_put_53 : decode cX11_put 53 = .ok (.bipush 24, 2) := by decide +kernel
theorem dX11_put_55 : decode cX11_put 55 = .ok (.if_icmp .ge 31, 3) := by decide +kernel
theorem dX11_put_58 : decode cX11_put 58 = .ok (.aload_n 0, 1) := by decide +kernel
theorem dX11_put_59 : decode cX11_put 59 = .ok (.getfield 181, 3) := by decide +kernel
theorem dX11_put_62 : decode cX11_put 62 = .ok (.sipush 150, 3) := by decide +kernel
theorem dX11_put_65 : decode cX11_put 65 = .ok (.if_icmp .ge 21, 3) := by decide +kernel
theorem dX11_put_68 : decode cX11_put 68 = .ok (.aload_n 0, 1) := by decide +kernel
theorem dX11_put_69 : decode cX11_put 69 = .ok (.getfield 60, 3) := by decide +kernel
theorem dX11_put_72 : decode cX11_put 72 = .ok (.iload 6, 2) := by decide +kernel
theorem dX11_put_74 : decode cX11_put 74 = .ok (.iload_n 2, 1) := by decide +kernel
theorem dX11_put_75 : decode cX11_put 75 = .ok (.iconst (-1), 1) := by decide +kernel
theorem dX11_put_76 : decode cX11_put 76 = .ok (.aload_n 0, 1) := by decide +kernel
theorem dX11_put_77 : decode cX11_put 77 = .ok (.getfield 19, 3) := by decide +kernel
theorem dX11_put_80 : decode cX11_put 80 = .ok (.invokevirtual 230, 3) := by decide +kernel
theorem dX11_put_83 : decode cX11_put 83 = .ok (.ifCond .ne 5, 3) := by decide +kernel
theorem dX11_put_86 : decode cX11_put 86 = .ok (.iconst (-1), 1) := by decide +kernel
theorem dX11_put_87 : decode cX11_put 87 = .ok (.ireturn, 1) := by decide +kernel
theorem dX11_put_88 : decode cX11_put 88 = .ok (.aload_n 0, 1) := by decide +kernel
theorem dX11_put_89 : decode cX11_put 89 = .ok (.bipush (-2), 2) := by decide +kernel
theorem dX11_put_91 : decode cX11_put 91 = .ok (.invokevirtual 195, 3) := by decide +kernel
theorem dX11_put_94 : decode cX11_put 94 = .ok (.istore 9, 2) := by decide +kernel
theorem dX11_put_96 : decode cX11_put 96 = .ok (.aload_n 0, 1) := by decide +kernel
theorem dX11_put_97 : decode cX11_put 97 = .ok (.getfield 60, 3) := by decide +kernel
theorem dX11_put_100 : decode cX11_put 100 = .ok (.iload 9, 2) := by decide +kernel
theorem dX11_put_102 : decode cX11_put 102 = .ok (.iload_n 1, 1) := by decide +kernel
theorem dX11_put_103 : decode cX11_put 103 = .ok (.iload_n 2, 1) := by decide +kernel
theorem dX11_put_104 : decode cX11_put 104 = .ok (.iload_n 3, 1) := by decide +kernel
theorem dX11_put_105 : decode cX11_put 105 = .ok (.lload 7, 2) := by decide +kernel
theorem dX11_put_107 : decode cX11_put 107 = .ok (.invokevirtual 234, 3) := by decide +kernel
theorem dX11_put_110 : decode cX11_put 110 = .ok (.aload_n 0, 1) := by decide +kernel
theorem dX11_put_111 : decode cX11_put 111 = .ok (.getfield 60, 3) := by decide +kernel
theorem dX11_put_114 : decode cX11_put 114 = .ok (.aload_n 0, 1) := by decide +kernel
theorem dX11_put_115 : decode cX11_put 115 = .ok (.getfield 19, 3) := by decide +kernel
theorem dX11_put_118 : decode cX11_put 118 = .ok (.invokevirtual 238, 3) := by decide +kernel
theorem dX11_put_121 : decode cX11_put 121 = .ok (.iload 9, 2) := by decide +kernel
theorem dX11_put_123 : decode cX11_put 123 = .ok (.ireturn, 1) := by decide +kernel
theorem dX11_quarrel_0 : decode cX11_quarrel 0 = .ok (.iload_n 1, 1) := by decide +kernel
theorem dX11_quarrel_1 : decode cX11_quarrel 1 = .ok (.iconst (-1), 1) := by decide +kernel
theorem dX11_quarrel_2 : decode cX11_quarrel 2 = .ok (.if_icmp .ne 8, 3) := by decide +kernel
theorem dX11_quarrel_5 : decode cX11_quarrel 5 = .ok (.aload_n 0, 1) := by decide +kernel
theorem dX11_quarrel_6 : decode cX11_quarrel 6 = .ok (.getfield 309, 3) := by decide +kernel
theorem dX11_quarrel_9 : decode cX11_quarrel 9 = .ok (.ireturn, 1) := by decide +kernel
theorem dX11_quarrel_10 : decode cX11_quarrel 10 = .ok (.iload_n 1, 1) := by decide +kernel
theorem dX11_quarrel_11 : decode cX11_quarrel 11 = .ok (.ifCond .lt 20, 3) := by decide +kernel
theorem dX11_quarrel_14 : decode cX11_quarrel 14 = .ok (.iload_n 1, 1) := by decide +kernel
theorem dX11_quarrel_15 : decode cX11_quarrel 15 = .ok (.aload_n 0, 1) := by decide +kernel
theorem dX11_quarrel_16 : decode cX11_quarrel 16 = .ok (.getfield 309, 3) := by decide +kernel
theorem dX11_quarrel_19 : decode cX11_quarrel 19 = .ok (.if_icmp .ge 12, 3) := by decide +kernel
theorem dX11_quarrel_22 : decode cX11_quarrel 22 = .ok (.aload_n 0, 1) := by decide +kernel
theorem dX11_quarrel_23 : decode cX11_quarrel 23 = .ok (.getfield 95, 3) := by decide +kernel
theorem dX11_quarrel_26 : decode cX11_quarrel 26 = .ok (.iload_n 1, 1) := by decide +kernel
theorem dX11_quarrel_27 : decode cX11_quarrel 27 = .ok (.iaload, 1) := by decide +kernel
theorem dX11_quarrel_28 : decode cX11_quarrel 28 = .ok (.goto 4, 3) := by decide +kernel
theorem dX11_quarrel_31 : decode cX11_quarrel 31 = .ok (.iconst (-1), 1) := by decide +kernel
theorem dX11_quarrel_32 : decode cX11_quarrel 32 = .ok (.ireturn, 1) := by decide +kernel
theorem dX11_readTree_0 : decode cX11_readTree 0 = .ok (.aload_n 0, 1) := by decide +kernel
theorem dX11_readTree_1 : decode cX11_readTree 1 = .ok (.getfield 29, 3) := by decide +kernel
theorem dX11_readTree_4 : decode cX11_readTree 4 = .ok (.aload_n 0, 1) := by decide +kernel
theorem dX11_readTree_5 : decode cX11_readTree 5 = .ok (.getfield 12, 3) := by decide +kernel
theorem dX11_readTree_8 : decode cX11_readTree 8 = .ok (.aload_n 0, 1) := by decide +kernel
theorem dX11_readTree_9 : decode cX11_readTree 9 = .ok (.getfield 19, 3) := by decide +kernel
theorem dX11_readTree_12 : decode cX11_readTree 12 = .ok (.invokevirtual 128, 3) := by decide +kernel
theorem dX11_readTree_15 : decode cX11_readTree 15 = .ok (.istore_n 1, 1) := by decide +kernel
theorem dX11_readTree_16 : decode cX11_readTree 16 = .ok (.iload_n 1, 1) := by decide +kernel
theorem dX11_readTree_17 : decode cX11_readTree 17 = .ok (.iconst (-1), 1) := by decide +kernel
theorem dX11_readTree_18 : decode cX11_readTree 18 = .ok (.if_icmp .ne 18, 3) := by decide +kernel
theorem dX11_readTree_21 : decode cX11_readTree 21 = .ok (.aload_n 0, 1) := by decide +kernel
theorem dX11_readTree_22 : decode cX11_readTree 22 = .ok (.getfield 33, 3) := by decide +kernel
theorem dX11_readTree_25 : decode cX11_readTree 25 = .ok (.aload_n 0, 1) := by decide +kernel
theorem dX11_readTree_26 : decode cX11_readTree 26 = .ok (.getfield 29, 3) := by decide +kernel
theorem dX11_readTree_29 : decode cX11_readTree 29 = .ok (.aload_n 0, 1) := by decide +kernel
theorem dX11_readTree_30 : decode cX11_readTree 30 = .ok (.getfield 19, 3) := by decide +kernel
theorem dX11_readTree_33 : decode cX11_readTree 33 = .ok (.invokevirtual 131, 3) := by decide +kernel
theorem dX11_readTree_36 : decode cX11_readTree 36 = .ok (.iload_n 1, 1) := by decide +kernel
theorem dX11_readTree_37 : decode cX11_readTree 37 = .ok (.ireturn, 1) := by decide +kernel
theorem dX11_readsAndFits_0 : decode cX11_readsAndFits 0 = .ok (.aload_n 0, 1) := by decide +kernel
theorem dX11_readsAndFits_1 : decode cX11_readsAndFits 1 = .ok (.invokevirtual 113, 3) := by decide +kernel
theorem dX11_readsAndFits_4 : decode cX11_readsAndFits 4 = .ok (.iconst (-1), 1) := by decide +kernel
theorem dX11_readsAndFits_5 : decode cX11_readsAndFits 5 = .ok (.if_icmp .ne 26, 3) := by decide +kernel
theorem dX11_readsAndFits_8 : decode cX11_readsAndFits 8 = .ok (.aload_n 0, 1) := by decide +kernel
theorem dX11_readsAndFits_9 : decode cX11_readsAndFits 9 = .ok (.getfield 33, 3) := by decide +kernel
theorem dX11_readsAndFits_12 : decode cX11_readsAndFits 12 = .ok (.aload_n 0, 1) := by decide +kernel
theorem dX11_readsAndFits_13 : decode cX11_readsAndFits 13 = .ok (.getfield 19, 3) := by decide +kernel
theorem dX11_readsAndFits_16 : decode cX11_readsAndFits 16 = .ok (.aload_n 0, 1) := by decide +kernel
theorem dX11_readsAndFits_17 : decode cX11_readsAndFits 17 = .ok (.getfield 39, 3) := by decide +kernel
theorem dX11_readsAndFits_20 : decode cX11_readsAndFits 20 = .ok (.invokevirtual 124, 3) := by decide +kernel
theorem dX11_readsAndFits_23 : decode cX11_readsAndFits 23 = .ok (.iconst (-1), 1) := by decide +kernel
theorem dX11_readsAndFits_24 : decode cX11_readsAndFits 24 = .ok (.if_icmp .ne 7, 3) := by decide +kernel
theorem dX11_readsAndFits_27 : decode cX11_readsAndFits 27 = .ok (.iconst 1, 1) := by decide +kernel
theorem dX11_readsAndFits_28 : decode cX11_readsAndFits 28 = .ok (.goto 4, 3) := by decide +kernel
theorem dX11_readsAndFits_31 : decode cX11_readsAndFits 31 = .ok (.iconst 0, 1) := by decide +kernel
theorem dX11_readsAndFits_32 : decode cX11_readsAndFits 32 = .ok (.ireturn, 1) := by decide +kernel
theorem dX11_rename_0 : decode cX11_rename 0 = .ok (.aload_n 0, 1) := by decide +kernel
theorem dX11_rename_1 : decode cX11_rename 1 = .ok (.getfield 60, 3) := by decide +kernel
theorem dX11_rename_4 : decode cX11_rename 4 = .ok (.iload_n 1, 1) := by decide +kernel
theorem dX11_rename_5 : decode cX11_rename 5 = .ok (.invokevirtual 220, 3) := by decide +kernel
theorem dX11_rename_8 : decode cX11_rename 8 = .ok (.istore 4, 2) := by decide +kernel
theorem dX11_rename_10 : decode cX11_rename 10 = .ok (.lload_n 2, 1) := by decide +kernel
theorem dX11_rename_11 : decode cX11_rename 11 = .ok (.invokestatic 223, 3) := by decide +kernel
theorem dX11_rename_14 : decode cX11_rename 14 = .ok (.lstore 5, 2) := by decide +kernel
theorem dX11_rename_16 : decode cX11_rename 16 = .ok (.iload 4, 2) := by decide +kernel
theorem dX11_rename_18 : decode cX11_rename 18 = .ok (.iconst (-1), 1) := by decide +kernel
theorem dX11_rename_19 : decode cX11_rename 19 = .ok (.if_icmp .eq 29, 3) := by decide +kernel
theorem dX11_rename_22 : decode cX11_rename 22 = .ok (.lload 5, 2) := by decide +kernel
theorem dX11_rename_24 : decode cX11_rename 24 = .ok (.lconst 0, 1) := by decide +kernel
theorem dX11_rename_25 : decode cX11_rename 25 = .ok (.lcmp, 1) := by decide +kernel
theorem dX11_rename_26 : decode cX11_rename 26 = .ok (.ifCond .lt 22, 3) := by decide +kernel
theorem dX11_rename_29 : decode cX11_rename 29 = .ok (.aload_n 0, 1) := by decide +kernel
theorem dX11_rename_30 : decode cX11_rename 30 = .ok (.getfield 60, 3) := by decide +kernel
theorem dX11_rename_33 : decode cX11_rename 33 = .ok (.getfield 214, 3) := by decide +kernel
theorem dX11_rename_36 : decode cX11_rename 36 = .ok (.getfield 251, 3) := by decide +kernel
theorem dX11_rename_39 : decode cX11_rename 39 = .ok (.iload 4, 2) := by decide +kernel
theorem dX11_rename_41 : decode cX11_rename 41 = .ok (.laload, 1) := by decide +kernel
theorem dX11_rename_42 : decode cX11_rename 42 = .ok (.lload 5, 2) := by decide +kernel
theorem dX11_rename_44 : decode cX11_rename 44 = .ok (.lcmp, 1) := by decide +kernel
theorem dX11_rename_45 : decode cX11_rename 45 = .ok (.ifCond .ne 5, 3) := by decide +kernel
theorem dX11_rename_48 : decode cX11_rename 48 = .ok (.iconst 0, 1) := by decide +kernel
theorem dX11_rename_49 : decode cX11_rename 49 = .ok (.ireturn, 1) := by decide +kernel
theorem dX11_rename_50 : decode cX11_rename 50 = .ok (.aload_n 0, 1) := by decide +kernel
theorem dX11_rename_51 : decode cX11_rename 51 = .ok (.getfield 60, 3) := by decide +kernel
theorem dX11_rename_54 : decode cX11_rename 54 = .ok (.getfield 214, 3) := by decide +kernel
theorem dX11_rename_57 : decode cX11_rename 57 = .ok (.getfield 251, 3) := by decide +kernel
theorem dX11_rename_60 : decode cX11_rename 60 = .ok (.iload 4, 2) := by decide +kernel
theorem dX11_rename_62 : decode cX11_rename 62 = .ok (.lload 5, 2) := by decide +kernel
theorem dX11_rename_64 : decode cX11_rename 64 = .ok (.lastore, 1) := by decide +kernel
theorem dX11_rename_65 : decode cX11_rename 65 = .ok (.aload_n 0, 1) := by decide +kernel
theorem dX11_rename_66 : decode cX11_rename 66 = .ok (.getfield 60, 3) := by decide +kernel
theorem dX11_rename_69 : decode cX11_rename 69 = .ok (.aload_n 0, 1) := by decide +kernel
theorem dX11_rename_70 : decode cX11_rename 70 = .ok (.getfield 19, 3) := by decide +kernel
theorem dX11_rename_73 : decode cX11_rename 73 = .ok (.invokevirtual 238, 3) := by decide +kernel
theorem dX11_rename_76 : decode cX11_rename 76 = .ok (.iconst 1, 1) := by decide +kernel
theorem dX11_rename_77 : decode cX11_rename 77 = .ok (.ireturn, 1) := by decide +kernel
theorem dX11_runMerging_0 : decode cX11_runMerging 0 = .ok (.aload_n 0, 1) := by decide +kernel
theorem dX11_runMerging_1 : decode cX11_runMerging 1 = .ok (.getfield 53, 3) := by decide +kernel
theorem dX11_runMerging_4 : decode cX11_runMerging 4 = .ok (.iload_n 2, 1) := by decide +kernel
theorem dX11_runMerging_5 : decode cX11_runMerging 5 = .ok (.invokevirtual 168, 3) := by decide +kernel
theorem dX11_runMerging_8 : decode cX11_runMerging 8 = .ok (.astore 4, 2) := by decide +kernel
theorem dX11_runMerging_10 : decode cX11_runMerging 10 = .ok (.aload_n 0, 1) := by decide +kernel
theorem dX11_runMerging_11 : decode cX11_runMerging 11 = .ok (.getfield 53, 3) := by decide +kernel
theorem dX11_runMerging_14 : decode cX11_runMerging 14 = .ok (.iload_n 3, 1) := by decide +kernel
theorem dX11_runMerging_15 : decode cX11_runMerging 15 = .ok (.invokevirtual 168, 3) := by decide +kernel
theorem dX11_runMerging_18 : decode cX11_runMerging 18 = .ok (.astore 5, 2) := by decide +kernel
theorem dX11_runMerging_20 : decode cX11_runMerging 20 = .ok (.aload 4, 2) := by decide +kernel
theorem dX11_runMerging_22 : decode cX11_runMerging 22 = .ok (.ifnull 8, 3) := by decide +kernel
theorem dX11_runMerging_25 : decode cX11_runMerging 25 = .ok (.aload 5, 2) := by decide +kernel
theorem dX11_runMerging_27 : decode cX11_runMerging 27 = .ok (.ifnonnull 5, 3) := by decide +kernel
theorem dX11_runMerging_30 : decode cX11_runMerging 30 = .ok (.iconst 0, 1) := by decide +kernel
theorem dX11_runMerging_31 : decode cX11_runMerging 31 = .ok (.ireturn, 1) := by decide +kernel
theorem dX11_runMerging_32 : decode cX11_runMerging 32 = .ok (.aload_n 0, 1) := by decide +kernel
theorem dX11_runMerging_33 : decode cX11_runMerging 33 = .ok (.getfield 74, 3) := by decide +kernel
theorem dX11_runMerging_36 : decode cX11_runMerging 36 = .ok (.getfield 285, 3) := by decide +kernel
theorem dX11_runMerging_39 : decode cX11_runMerging 39 = .ok (.aload 4, 2) := by decide +kernel
theorem dX11_runMerging_41 : decode cX11_runMerging 41 = .ok (.iload_n 2, 1) := by decide +kernel
theorem dX11_runMerging_42 : decode cX11_runMerging 42 = .ok (.invokevirtual 289, 3) := by decide +kernel
theorem dX11_runMerging_45 : decode cX11_runMerging 45 = .ok (.aload_n 0, 1) := by decide +kernel
theorem dX11_runMerging_46 : decode cX11_runMerging 46 = .ok (.getfield 74, 3) := by decide +kernel
theorem dX11_runMerging_49 : decode cX11_runMerging 49 = .ok (.getfield 295, 3) := by decide +kernel
theorem dX11_runMerging_52 : decode cX11_runMerging 52 = .ok (.aload 5, 2) := by decide +kernel
theorem dX11_runMerging_54 : decode cX11_runMerging 54 = .ok (.iload_n 3, 1) := by decide +kernel
theorem dX11_runMerging_55 : decode cX11_runMerging 55 = .ok (.invokevirtual 289, 3) := by decide +kernel
theorem dX11_runMerging_58 : decode cX11_runMerging 58 = .ok (.aload_n 0, 1) := by decide +kernel
theorem dX11_runMerging_59 : decode cX11_runMerging 59 = .ok (.getfield 74, 3) := by decide +kernel
theorem dX11_runMerging_62 : decode cX11_runMerging 62 = .ok (.getfield 298, 3) := by decide +kernel
theorem dX11_runMerging_65 : decode cX11_runMerging 65 = .ok (.aload_n 1, 1) := by decide +kernel
theorem dX11_runMerging_66 : decode cX11_runMerging 66 = .ok (.iconst (-1), 1) := by decide +kernel
theorem dX11_runMerging_67 : decode cX11_runMerging 67 = .ok (.invokevirtual 289, 3) := by decide +kernel
theorem dX11_runMerging_70 : decode cX11_runMerging 70 = .ok (.aload_n 0, 1) := by decide +kernel
theorem dX11_runMerging_71 : decode cX11_runMerging 71 = .ok (.getfield 74, 3) := by decide +kernel
theorem dX11_runMerging_74 : decode cX11_runMerging 74 = .ok (.aload_n 0, 1) := by decide +kernel
theorem dX11_runMerging_75 : decode cX11_runMerging 75 = .ok (.getfield 67, 3) := by decide +kernel
theorem dX11_runMerging_78 : decode cX11_runMerging 78 = .ok (.aload_n 0, 1) := by decide +kernel
theorem dX11_runMerging_79 : decode cX11_runMerging 79 = .ok (.getfield 19, 3) := by decide +kernel
theorem dX11_runMerging_82 : decode cX11_runMerging 82 = .ok (.aload_n 0, 1) := by decide +kernel
theorem dX11_runMerging_83 : decode cX11_runMerging 83 = .ok (.getfield 39, 3) := by decide +kernel
theorem dX11_runMerging_86 : decode cX11_runMerging 86 = .ok (.invokevirtual 301, 3) := by decide +kernel
theorem dX11_runMerging_89 : decode cX11_runMerging 89 = .ok (.ireturn, 1) := by decide +kernel
theorem dX11_same_0 : decode cX11_same 0 = .ok (.aload_n 0, 1) := by decide +kernel
theorem dX11_same_1 : decode cX11_same 1 = .ok (.getfield 53, 3) := by decide +kernel
theorem dX11_same_4 : decode cX11_same 4 = .ok (.iload_n 1, 1) := by decide +kernel
theorem dX11_same_5 : decode cX11_same 5 = .ok (.invokevirtual 168, 3) := by decide +kernel
theorem dX11_same_8 : decode cX11_same 8 = .ok (.astore_n 3, 1) := by decide +kernel
theorem dX11_same_9 : decode cX11_same 9 = .ok (.aload_n 0, 1) := by decide +kernel
theorem dX11_same_10 : decode cX11_same 10 = .ok (.getfield 53, 3) := by decide +kernel
theorem dX11_same_13 : decode cX11_same 13 = .ok (.iload_n 2, 1) := by decide +kernel
theorem dX11_same_14 : decode cX11_same 14 = .ok (.invokevirtual 168, 3) := by decide +kernel
theorem dX11_same_17 : decode cX11_same 17 = .ok (.astore 4, 2) := by decide +kernel
theorem dX11_same_19 : decode cX11_same 19 = .ok (.aload_n 3, 1) := by decide +kernel
theorem dX11_same_20 : decode cX11_same 20 = .ok (.ifnull 23, 3) := by decide +kernel
theorem dX11_same_23 : decode cX11_same 23 = .ok (.aload 4, 2) := by decide +kernel
theorem dX11_same_25 : decode cX11_same 25 = .ok (.ifnull 18, 3) := by decide +kernel
theorem dX11_same_28 : decode cX11_same 28 = .ok (.aload_n 3, 1) := by decide +kernel
theorem dX11_same_29 : decode cX11_same 29 = .ok (.iconst 0, 1) := by decide +kernel
theorem dX11_same_30 : decode cX11_same 30 = .ok (.aload 4, 2) := by decide +kernel
theorem dX11_same_32 : decode cX11_same 32 = .ok (.iconst 0, 1) := by decide +kernel
theorem dX11_same_33 : decode cX11_same 33 = .ok (.invokevirtual 345, 3) := by decide +kernel
theorem dX11_same_36 : decode cX11_same 36 = .ok (.ifCond .eq 7, 3) := by decide +kernel
theorem dX11_same_39 : decode cX11_same 39 = .ok (.iconst 1, 1) := by decide +kernel
theorem dX11_same_40 : decode cX11_same 40 = .ok (.goto 4, 3) := by decide +kernel
theorem dX11_same_43 : decode cX11_same 43 = .ok (.iconst 0, 1) := by decide +kernel
theorem dX11_same_44 : decode cX11_same 44 = .ok (.ireturn, 1) := by decide +kernel
theorem dX11_settle_0 : decode cX11_settle 0 = .ok (.iload_n 1, 1) := by decide +kernel
theorem dX11_settle_1 : decode cX11_settle 1 = .ok (.ifCond .lt 32, 3) := by decide +kernel
theorem dX11_settle_4 : decode cX11_settle 4 = .ok (.iload_n 1, 1) := by decide +kernel
theorem dX11_settle_5 : decode cX11_settle 5 = .ok (.aload_n 0, 1) := by decide +kernel
theorem dX11_settle_6 : decode cX11_settle 6 = .ok (.getfield 181, 3) := by decide +kernel
theorem dX11_settle_9 : decode cX11_settle 9 = .ok (.if_icmp .ge 24, 3) := by decide +kernel
theorem dX11_settle_12 : decode cX11_settle 12 = .ok (.iload_n 2, 1) := by decide +kernel
theorem dX11_settle_13 : decode cX11_settle 13 = .ok (.iconst 1, 1) := by decide +kernel
theorem dX11_settle_14 : decode cX11_settle 14 = .ok (.if_icmp .lt 19, 3) := by decide +kernel
theorem dX11_settle_17 : decode cX11_settle 17 = .ok (.iload_n 2, 1) := by decide +kernel
theorem dX11_settle_18 : decode cX11_settle 18 = .ok (.iconst 3, 1) := by decide +kernel
theorem dX11_settle_19 : decode cX11_settle 19 = .ok (.if_icmp .gt 14, 3) := by decide +kernel
theorem dX11_settle_22 : decode cX11_settle 22 = .ok (.aload_n 0, 1) := by decide +kernel
theorem dX11_settle_23 : decode cX11_settle 23 = .ok (.getfield 53, 3) := by decide +kernel
theorem dX11_settle_26 : decode cX11_settle 26 = .ok (.iload_n 3, 1) := by decide +kernel
theorem dX11_settle_27 : decode cX11_settle 27 = .ok (.invokevirtual 165, 3) := by decide +kernel
theorem dX11_settle_30 : decode cX11_settle 30 = .ok (.ifCond .ne 5, 3) := by decide +kernel
theorem dX11_settle_33 : decode cX11_settle 33 = .ok (.iconst 0, 1) := by decide +kernel
theorem dX11_settle_34 : decode cX11_settle 34 = .ok (.ireturn, 1) := by decide +kernel
theorem dX11_settle_35 : decode cX11_settle 35 = .ok (.aload_n 0, 1) := by decide +kernel
theorem dX11_settle_36 : decode cX11_settle 36 = .ok (.getfield 67, 3) := by decide +kernel
theorem dX11_settle_39 : decode cX11_settle 39 = .ok (.iload_n 1, 1) := by decide +kernel
theorem dX11_settle_40 : decode cX11_settle 40 = .ok (.iload_n 2, 1) := by decide +kernel
theorem dX11_settle_41 : decode cX11_settle 41 = .ok (.iload_n 3, 1) := by decide +kernel
theorem dX11_settle_42 : decode cX11_settle 42 = .ok (.invokevirtual 312, 3) := by decide +kernel
theorem dX11_settle_45 : decode cX11_settle 45 = .ok (.iconst 1, 1) := by decide +kernel
theorem dX11_settle_46 : decode cX11_settle 46 = .ok (.ireturn, 1) := by decide +kernel
theorem dX11_take_0 : decode cX11_take 0 = .ok (.aload_n 0, 1) := by decide +kernel
theorem dX11_take_1 : decode cX11_take 1 = .ok (.getfield 60, 3) := by decide +kernel
theorem dX11_take_4 : decode cX11_take 4 = .ok (.iload_n 1, 1) := by decide +kernel
theorem dX11_take_5 : decode cX11_take 5 = .ok (.invokevirtual 220, 3) := by decide +kernel
theorem dX11_take_8 : decode cX11_take 8 = .ok (.istore_n 2, 1) := by decide +kernel
theorem dX11_take_9 : decode cX11_take 9 = .ok (.iload_n 2, 1) := by decide +kernel
theorem dX11_take_10 : decode cX11_take 10 = .ok (.iconst (-1), 1) := by decide +kernel
theorem dX11_take_11 : decode cX11_take 11 = .ok (.if_icmp .eq 21, 3) := by decide +kernel
theorem dX11_take_14 : decode cX11_take 14 = .ok (.iload_n 2, 1) := by decide +kernel
theorem dX11_take_15 : decode cX11_take 15 = .ok (.ifCond .eq 17, 3) := by decide +kernel
theorem dX11_take_18 : decode cX11_take 18 = .ok (.aload_n 0, 1) := by decide +kernel
theorem dX11_take_19 : decode cX11_take 19 = .ok (.getfield 60, 3) := by decide +kernel
theorem dX11_take_22 : decode cX11_take 22 = .ok (.getfield 214, 3) := by decide +kernel
theorem dX11_take_25 : decode cX11_take 25 = .ok (.iload_n 2, 1) := by decide +kernel
theorem dX11_take_26 : decode cX11_take 26 = .ok (.invokevirtual 241, 3) := by decide +kernel
theorem dX11_take_29 : decode cX11_take 29 = .ok (.ifCond .le 5, 3) := by decide +kernel
theorem dX11_take_32 : decode cX11_take 32 = .ok (.iconst 0, 1) := by decide +kernel
theorem dX11_take_33 : decode cX11_take 33 = .ok (.ireturn, 1) := by decide +kernel
theorem dX11_take_34 : decode cX11_take 34 = .ok (.aload_n 0, 1) := by decide +kernel
theorem dX11_take_35 : decode cX11_take 35 = .ok (.getfield 60, 3) := by decide +kernel
theorem dX11_take_38 : decode cX11_take 38 = .ok (.iload_n 2, 1) := by decide +kernel
theorem dX11_take_39 : decode cX11_take 39 = .ok (.invokevirtual 244, 3) := by decide +kernel
theorem dX11_take_42 : decode cX11_take 42 = .ok (.aload_n 0, 1) := by decide +kernel
theorem dX11_take_43 : decode cX11_take 43 = .ok (.getfield 60, 3) := by decide +kernel
theorem dX11_take_46 : decode cX11_take 46 = .ok (.aload_n 0, 1) := by decide +kernel
theorem dX11_take_47 : decode cX11_take 47 = .ok (.getfield 19, 3) := by decide +kernel
theorem dX11_take_50 : decode cX11_take 50 = .ok (.invokevirtual 238, 3) := by decide +kernel
theorem dX11_take_53 : decode cX11_take 53 = .ok (.iconst 1, 1) := by decide +kernel
theorem dX11_take_54 : decode cX11_take 54 = .ok (.ireturn, 1) := by decide +kernel
theorem dX11_unsettle_0 : decode cX11_unsettle 0 = .ok (.aload_n 0, 1) := by decide +kernel
theorem dX11_unsettle_1 : decode cX11_unsettle 1 = .ok (.getfield 67, 3) := by decide +kernel
theorem dX11_unsettle_4 : decode cX11_unsettle 4 = .ok (.getfield 316, 3) := by decide +kernel
theorem dX11_unsettle_7 : decode cX11_unsettle 7 = .ok (.istore_n 1, 1) := by decide +kernel
theorem dX11_unsettle_8 : decode cX11_unsettle 8 = .ok (.aload_n 0, 1) := by decide +kernel
theorem dX11_unsettle_9 : decode cX11_unsettle 9 = .ok (.getfield 67, 3) := by decide +kernel
theorem dX11_unsettle_12 : decode cX11_unsettle 12 = .ok (.invokevirtual 317, 3) := by decide +kernel
theorem dX11_unsettle_15 : decode cX11_unsettle 15 = .ok (.iload_n 1, 1) := by decide +kernel
theorem dX11_unsettle_16 : decode cX11_unsettle 16 = .ok (.ireturn, 1) := by decide +kernel
theorem dX11_word_0 : decode cX11_word 0 = .ok (.aload_n 0, 1) := by decide +kernel
theorem dX11_word_1 : decode cX11_word 1 = .ok (.iload_n 1, 1) := by decide +kernel
theorem dX11_word_2 : decode cX11_word 2 = .ok (.invokevirtual 320, 3) := by decide +kernel
theorem dX11_word_5 : decode cX11_word 5 = .ok (.astore_n 3, 1) := by decide +kernel
theorem dX11_word_6 : decode cX11_word 6 = .ok (.aload_n 3, 1) := by decide +kernel
theorem dX11_word_7 : decode cX11_word 7 = .ok (.ifnonnull 7, 3) := by decide +kernel
theorem dX11_word_10 : decode cX11_word 10 = .ok (.iconst (-1), 1) := by decide +kernel
theorem dX11_word_11 : decode cX11_word 11 = .ok (.goto 8, 3) := by decide +kernel
theorem dX11_word_14 : decode cX11_word 14 = .ok (.aload_n 3, 1) := by decide +kernel
theorem dX11_word_15 : decode cX11_word 15 = .ok (.iload_n 2, 1) := by decide +kernel
theorem dX11_word_16 : decode cX11_word 16 = .ok (.invokevirtual 323, 3) := by decide +kernel
theorem dX11_word_19 : decode cX11_word 19 = .ok (.istore 4, 2) := by decide +kernel
theorem dX11_word_21 : decode cX11_word 21 = .ok (.iload 4, 2) := by decide +kernel
theorem dX11_word_23 : decode cX11_word 23 = .ok (.iconst (-1), 1) := by decide +kernel
theorem dX11_word_24 : decode cX11_word 24 = .ok (.if_icmp .ne 7, 3) := by decide +kernel
theorem dX11_word_27 : decode cX11_word 27 = .ok (.lconst 0, 1) := by decide +kernel
theorem dX11_word_28 : decode cX11_word 28 = .ok (.goto 13, 3) := by decide +kernel
theorem dX11_word_31 : decode cX11_word 31 = .ok (.aload_n 3, 1) := by decide +kernel
theorem dX11_word_32 : decode cX11_word 32 = .ok (.getfield 251, 3) := by decide +kernel
theorem dX11_word_35 : decode cX11_word 35 = .ok (.iload 4, 2) := by decide +kernel
theorem dX11_word_37 : decode cX11_word 37 = .ok (.laload, 1) := by decide +kernel
theorem dX11_word_38 : decode cX11_word 38 = .ok (.invokestatic 337, 3) := by decide +kernel
theorem dX11_word_41 : decode cX11_word 41 = .ok (.lreturn, 1) := by decide +kernel
theorem dX11_writer_0 : decode cX11_writer 0 = .ok (.iload_n 1, 1) := by decide +kernel
theorem dX11_writer_1 : decode cX11_writer 1 = .ok (.ifCond .lt 24, 3) := by decide +kernel
theorem dX11_writer_4 : decode cX11_writer 4 = .ok (.iload_n 1, 1) := by decide +kernel
theorem dX11_writer_5 : decode cX11_writer 5 = .ok (.aload_n 0, 1) := by decide +kernel
theorem dX11_writer_6 : decode cX11_writer 6 = .ok (.getfield 181, 3) := by decide +kernel
theorem dX11_writer_9 : decode cX11_writer 9 = .ok (.if_icmp .ge 16, 3) := by decide +kernel

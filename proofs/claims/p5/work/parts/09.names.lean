abbrev cX9_hasRoom : ByteArray := prog_11_method_2_code
def yX9_hasRoom : MethodName := ⟨RX9, "hasRoom", "(I)Z"⟩
abbrev cX9_rewind : ByteArray := prog_11_method_4_code
def yX9_rewind : MethodName := ⟨RX9, "rewind", "()V"⟩
abbrev cX9_append : ByteArray := prog_11_method_3_code
def yX9_append : MethodName := ⟨RX9, "append", "(I)V"⟩
abbrev cX9_isSign : ByteArray := prog_11_method_9_code
def yX9_isSign : MethodName := ⟨RX9, "isSign", "(I)Z"⟩
abbrev cX9_cutWord : ByteArray := prog_11_method_7_code
def yX9_cutWord : MethodName := ⟨RX9, "cutWord", "()V"⟩
abbrev cX3_clear : ByteArray := prog_5_method_2_code
def yX3_clear : MethodName := ⟨RX3, "clear", "()V"⟩
abbrev cX3_hasLikes : ByteArray := prog_5_method_4_code
def yX3_hasLikes : MethodName := ⟨RX3, "hasLikes", "()Z"⟩
abbrev cX3_add : ByteArray := prog_5_method_3_code
def yX3_add : MethodName := ⟨RX3, "add", "(IJ)V"⟩
abbrev cX10_clear : ByteArray := prog_12_method_2_code
def yX10_clear : MethodName := ⟨RX10, "clear", "()V"⟩
abbrev cX10_find : ByteArray := prog_12_method_8_code
def yX10_find : MethodName := ⟨RX10, "find", "(I)I"⟩
abbrev cX10_childCount : ByteArray := prog_12_method_14_code
def yX10_childCount : MethodName := ⟨RX10, "childCount", "(I)I"⟩
abbrev cX10_placeOf : ByteArray := prog_12_method_15_code
def yX10_placeOf : MethodName := ⟨RX10, "placeOf", "(I)I"⟩
abbrev cX10_extent : ByteArray := prog_12_method_16_code
def yX10_extent : MethodName := ⟨RX10, "extent", "(I)I"⟩
abbrev cX10_childIndex : ByteArray := prog_12_method_13_code
def yX10_childIndex : MethodName := ⟨RX10, "childIndex", "(II)I"⟩
abbrev cX10_moveEntry : ByteArray := prog_12_method_6_code
def yX10_moveEntry : MethodName := ⟨RX10, "moveEntry", "(II)V"⟩
abbrev cX10_add : ByteArray := prog_12_method_3_code
def yX10_add : MethodName := ⟨RX10, "add", "(IIIJ)V"⟩
abbrev cX10_insert : ByteArray := prog_12_method_4_code
def yX10_insert : MethodName := ⟨RX10, "insert", "(IIIIJ)V"⟩
abbrev cX10_cut : ByteArray := prog_12_method_5_code
def yX10_cut : MethodName := ⟨RX10, "cut", "(I)V"⟩
abbrev cX2_hasKind : ByteArray := prog_4_method_2_code
def yX2_hasKind : MethodName := ⟨RX2, "hasKind", "(I)Z"⟩
abbrev cX2_isSet : ByteArray := prog_4_method_3_code
def yX2_isSet : MethodName := ⟨RX2, "isSet", "(I)Z"⟩
abbrev cX2_namesAll : ByteArray := prog_4_method_12_code
def yX2_namesAll : MethodName := ⟨RX2, "namesAll", "(ILTreeMerge$Kids;)Z"⟩
abbrev cX10_isWithin : ByteArray := prog_12_method_17_code
def yX10_isWithin : MethodName := ⟨RX10, "isWithin", "(II)Z"⟩
abbrev cX1_has : ByteArray := prog_3_method_2_code
def yX1_has : MethodName := ⟨RX1, "has", "(I)Z"⟩
abbrev cX1_isFull : ByteArray := prog_3_method_3_code
def yX1_isFull : MethodName := ⟨RX1, "isFull", "()Z"⟩
abbrev cX1_fromsOf : ByteArray := prog_3_method_7_code
def yX1_fromsOf : MethodName := ⟨RX1, "fromsOf", "(I)I"⟩
abbrev cX1_onlyParent : ByteArray := prog_3_method_12_code
def yX1_onlyParent : MethodName := ⟨RX1, "onlyParent", "(I)I"⟩
abbrev cX4_pairNothing : ByteArray := prog_6_method_2_code
def yX4_pairNothing : MethodName := ⟨RX4, "pairNothing", "()V"⟩
abbrev cX4_link : ByteArray := prog_6_method_4_code
def yX4_link : MethodName := ⟨RX4, "link", "(II)V"⟩
abbrev cX4_pairs : ByteArray := prog_6_method_13_code
def yX4_pairs : MethodName := ⟨RX4, "pairs", "()I"⟩
theorem dX10_add_0 : decode cX10_add 0 = .ok (.aload_n 0, 1) := by decide +kernel
theorem dX10_add_1 : decode cX10_add 1 = .ok (.getfield 34, 3) := by decide +kernel
theorem dX10_add_4 : decode cX10_add 4 = .ok (.bipush 40, 2) := by decide +kernel
theorem dX10_add_6 : decode cX10_add 6 = .ok (.if_icmp .ge 54, 3) := by decide +kernel
theorem dX10_add_9 : decode cX10_add 9 = .ok (.aload_n 0, 1) := by decide +kernel
theorem dX10_add_10 : decode cX10_add 10 = .ok (.getfield 9, 3) := by decide +kernel
theorem dX10_add_13 : decode cX10_add 13 = .ok (.aload_n 0, 1) := by decide +kernel
theorem dX10_add_14 : decode cX10_add 14 = .ok (.getfield 34, 3) := by decide +kernel
theorem dX10_add_17 : decode cX10_add 17 = .ok (.iload_n 1, 1) := by decide +kernel
theorem dX10_add_18 : decode cX10_add 18 = .ok (.iastore, 1) := by decide +kernel
theorem dX10_add_19 : decode cX10_add 19 = .ok (.aload_n 0, 1) := by decide +kernel
theorem dX10_add_20 : decode cX10_add 20 = .ok (.getfield 15, 3) := by decide +kernel
theorem dX10_add_23 : decode cX10_add 23 = .ok (.aload_n 0, 1) := by decide +kernel
theorem dX10_add_24 : decode cX10_add 24 = .ok (.getfield 34, 3) := by decide +kernel
theorem dX10_add_27 : decode cX10_add 27 = .ok (.iload_n 2, 1) := by decide +kernel
theorem dX10_add_28 : decode cX10_add 28 = .ok (.iastore, 1) := by decide +kernel
theorem dX10_add_29 : decode cX10_add 29 = .ok (.aload_n 0, 1) := by decide +kernel
theorem dX10_add_30 : decode cX10_add 30 = .ok (.getfield 24, 3) := by decide +kernel
theorem dX10_add_33 : decode cX10_add 33 = .ok (.aload_n 0, 1) := by decide +kernel
theorem dX10_add_34 : decode cX10_add 34 = .ok (.getfield 34, 3) := by decide +kernel
theorem dX10_add_37 : decode cX10_add 37 = .ok (.iload_n 3, 1) := by decide +kernel
theorem dX10_add_38 : decode cX10_add 38 = .ok (.iastore, 1) := by decide +kernel
theorem dX10_add_39 : decode cX10_add 39 = .ok (.aload_n 0, 1) := by decide +kernel
theorem dX10_add_40 : decode cX10_add 40 = .ok (.getfield 27, 3) := by decide +kernel
theorem dX10_add_43 : decode cX10_add 43 = .ok (.aload_n 0, 1) := by decide +kernel
theorem dX10_add_44 : decode cX10_add 44 = .ok (.getfield 34, 3) := by decide +kernel
theorem dX10_add_47 : decode cX10_add 47 = .ok (.lload 4, 2) := by decide +kernel
theorem dX10_add_49 : decode cX10_add 49 = .ok (.lastore, 1) := by decide +kernel
theorem dX10_add_50 : decode cX10_add 50 = .ok (.aload_n 0, 1) := by decide +kernel
theorem dX10_add_51 : decode cX10_add 51 = .ok (.dup, 1) := by decide +kernel
theorem dX10_add_52 : decode cX10_add 52 = .ok (.getfield 34, 3) := by decide +kernel
theorem dX10_add_55 : decode cX10_add 55 = .ok (.iconst 1, 1) := by decide +kernel
theorem dX10_add_56 : decode cX10_add 56 = .ok (.iadd, 1) := by decide +kernel
theorem dX10_add_57 : decode cX10_add 57 = .ok (.putfield 34, 3) := by decide +kernel
theorem dX10_add_60 : decode cX10_add 60 = .ok (.return_, 1) := by decide +kernel
theorem dX10_childCount_0 : decode cX10_childCount 0 = .ok (.iconst 0, 1) := by decide +kernel
theorem dX10_childCount_1 : decode cX10_childCount 1 = .ok (.istore_n 2, 1) := by decide +kernel
theorem dX10_childCount_2 : decode cX10_childCount 2 = .ok (.iload_n 1, 1) := by decide +kernel
theorem dX10_childCount_3 : decode cX10_childCount 3 = .ok (.iconst 1, 1) := by decide +kernel
theorem dX10_childCount_4 : decode cX10_childCount 4 = .ok (.iadd, 1) := by decide +kernel
theorem dX10_childCount_5 : decode cX10_childCount 5 = .ok (.istore_n 3, 1) := by decide +kernel
theorem dX10_childCount_6 : decode cX10_childCount 6 = .ok (.iload_n 3, 1) := by decide +kernel
theorem dX10_childCount_7 : decode cX10_childCount 7 = .ok (.aload_n 0, 1) := by decide +kernel
theorem dX10_childCount_8 : decode cX10_childCount 8 = .ok (.getfield 34, 3) := by decide +kernel
theorem dX10_childCount_11 : decode cX10_childCount 11 = .ok (.if_icmp .ge 22, 3) := by decide +kernel
theorem dX10_childCount_14 : decode cX10_childCount 14 = .ok (.aload_n 0, 1) := by decide +kernel
theorem dX10_childCount_15 : decode cX10_childCount 15 = .ok (.getfield 18, 3) := by decide +kernel
theorem dX10_childCount_18 : decode cX10_childCount 18 = .ok (.iload_n 3, 1) := by decide +kernel
theorem dX10_childCount_19 : decode cX10_childCount 19 = .ok (.iaload, 1) := by decide +kernel
theorem dX10_childCount_20 : decode cX10_childCount 20 = .ok (.iload_n 1, 1) := by decide +kernel
theorem dX10_childCount_21 : decode cX10_childCount 21 = .ok (.if_icmp .ne 6, 3) := by decide +kernel
theorem dX10_childCount_24 : decode cX10_childCount 24 = .ok (.iinc 2 1, 3) := by decide +kernel
theorem dX10_childCount_27 : decode cX10_childCount 27 = .ok (.iinc 3 1, 3) := by decide +kernel
theorem dX10_childCount_30 : decode cX10_childCount 30 = .ok (.goto (-24), 3) := by decide +kernel
theorem dX10_childCount_33 : decode cX10_childCount 33 = .ok (.iload_n 2, 1) := by decide +kernel
theorem dX10_childCount_34 : decode cX10_childCount 34 = .ok (.ireturn, 1) := by decide +kernel
theorem dX10_childIndex_0 : decode cX10_childIndex 0 = .ok (.iconst 0, 1) := by decide +kernel
theorem dX10_childIndex_1 : decode cX10_childIndex 1 = .ok (.istore_n 3, 1) := by decide +kernel
theorem dX10_childIndex_2 : decode cX10_childIndex 2 = .ok (.iconst 0, 1) := by decide +kernel
theorem dX10_childIndex_3 : decode cX10_childIndex 3 = .ok (.istore 4, 2) := by decide +kernel
theorem dX10_childIndex_5 : decode cX10_childIndex 5 = .ok (.iload 4, 2) := by decide +kernel
theorem dX10_childIndex_7 : decode cX10_childIndex 7 = .ok (.aload_n 0, 1) := by decide +kernel
theorem dX10_childIndex_8 : decode cX10_childIndex 8 = .ok (.getfield 34, 3) := by decide +kernel
theorem dX10_childIndex_11 : decode cX10_childIndex 11 = .ok (.if_icmp .ge 31, 3) := by decide +kernel
theorem dX10_childIndex_14 : decode cX10_childIndex 14 = .ok (.aload_n 0, 1) := by decide +kernel
theorem dX10_childIndex_15 : decode cX10_childIndex 15 = .ok (.getfield 15, 3) := by decide +kernel
theorem dX10_childIndex_18 : decode cX10_childIndex 18 = .ok (.iload 4, 2) := by decide +kernel
theorem dX10_childIndex_20 : decode cX10_childIndex 20 = .ok (.iaload, 1) := by decide +kernel
theorem dX10_childIndex_21 : decode cX10_childIndex 21 = .ok (.iload_n 1, 1) := by decide +kernel
theorem dX10_childIndex_22 : decode cX10_childIndex 22 = .ok (.if_icmp .ne 14, 3) := by decide +kernel
theorem dX10_childIndex_25 : decode cX10_childIndex 25 = .ok (.iload_n 3, 1) := by decide +kernel
theorem dX10_childIndex_26 : decode cX10_childIndex 26 = .ok (.iload_n 2, 1) := by decide +kernel
theorem dX10_childIndex_27 : decode cX10_childIndex 27 = .ok (.if_icmp .ne 6, 3) := by decide +kernel
theorem dX10_childIndex_30 : decode cX10_childIndex 30 = .ok (.iload 4, 2) := by decide +kernel
theorem dX10_childIndex_32 : decode cX10_childIndex 32 = .ok (.ireturn, 1) := by decide +kernel
theorem dX10_childIndex_33 : decode cX10_childIndex 33 = .ok (.iinc 3 1, 3) := by decide +kernel
theorem dX10_childIndex_36 : decode cX10_childIndex 36 = .ok (.iinc 4 1, 3) := by decide +kernel
theorem dX10_childIndex_39 : decode cX10_childIndex 39 = .ok (.goto (-34), 3) := by decide +kernel
theorem dX10_childIndex_42 : decode cX10_childIndex 42 = .ok (.aload_n 0, 1) := by decide +kernel
theorem dX10_childIndex_43 : decode cX10_childIndex 43 = .ok (.getfield 34, 3) := by decide +kernel
theorem dX10_childIndex_46 : decode cX10_childIndex 46 = .ok (.ireturn, 1) := by decide +kernel
theorem dX10_clear_0 : decode cX10_clear 0 = .ok (.aload_n 0, 1) := by decide +kernel
theorem dX10_clear_1 : decode cX10_clear 1 = .ok (.iconst 0, 1) := by decide +kernel
theorem dX10_clear_2 : decode cX10_clear 2 = .ok (.putfield 34, 3) := by decide +kernel
theorem dX10_clear_5 : decode cX10_clear 5 = .ok (.return_, 1) := by decide +kernel
theorem dX10_cut_0 : decode cX10_cut 0 = .ok (.iload_n 1, 1) := by decide +kernel
theorem dX10_cut_1 : decode cX10_cut 1 = .ok (.ifCond .lt 11, 3) := by decide +kernel
theorem dX10_cut_4 : decode cX10_cut 4 = .ok (.iload_n 1, 1) := by decide +kernel
theorem dX10_cut_5 : decode cX10_cut 5 = .ok (.aload_n 0, 1) := by decide +kernel
theorem dX10_cut_6 : decode cX10_cut 6 = .ok (.getfield 34, 3) := by decide +kernel
theorem dX10_cut_9 : decode cX10_cut 9 = .ok (.if_icmp .lt 4, 3) := by decide +kernel
theorem dX10_cut_12 : decode cX10_cut 12 = .ok (.return_, 1) := by decide +kernel
theorem dX10_cut_13 : decode cX10_cut 13 = .ok (.iload_n 1, 1) := by decide +kernel
theorem dX10_cut_14 : decode cX10_cut 14 = .ok (.iconst 1, 1) := by decide +kernel
theorem dX10_cut_15 : decode cX10_cut 15 = .ok (.iadd, 1) := by decide +kernel
theorem dX10_cut_16 : decode cX10_cut 16 = .ok (.istore_n 2, 1) := by decide +kernel
theorem dX10_cut_17 : decode cX10_cut 17 = .ok (.iload_n 2, 1) := by decide +kernel
theorem dX10_cut_18 : decode cX10_cut 18 = .ok (.aload_n 0, 1) := by decide +kernel
theorem dX10_cut_19 : decode cX10_cut 19 = .ok (.getfield 34, 3) := by decide +kernel
theorem dX10_cut_22 : decode cX10_cut 22 = .ok (.if_icmp .ge 17, 3) := by decide +kernel
theorem dX10_cut_25 : decode cX10_cut 25 = .ok (.aload_n 0, 1) := by decide +kernel
theorem dX10_cut_26 : decode cX10_cut 26 = .ok (.iload_n 2, 1) := by decide +kernel
theorem dX10_cut_27 : decode cX10_cut 27 = .ok (.iload_n 2, 1) := by decide +kernel
theorem dX10_cut_28 : decode cX10_cut 28 = .ok (.iconst 1, 1) := by decide +kernel
theorem dX10_cut_29 : decode cX10_cut 29 = .ok (.isub, 1) := by decide +kernel
theorem dX10_cut_30 : decode cX10_cut 30 = .ok (.invokevirtual 38, 3) := by decide +kernel
theorem dX10_cut_33 : decode cX10_cut 33 = .ok (.iinc 2 1, 3) := by decide +kernel
theorem dX10_cut_36 : decode cX10_cut 36 = .ok (.goto (-19), 3) := by decide +kernel
theorem dX10_cut_39 : decode cX10_cut 39 = .ok (.aload_n 0, 1) := by decide +kernel
theorem dX10_cut_40 : decode cX10_cut 40 = .ok (.dup, 1) := by decide +kernel
theorem dX10_cut_41 : decode cX10_cut 41 = .ok (.getfield 34, 3) := by decide +kernel
theorem dX10_cut_44 : decode cX10_cut 44 = .ok (.iconst 1, 1) := by decide +kernel
theorem dX10_cut_45 : decode cX10_cut 45 = .ok (.isub, 1) := by decide +kernel
theorem dX10_cut_46 : decode cX10_cut 46 = .ok (.putfield 34, 3) := by decide +kernel
theorem dX10_cut_49 : decode cX10_cut 49 = .ok (.return_, 1) := by decide +kernel
theorem dX10_extent_0 : decode cX10_extent 0 = .ok (.iload_n 1, 1) := by decide +kernel
theorem dX10_extent_1 : decode cX10_extent 1 = .ok (.iconst 1, 1) := by decide +kernel
theorem dX10_extent_2 : decode cX10_extent 2 = .ok (.iadd, 1) := by decide +kernel
theorem dX10_extent_3 : decode cX10_extent 3 = .ok (.istore_n 2, 1) := by decide +kernel
theorem dX10_extent_4 : decode cX10_extent 4 = .ok (.iload_n 2, 1) := by decide +kernel
theorem dX10_extent_5 : decode cX10_extent 5 = .ok (.aload_n 0, 1) := by decide +kernel
theorem dX10_extent_6 : decode cX10_extent 6 = .ok (.getfield 34, 3) := by decide +kernel
theorem dX10_extent_9 : decode cX10_extent 9 = .ok (.if_icmp .ge 24, 3) := by decide +kernel
theorem dX10_extent_12 : decode cX10_extent 12 = .ok (.aload_n 0, 1) := by decide +kernel
theorem dX10_extent_13 : decode cX10_extent 13 = .ok (.getfield 21, 3) := by decide +kernel
theorem dX10_extent_16 : decode cX10_extent 16 = .ok (.iload_n 2, 1) := by decide +kernel
theorem dX10_extent_17 : decode cX10_extent 17 = .ok (.iaload, 1) := by decide +kernel
theorem dX10_extent_18 : decode cX10_extent 18 = .ok (.aload_n 0, 1) := by decide +kernel
theorem dX10_extent_19 : decode cX10_extent 19 = .ok (.getfield 21, 3) := by decide +kernel
theorem dX10_extent_22 : decode cX10_extent 22 = .ok (.iload_n 1, 1) := by decide +kernel
theorem dX10_extent_23 : decode cX10_extent 23 = .ok (.iaload, 1) := by decide +kernel
theorem dX10_extent_24 : decode cX10_extent 24 = .ok (.if_icmp .le 9, 3) := by decide +kernel
theorem dX10_extent_27 : decode cX10_extent 27 = .ok (.iinc 2 1, 3) := by decide +kernel
theorem dX10_extent_30 : decode cX10_extent 30 = .ok (.goto (-26), 3) := by decide +kernel
theorem dX10_extent_33 : decode cX10_extent 33 = .ok (.iload_n 2, 1) := by decide +kernel
theorem dX10_extent_34 : decode cX10_extent 34 = .ok (.iload_n 1, 1) := by decide +kernel
theorem dX10_extent_35 : decode cX10_extent 35 = .ok (.isub, 1) := by decide +kernel
theorem dX10_extent_36 : decode cX10_extent 36 = .ok (.ireturn, 1) := by decide +kernel
theorem dX10_find_0 : decode cX10_find 0 = .ok (.iconst 0, 1) := by decide +kernel
theorem dX10_find_1 : decode cX10_find 1 = .ok (.istore_n 2, 1) := by decide +kernel
theorem dX10_find_2 : decode cX10_find 2 = .ok (.iload_n 2, 1) := by decide +kernel
theorem dX10_find_3 : decode cX10_find 3 = .ok (.aload_n 0, 1) := by decide +kernel
theorem dX10_find_4 : decode cX10_find 4 = .ok (.getfield 34, 3) := by decide +kernel
theorem dX10_find_7 : decode cX10_find 7 = .ok (.if_icmp .ge 21, 3) := by decide +kernel
theorem dX10_find_10 : decode cX10_find 10 = .ok (.aload_n 0, 1) := by decide +kernel
theorem dX10_find_11 : decode cX10_find 11 = .ok (.getfield 9, 3) := by decide +kernel
theorem dX10_find_14 : decode cX10_find 14 = .ok (.iload_n 2, 1) := by decide +kernel
theorem dX10_find_15 : decode cX10_find 15 = .ok (.iaload, 1) := by decide +kernel
theorem dX10_find_16 : decode cX10_find 16 = .ok (.iload_n 1, 1) := by decide +kernel
theorem dX10_find_17 : decode cX10_find 17 = .ok (.if_icmp .ne 5, 3) := by decide +kernel
theorem dX10_find_20 : decode cX10_find 20 = .ok (.iload_n 2, 1) := by decide +kernel
theorem dX10_find_21 : decode cX10_find 21 = .ok (.ireturn, 1) := by decide +kernel
theorem dX10_find_22 : decode cX10_find 22 = .ok (.iinc 2 1, 3) := by decide +kernel
theorem dX10_find_25 : decode cX10_find 25 = .ok (.goto (-23), 3) := by decide +kernel
theorem dX10_find_28 : decode cX10_find 28 = .ok (.iconst (-1), 1) := by decide +kernel
theorem dX10_find_29 : decode cX10_find 29 = .ok (.ireturn, 1) := by decide +kernel
theorem dX10_insert_0 : decode cX10_insert 0 = .ok (.iload_n 1, 1) := by decide +kernel
theorem dX10_insert_1 : decode cX10_insert 1 = .ok (.ifCond .lt 20, 3) := by decide +kernel
theorem dX10_insert_4 : decode cX10_insert 4 = .ok (.iload_n 1, 1) := by decide +kernel
theorem dX10_insert_5 : decode cX10_insert 5 = .ok (.aload_n 0, 1) := by decide +kernel
theorem dX10_insert_6 : decode cX10_insert 6 = .ok (.getfield 34, 3) := by decide +kernel
theorem dX10_insert_9 : decode cX10_insert 9 = .ok (.if_icmp .gt 12, 3) := by decide +kernel
theorem dX10_insert_12 : decode cX10_insert 12 = .ok (.aload_n 0, 1) := by decide +kernel
theorem dX10_insert_13 : decode cX10_insert 13 = .ok (.getfield 34, 3) := by decide +kernel
theorem dX10_insert_16 : decode cX10_insert 16 = .ok (.bipush 40, 2) := by decide +kernel
theorem dX10_insert_18 : decode cX10_insert 18 = .ok (.if_icmp .lt 4, 3) := by decide +kernel
theorem dX10_insert_21 : decode cX10_insert 21 = .ok (.return_, 1) := by decide +kernel
theorem dX10_insert_22 : decode cX10_insert 22 = .ok (.aload_n 0, 1) := by decide +kernel
theorem dX10_insert_23 : decode cX10_insert 23 = .ok (.getfield 34, 3) := by decide +kernel
theorem dX10_insert_26 : decode cX10_insert 26 = .ok (.istore 7, 2) := by decide +kernel
theorem dX10_insert_28 : decode cX10_insert 28 = .ok (.iload 7, 2) := by decide +kernel
theorem dX10_insert_30 : decode cX10_insert 30 = .ok (.iload_n 1, 1) := by decide +kernel
theorem dX10_insert_31 : decode cX10_insert 31 = .ok (.if_icmp .le 19, 3) := by decide +kernel
theorem dX10_insert_34 : decode cX10_insert 34 = .ok (.aload_n 0, 1) := by decide +kernel
theorem dX10_insert_35 : decode cX10_insert 35 = .ok (.iload 7, 2) := by decide +kernel
theorem dX10_insert_37 : decode cX10_insert 37 = .ok (.iconst 1, 1) := by decide +kernel
theorem dX10_insert_38 : decode cX10_insert 38 = .ok (.isub, 1) := by decide +kernel
theorem dX10_insert_39 : decode cX10_insert 39 = .ok (.iload 7, 2) := by decide +kernel
theorem dX10_insert_41 : decode cX10_insert 41 = .ok (.invokevirtual 38, 3) := by decide +kernel
theorem dX10_insert_44 : decode cX10_insert 44 = .ok (.iinc 7 (-1), 3) := by decide +kernel
theorem dX10_insert_47 : decode cX10_insert 47 = .ok (.goto (-19), 3) := by decide +kernel
theorem dX10_insert_50 : decode cX10_insert 50 = .ok (.aload_n 0, 1) := by decide +kernel
theorem dX10_insert_51 : decode cX10_insert 51 = .ok (.getfield 9, 3) := by decide +kernel
theorem dX10_insert_54 : decode cX10_insert 54 = .ok (.iload_n 1, 1) := by decide +kernel
theorem dX10_insert_55 : decode cX10_insert 55 = .ok (.iload_n 2, 1) := by decide +kernel
theorem dX10_insert_56 : decode cX10_insert 56 = .ok (.iastore, 1) := by decide +kernel
theorem dX10_insert_57 : decode cX10_insert 57 = .ok (.aload_n 0, 1) := by decide +kernel
theorem dX10_insert_58 : decode cX10_insert 58 = .ok (.getfield 15, 3) := by decide +kernel
theorem dX10_insert_61 : decode cX10_insert 61 = .ok (.iload_n 1, 1) := by decide +kernel
theorem dX10_insert_62 : decode cX10_insert 62 = .ok (.iload_n 3, 1) := by decide +kernel
theorem dX10_insert_63 : decode cX10_insert 63 = .ok (.iastore, 1) := by decide +kernel
theorem dX10_insert_64 : decode cX10_insert 64 = .ok (.aload_n 0, 1) := by decide +kernel
theorem dX10_insert_65 : decode cX10_insert 65 = .ok (.getfield 24, 3) := by decide +kernel
theorem dX10_insert_68 : decode cX10_insert 68 = .ok (.iload_n 1, 1) := by decide +kernel
theorem dX10_insert_69 : decode cX10_insert 69 = .ok (.iload 4, 2) := by decide +kernel
theorem dX10_insert_71 : decode cX10_insert 71 = .ok (.iastore, 1) := by decide +kernel
theorem dX10_insert_72 : decode cX10_insert 72 = .ok (.aload_n 0, 1) := by decide +kernel
theorem dX10_insert_73 : decode cX10_insert 73 = .ok (.getfield 27, 3) := by decide +kernel
theorem dX10_insert_76 : decode cX10_insert 76 = .ok (.iload_n 1, 1) := by decide +kernel
theorem dX10_insert_77 : decode cX10_insert 77 = .ok (.lload 5, 2) := by decide +kernel
theorem dX10_insert_79 : decode cX10_insert 79 = .ok (.lastore, 1) := by decide +kernel
theorem dX10_insert_80 : decode cX10_insert 80 = .ok (.aload_n 0, 1) := by decide +kernel
theorem dX10_insert_81 : decode cX10_insert 81 = .ok (.dup, 1) := by decide +kernel
theorem dX10_insert_82 : decode cX10_insert 82 = .ok (.getfield 34, 3) := by decide +kernel
theorem dX10_insert_85 : decode cX10_insert 85 = .ok (.iconst 1, 1) := by decide +kernel
theorem dX10_insert_86 : decode cX10_insert 86 = .ok (.iadd, 1) := by decide +kernel
theorem dX10_insert_87 : decode cX10_insert 87 = .ok (.putfield 34, 3) := by decide +kernel
theorem dX10_insert_90 : decode cX10_insert 90 = .ok (.return_, 1) := by decide +kernel
theorem dX10_isWithin_0 : decode cX10_isWithin 0 = .ok (.iload_n 1, 1) := by decide +kernel
theorem dX10_isWithin_1 : decode cX10_isWithin 1 = .ok (.iload_n 2, 1) := by decide +kernel
theorem dX10_isWithin_2 : decode cX10_isWithin 2 = .ok (.if_icmp .lt 18, 3) := by decide +kernel
theorem dX10_isWithin_5 : decode cX10_isWithin 5 = .ok (.iload_n 1, 1) := by decide +kernel
theorem dX10_isWithin_6 : decode cX10_isWithin 6 = .ok (.iload_n 2, 1) := by decide +kernel
theorem dX10_isWithin_7 : decode cX10_isWithin 7 = .ok (.aload_n 0, 1) := by decide +kernel
theorem dX10_isWithin_8 : decode cX10_isWithin 8 = .ok (.iload_n 2, 1) := by decide +kernel
theorem dX10_isWithin_9 : decode cX10_isWithin 9 = .ok (.invokevirtual 96, 3) := by decide +kernel
theorem dX10_isWithin_12 : decode cX10_isWithin 12 = .ok (.iadd, 1) := by decide +kernel
theorem dX10_isWithin_13 : decode cX10_isWithin 13 = .ok (.if_icmp .ge 7, 3) := by decide +kernel
theorem dX10_isWithin_16 : decode cX10_isWithin 16 = .ok (.iconst 1, 1) := by decide +kernel
theorem dX10_isWithin_17 : decode cX10_isWithin 17 = .ok (.goto 4, 3) := by decide +kernel
theorem dX10_isWithin_20 : decode cX10_isWithin 20 = .ok (.iconst 0, 1) := by decide +kernel
theorem dX10_isWithin_21 : decode cX10_isWithin 21 = .ok (.ireturn, 1) := by decide +kernel
theorem dX10_moveEntry_0 : decode cX10_moveEntry 0 = .ok (.aload_n 0, 1) := by decide +kernel
theorem dX10_moveEntry_1 : decode cX10_moveEntry 1 = .ok (.getfield 9, 3) := by decide +kernel
theorem dX10_moveEntry_4 : decode cX10_moveEntry 4 = .ok (.iload_n 2, 1) := by decide +kernel
theorem dX10_moveEntry_5 : decode cX10_moveEntry 5 = .ok (.aload_n 0, 1) := by decide +kernel
theorem dX10_moveEntry_6 : decode cX10_moveEntry 6 = .ok (.getfield 9, 3) := by decide +kernel
theorem dX10_moveEntry_9 : decode cX10_moveEntry 9 = .ok (.iload_n 1, 1) := by decide +kernel
theorem dX10_moveEntry_10 : decode cX10_moveEntry 10 = .ok (.iaload, 1) := by decide +kernel
theorem dX10_moveEntry_11 : decode cX10_moveEntry 11 = .ok (.iastore, 1) := by decide +kernel
theorem dX10_moveEntry_12 : decode cX10_moveEntry 12 = .ok (.aload_n 0, 1) := by decide +kernel
theorem dX10_moveEntry_13 : decode cX10_moveEntry 13 = .ok (.getfield 15, 3) := by decide +kernel
theorem dX10_moveEntry_16 : decode cX10_moveEntry 16 = .ok (.iload_n 2, 1) := by decide +kernel
theorem dX10_moveEntry_17 : decode cX10_moveEntry 17 = .ok (.aload_n 0, 1) := by decide +kernel
theorem dX10_moveEntry_18 : decode cX10_moveEntry 18 = .ok (.getfield 15, 3) := by decide +kernel
theorem dX10_moveEntry_21 : decode cX10_moveEntry 21 = .ok (.iload_n 1, 1) := by decide +kernel
theorem dX10_moveEntry_22 : decode cX10_moveEntry 22 = .ok (.iaload, 1) := by decide +kernel
theorem dX10_moveEntry_23 : decode cX10_moveEntry 23 = .ok (.iastore, 1) := by decide +kernel
theorem dX10_moveEntry_24 : decode cX10_moveEntry 24 = .ok (.aload_n 0, 1) := by decide +kernel
theorem dX10_moveEntry_25 : decode cX10_moveEntry 25 = .ok (.getfield 24, 3) := by decide +kernel
theorem dX10_moveEntry_28 : decode cX10_moveEntry 28 = .ok (.iload_n 2, 1) := by decide +kernel
theorem dX10_moveEntry_29 : decode cX10_moveEntry 29 = .ok (.aload_n 0, 1) := by decide +kernel
theorem dX10_moveEntry_30 : decode cX10_moveEntry 30 = .ok (.getfield 24, 3) := by decide +kernel
theorem dX10_moveEntry_33 : decode cX10_moveEntry 33 = .ok (.iload_n 1, 1) := by decide +kernel
theorem dX10_moveEntry_34 : decode cX10_moveEntry 34 = .ok (.iaload, 1) := by decide +kernel
theorem dX10_moveEntry_35 : decode cX10_moveEntry 35 = .ok (.iastore, 1) := by decide +kernel
theorem dX10_moveEntry_36 : decode cX10_moveEntry 36 = .ok (.aload_n 0, 1) := by decide +kernel
theorem dX10_moveEntry_37 : decode cX10_moveEntry 37 = .ok (.getfield 27, 3) := by decide +kernel
theorem dX10_moveEntry_40 : decode cX10_moveEntry 40 = .ok (.iload_n 2, 1) := by decide +kernel
theorem dX10_moveEntry_41 : decode cX10_moveEntry 41 = .ok (.aload_n 0, 1) := by decide +kernel
theorem dX10_moveEntry_42 : decode cX10_moveEntry 42 = .ok (.getfield 27, 3) := by decide +kernel
theorem dX10_moveEntry_45 : decode cX10_moveEntry 45 = .ok (.iload_n 1, 1) := by decide +kernel
theorem dX10_moveEntry_46 : decode cX10_moveEntry 46 = .ok (.laload, 1) := by decide +kernel
theorem dX10_moveEntry_47 : decode cX10_moveEntry 47 = .ok (.lastore, 1) := by decide +kernel
theorem dX10_moveEntry_48 : decode cX10_moveEntry 48 = .ok (.return_, 1) := by decide +kernel
theorem dX10_placeOf_0 : decode cX10_placeOf 0 = .ok (.iconst 0, 1) := by decide +kernel
theorem dX10_placeOf_1 : decode cX10_placeOf 1 = .ok (.istore_n 2, 1) := by decide +kernel
theorem dX10_placeOf_2 : decode cX10_placeOf 2 = .ok (.iconst 1, 1) := by decide +kernel
theorem dX10_placeOf_3 : decode cX10_placeOf 3 = .ok (.istore_n 3, 1) := by decide +kernel
theorem dX10_placeOf_4 : decode cX10_placeOf 4 = .ok (.iload_n 3, 1) := by decide +kernel
theorem dX10_placeOf_5 : decode cX10_placeOf 5 = .ok (.iload_n 1, 1) := by decide +kernel
theorem dX10_placeOf_6 : decode cX10_placeOf 6 = .ok (.if_icmp .ge 27, 3) := by decide +kernel
theorem dX10_placeOf_9 : decode cX10_placeOf 9 = .ok (.aload_n 0, 1) := by decide +kernel
theorem dX10_placeOf_10 : decode cX10_placeOf 10 = .ok (.getfield 18, 3) := by decide +kernel
theorem dX10_placeOf_13 : decode cX10_placeOf 13 = .ok (.iload_n 3, 1) := by decide +kernel
theorem dX10_placeOf_14 : decode cX10_placeOf 14 = .ok (.iaload, 1) := by decide +kernel
theorem dX10_placeOf_15 : decode cX10_placeOf 15 = .ok (.aload_n 0, 1) := by decide +kernel
theorem dX10_placeOf_16 : decode cX10_placeOf 16 = .ok (.getfield 18, 3) := by decide +kernel
theorem dX10_placeOf_19 : decode cX10_placeOf 19 = .ok (.iload_n 1, 1) := by decide +kernel
theorem dX10_placeOf_20 : decode cX10_placeOf 20 = .ok (.iaload, 1) := by decide +kernel
theorem dX10_placeOf_21 : decode cX10_placeOf 21 = .ok (.if_icmp .ne 6, 3) := by decide +kernel
theorem dX10_placeOf_24 : decode cX10_placeOf 24 = .ok (.iinc 2 1, 3) := by decide +kernel
theorem dX10_placeOf_27 : decode cX10_placeOf 27 = .ok (.iinc 3 1, 3) := by decide +kernel
theorem dX10_placeOf_30 : decode cX10_placeOf 30 = .ok (.goto (-26), 3) := by decide +kernel
theorem dX10_placeOf_33 : decode cX10_placeOf 33 = .ok (.iload_n 2, 1) := by decide +kernel
theorem dX10_placeOf_34 : decode cX10_placeOf 34 = .ok (.ireturn, 1) := by decide +kernel
theorem dX11_isLetter_0 : decode cX11_isLetter 0 = .ok (.iload_n 0, 1) := by decide +kernel
theorem dX11_isLetter_1 : decode cX11_isLetter 1 = .ok (.bipush 97, 2) := by decide +kernel
theorem dX11_isLetter_3 : decode cX11_isLetter 3 = .ok (.if_icmp .lt 13, 3) := by decide +kernel
theorem dX11_isLetter_6 : decode cX11_isLetter 6 = .ok (.iload_n 0, 1) := by decide +kernel
theorem dX11_isLetter_7 : decode cX11_isLetter 7 = .ok (.bipush 122, 2) := by decide +kernel
theorem dX11_isLetter_9 : decode cX11_isLetter 9 = .ok (.if_icmp .gt 7, 3) := by decide +kernel
theorem dX11_isLetter_12 : decode cX11_isLetter 12 = .ok (.iconst 1, 1) := by decide +kernel
theorem dX11_isLetter_13 : decode cX11_isLetter 13 = .ok (.goto 4, 3) := by decide +kernel
theorem dX11_isLetter_16 : decode cX11_isLetter 16 = .ok (.iconst 0, 1) := by decide +kernel
theorem dX11_isLetter_17 : decode cX11_isLetter 17 = .ok (.ireturn, 1) := by decide +kernel
theorem dX11_isWordByte_0 : decode cX11_isWordByte 0 = .ok (.iload_n 0, 1) := by decide +kernel
theorem dX11_isWordByte_1 : decode cX11_isWordByte 1 = .ok (.invokestatic 367, 3) := by decide +kernel
theorem dX11_isWordByte_4 : decode cX11_isWordByte 4 = .ok (.ifCond .ne 15, 3) := by decide +kernel
theorem dX11_isWordByte_7 : decode cX11_isWordByte 7 = .ok (.iload_n 0, 1) := by decide +kernel
theorem dX11_isWordByte_8 : decode cX11_isWordByte 8 = .ok (.bipush 48, 2) := by decide +kernel
theorem dX11_isWordByte_10 : decode cX11_isWordByte 10 = .ok (.if_icmp .lt 13, 3) := by decide +kernel
theorem dX11_isWordByte_13 : decode cX11_isWordByte 13 = .ok (.iload_n 0, 1) := by decide +kernel
theorem dX11_isWordByte_14 : decode cX11_isWordByte 14 = .ok (.bipush 57, 2) := by decide +kernel
theorem dX11_isWordByte_16 : decode cX11_isWordByte 16 = .ok (.if_icmp .gt 7, 3) := by decide +kernel
theorem dX11_isWordByte_19 : decode cX11_isWordByte 19 = .ok (.iconst 1, 1) := by decide +kernel
theorem dX11_isWordByte_20 : decode cX11_isWordByte 20 = .ok (.goto 4, 3) := by decide +kernel
theorem dX11_isWordByte_23 : decode cX11_isWordByte 23 = .ok (.iconst 0, 1) := by decide +kernel
theorem dX11_isWordByte_24 : decode cX11_isWordByte 24 = .ok (.ireturn, 1) := by decide +kernel
theorem dX1_fromsOf_0 : decode cX1_fromsOf 0 = .ok (.aload_n 0, 1) := by decide +kernel
theorem dX1_fromsOf_1 : decode cX1_fromsOf 1 = .ok (.iload_n 1, 1) := by decide +kernel
theorem dX1_fromsOf_2 : decode cX1_fromsOf 2 = .ok (.invokevirtual 31, 3) := by decide +kernel
theorem dX1_fromsOf_5 : decode cX1_fromsOf 5 = .ok (.ifCond .eq 12, 3) := by decide +kernel
theorem dX1_fromsOf_8 : decode cX1_fromsOf 8 = .ok (.aload_n 0, 1) := by decide +kernel
theorem dX1_fromsOf_9 : decode cX1_fromsOf 9 = .ok (.getfield 24, 3) := by decide +kernel
theorem dX1_fromsOf_12 : decode cX1_fromsOf 12 = .ok (.iload_n 1, 1) := by decide +kernel
theorem dX1_fromsOf_13 : decode cX1_fromsOf 13 = .ok (.iaload, 1) := by decide +kernel
theorem dX1_fromsOf_14 : decode cX1_fromsOf 14 = .ok (.goto 4, 3) := by decide +kernel
theorem dX1_fromsOf_17 : decode cX1_fromsOf 17 = .ok (.iconst 0, 1) := by decide +kernel
theorem dX1_fromsOf_18 : decode cX1_fromsOf 18 = .ok (.ireturn, 1) := by decide +kernel
theorem dX1_has_0 : decode cX1_has 0 = .ok (.iload_n 1, 1) := by decide +kernel
theorem dX1_has_1 : decode cX1_has 1 = .ok (.ifCond .lt 15, 3) := by decide +kernel
theorem dX1_has_4 : decode cX1_has 4 = .ok (.iload_n 1, 1) := by decide +kernel
theorem dX1_has_5 : decode cX1_has 5 = .ok (.aload_n 0, 1) := by decide +kernel
theorem dX1_has_6 : decode cX1_has 6 = .ok (.getfield 27, 3) := by decide +kernel
theorem dX1_has_9 : decode cX1_has 9 = .ok (.if_icmp .ge 7, 3) := by decide +kernel
theorem dX1_has_12 : decode cX1_has 12 = .ok (.iconst 1, 1) := by decide +kernel
theorem dX1_has_13 : decode cX1_has 13 = .ok (.goto 4, 3) := by decide +kernel
theorem dX1_has_16 : decode cX1_has 16 = .ok (.iconst 0, 1) := by decide +kernel
theorem dX1_has_17 : decode cX1_has 17 = .ok (.ireturn, 1) := by decide +kernel
theorem dX1_isFull_0 : decode cX1_isFull 0 = .ok (.aload_n 0, 1) := by decide +kernel
theorem dX1_isFull_1 : decode cX1_isFull 1 = .ok (.getfield 27, 3) := by decide +kernel
theorem dX1_isFull_4 : decode cX1_isFull 4 = .ok (.bipush 12, 2) := by decide +kernel
theorem dX1_isFull_6 : decode cX1_isFull 6 = .ok (.if_icmp .lt 7, 3) := by decide +kernel
theorem dX1_isFull_9 : decode cX1_isFull 9 = .ok (.iconst 1, 1) := by decide +kernel
theorem dX1_isFull_10 : decode cX1_isFull 10 = .ok (.goto 4, 3) := by decide +kernel
theorem dX1_isFull_13 : decode cX1_isFull 13 = .ok (.iconst 0, 1) := by decide +kernel
theorem dX1_isFull_14 : decode cX1_isFull 14 = .ok (.ireturn, 1) := by decide +kernel
theorem dX1_onlyParent_0 : decode cX1_onlyParent 0 = .ok (.aload_n 0, 1) := by decide +kernel
theorem dX1_onlyParent_1 : decode cX1_onlyParent 1 = .ok (.iload_n 1, 1) := by decide +kernel
theorem dX1_onlyParent_2 : decode cX1_onlyParent 2 = .ok (.invokevirtual 31, 3) := by decide +kernel
theorem dX1_onlyParent_5 : decode cX1_onlyParent 5 = .ok (.ifCond .eq 22, 3) := by decide +kernel
theorem dX1_onlyParent_8 : decode cX1_onlyParent 8 = .ok (.aload_n 0, 1) := by decide +kernel
theorem dX1_onlyParent_9 : decode cX1_onlyParent 9 = .ok (.getfield 21, 3) := by decide +kernel
theorem dX1_onlyParent_12 : decode cX1_onlyParent 12 = .ok (.iload_n 1, 1) := by decide +kernel
theorem dX1_onlyParent_13 : decode cX1_onlyParent 13 = .ok (.iaload, 1) := by decide +kernel
theorem dX1_onlyParent_14 : decode cX1_onlyParent 14 = .ok (.iconst (-1), 1) := by decide +kernel
theorem dX1_onlyParent_15 : decode cX1_onlyParent 15 = .ok (.if_icmp .ne 12, 3) := by decide +kernel
theorem dX1_onlyParent_18 : decode cX1_onlyParent 18 = .ok (.aload_n 0, 1) := by decide +kernel
theorem dX1_onlyParent_19 : decode cX1_onlyParent 19 = .ok (.getfield 17, 3) := by decide +kernel
theorem dX1_onlyParent_22 : decode cX1_onlyParent 22 = .ok (.iload_n 1, 1) := by decide +kernel
theorem dX1_onlyParent_23 : decode cX1_onlyParent 23 = .ok (.iaload, 1) := by decide +kernel
theorem dX1_onlyParent_24 : decode cX1_onlyParent 24 = .ok (.goto 4, 3) := by decide +kernel
theorem dX1_onlyParent_27 : decode cX1_onlyParent 27 = .ok (.iconst (-1), 1) := by decide +kernel
theorem dX1_onlyParent_28 : decode cX1_onlyParent 28 = .ok (.ireturn, 1) := by decide +kernel
theorem dX2_hasKind_0 : decode cX2_hasKind 0 = .ok (.iload_n 1, 1) := by decide +kernel
theorem dX2_hasKind_1 : decode cX2_hasKind 1 = .ok (.ifCond .lt 15, 3) := by decide +kernel
theorem dX2_hasKind_4 : decode cX2_hasKind 4 = .ok (.iload_n 1, 1) := by decide +kernel
theorem dX2_hasKind_5 : decode cX2_hasKind 5 = .ok (.aload_n 0, 1) := by decide +kernel
theorem dX2_hasKind_6 : decode cX2_hasKind 6 = .ok (.getfield 45, 3) := by decide +kernel
theorem dX2_hasKind_9 : decode cX2_hasKind 9 = .ok (.if_icmp .ge 7, 3) := by decide +kernel
theorem dX2_hasKind_12 : decode cX2_hasKind 12 = .ok (.iconst 1, 1) := by decide +kernel
theorem dX2_hasKind_13 : decode cX2_hasKind 13 = .ok (.goto 4, 3) := by decide +kernel
theorem dX2_hasKind_16 : decode cX2_hasKind 16 = .ok (.iconst 0, 1) := by decide +kernel
theorem dX2_hasKind_17 : decode cX2_hasKind 17 = .ok (.ireturn, 1) := by decide +kernel
theorem dX2_isSet_0 : decode cX2_isSet 0 = .ok (.aload_n 0, 1) := by decide +kernel
theorem dX2_isSet_1 : decode cX2_isSet 1 = .ok (.iload_n 1, 1) := by decide +kernel
theorem dX2_isSet_2 : decode cX2_isSet 2 = .ok (.invokevirtual 49, 3) := by decide +kernel
theorem dX2_isSet_5 : decode cX2_isSet 5 = .ok (.ifCond .eq 17, 3) := by decide +kernel
theorem dX2_isSet_8 : decode cX2_isSet 8 = .ok (.aload_n 0, 1) := by decide +kernel
theorem dX2_isSet_9 : decode cX2_isSet 9 = .ok (.getfield 21, 3) := by decide +kernel
theorem dX2_isSet_12 : decode cX2_isSet 12 = .ok (.iload_n 1, 1) := by decide +kernel
theorem dX2_isSet_13 : decode cX2_isSet 13 = .ok (.iaload, 1) := by decide +kernel
theorem dX2_isSet_14 : decode cX2_isSet 14 = .ok (.iconst 3, 1) := by decide +kernel
theorem dX2_isSet_15 : decode cX2_isSet 15 = .ok (.if_icmp .ne 7, 3) := by decide +kernel
theorem dX2_isSet_18 : decode cX2_isSet 18 = .ok (.iconst 1, 1) := by decide +kernel
theorem dX2_isSet_19 : decode cX2_isSet 19 = .ok (.goto 4, 3) := by decide +kernel
theorem dX2_isSet_22 : decode cX2_isSet 22 = .ok (.iconst 0, 1) := by decide +kernel
theorem dX2_isSet_23 : decode cX2_isSet 23 = .ok (.ireturn, 1) := by decide +kernel
theorem dX2_namesAll_0 : decode cX2_namesAll 0 = .ok (.iconst 0, 1) := by decide +kernel
theorem dX2_namesAll_1 : decode cX2_namesAll 1 = .ok (.istore_n 3, 1) := by decide +kernel
theorem dX2_namesAll_2 : decode cX2_namesAll 2 = .ok (.iload_n 3, 1) := by decide +kernel
theorem dX2_namesAll_3 : decode cX2_namesAll 3 = .ok (.aload_n 2, 1) := by decide +kernel
theorem dX2_namesAll_4 : decode cX2_namesAll 4 = .ok (.getfield 106, 3) := by decide +kernel
theorem dX2_namesAll_7 : decode cX2_namesAll 7 = .ok (.if_icmp .ge 72, 3) := by decide +kernel
theorem dX2_namesAll_10 : decode cX2_namesAll 10 = .ok (.iconst 0, 1) := by decide +kernel
theorem dX2_namesAll_11 : decode cX2_namesAll 11 = .ok (.istore 4, 2) := by decide +kernel
theorem dX2_namesAll_13 : decode cX2_namesAll 13 = .ok (.aload_n 0, 1) := by decide +kernel
theorem dX2_namesAll_14 : decode cX2_namesAll 14 = .ok (.getfield 24, 3) := by decide +kernel
theorem dX2_namesAll_17 : decode cX2_namesAll 17 = .ok (.iload_n 1, 1) := by decide +kernel
theorem dX2_namesAll_18 : decode cX2_namesAll 18 = .ok (.iaload, 1) := by decide +kernel
theorem dX2_namesAll_19 : decode cX2_namesAll 19 = .ok (.istore 5, 2) := by decide +kernel
theorem dX2_namesAll_21 : decode cX2_namesAll 21 = .ok (.iload 5, 2) := by decide +kernel
theorem dX2_namesAll_23 : decode cX2_namesAll 23 = .ok (.aload_n 0, 1) := by decide +kernel
theorem dX2_namesAll_24 : decode cX2_namesAll 24 = .ok (.getfield 27, 3) := by decide +kernel
theorem dX2_namesAll_27 : decode cX2_namesAll 27 = .ok (.iload_n 1, 1) := by decide +kernel
theorem dX2_namesAll_28 : decode cX2_namesAll 28 = .ok (.iaload, 1) := by decide +kernel
theorem dX2_namesAll_29 : decode cX2_namesAll 29 = .ok (.if_icmp .ge 37, 3) := by decide +kernel
theorem dX2_namesAll_32 : decode cX2_namesAll 32 = .ok (.iload 4, 2) := by decide +kernel
theorem dX2_namesAll_34 : decode cX2_namesAll 34 = .ok (.ifCond .ne 19, 3) := by decide +kernel
theorem dX2_namesAll_37 : decode cX2_namesAll 37 = .ok (.aload_n 0, 1) := by decide +kernel
theorem dX2_namesAll_38 : decode cX2_namesAll 38 = .ok (.getfield 36, 3) := by decide +kernel
theorem dX2_namesAll_41 : decode cX2_namesAll 41 = .ok (.iload 5, 2) := by decide +kernel
theorem dX2_namesAll_43 : decode cX2_namesAll 43 = .ok (.iaload, 1) := by decide +kernel
theorem dX2_namesAll_44 : decode cX2_namesAll 44 = .ok (.aload_n 2, 1) := by decide +kernel
theorem dX2_namesAll_45 : decode cX2_namesAll 45 = .ok (.getfield 118, 3) := by decide +kernel
theorem dX2_namesAll_48 : decode cX2_namesAll 48 = .ok (.iload_n 3, 1) := by decide +kernel
theorem dX2_namesAll_49 : decode cX2_namesAll 49 = .ok (.iaload, 1) := by decide +kernel
theorem dX2_namesAll_50 : decode cX2_namesAll 50 = .ok (.if_icmp .ne 7, 3) := by decide +kernel
theorem dX2_namesAll_53 : decode cX2_namesAll 53 = .ok (.iconst 1, 1) := by decide +kernel
theorem dX2_namesAll_54 : decode cX2_namesAll 54 = .ok (.goto 4, 3) := by decide +kernel
theorem dX2_namesAll_57 : decode cX2_namesAll 57 = .ok (.iconst 0, 1) := by decide +kernel
theorem dX2_namesAll_58 : decode cX2_namesAll 58 = .ok (.istore 4, 2) := by decide +kernel
theorem dX2_namesAll_60 : decode cX2_namesAll 60 = .ok (.iinc 5 1, 3) := by decide +kernel
theorem dX2_namesAll_63 : decode cX2_namesAll 63 = .ok (.goto (-42), 3) := by decide +kernel
theorem dX2_namesAll_66 : decode cX2_namesAll 66 = .ok (.iload 4, 2) := by decide +kernel
theorem dX2_namesAll_68 : decode cX2_namesAll 68 = .ok (.ifCond .ne 5, 3) := by decide +kernel
theorem dX2_namesAll_71 : decode cX2_namesAll 71 = .ok (.iconst 0, 1) := by decide +kernel
theorem dX2_namesAll_72 : decode cX2_namesAll 72 = .ok (.ireturn, 1) := by decide +kernel
theorem dX2_namesAll_73 : decode cX2_namesAll 73 = .ok (.iinc 3 1, 3) := by decide +kernel
theorem dX2_namesAll_76 : decode cX2_namesAll 76 = .ok (.goto (-74), 3) := by decide +kernel
theorem dX2_namesAll_79 : decode cX2_namesAll 79 = .ok (.iconst 1, 1) := by decide +kernel
theorem dX2_namesAll_80 : decode cX2_namesAll 80 = .ok (.ireturn, 1) := by decide +kernel
theorem dX3_add_0 : decode cX3_add 0 = .ok (.aload_n 0, 1) := by decide +kernel
theorem dX3_add_1 : decode cX3_add 1 = .ok (.getfield 19, 3) := by decide +kernel
theorem dX3_add_4 : decode cX3_add 4 = .ok (.bipush 40, 2) := by decide +kernel
theorem dX3_add_6 : decode cX3_add 6 = .ok (.if_icmp .ge 33, 3) := by decide +kernel
theorem dX3_add_9 : decode cX3_add 9 = .ok (.aload_n 0, 1) := by decide +kernel
theorem dX3_add_10 : decode cX3_add 10 = .ok (.getfield 9, 3) := by decide +kernel
theorem dX3_add_13 : decode cX3_add 13 = .ok (.aload_n 0, 1) := by decide +kernel
theorem dX3_add_14 : decode cX3_add 14 = .ok (.getfield 19, 3) := by decide +kernel
theorem dX3_add_17 : decode cX3_add 17 = .ok (.iload_n 1, 1) := by decide +kernel
theorem dX3_add_18 : decode cX3_add 18 = .ok (.iastore, 1) := by decide +kernel
theorem dX3_add_19 : decode cX3_add 19 = .ok (.aload_n 0, 1) := by decide +kernel
theorem dX3_add_20 : decode cX3_add 20 = .ok (.getfield 15, 3) := by decide +kernel
theorem dX3_add_23 : decode cX3_add 23 = .ok (.aload_n 0, 1) := by decide +kernel
theorem dX3_add_24 : decode cX3_add 24 = .ok (.getfield 19, 3) := by decide +kernel
theorem dX3_add_27 : decode cX3_add 27 = .ok (.lload_n 2, 1) := by decide +kernel
theorem dX3_add_28 : decode cX3_add 28 = .ok (.lastore, 1) := by decide +kernel
theorem dX3_add_29 : decode cX3_add 29 = .ok (.aload_n 0, 1) := by decide +kernel
theorem dX3_add_30 : decode cX3_add 30 = .ok (.dup, 1) := by decide +kernel
theorem dX3_add_31 : decode cX3_add 31 = .ok (.getfield 19, 3) := by decide +kernel
theorem dX3_add_34 : decode cX3_add 34 = .ok (.iconst 1, 1) := by decide +kernel
theorem dX3_add_35 : decode cX3_add 35 = .ok (.iadd, 1) := by decide +kernel
theorem dX3_add_36 : decode cX3_add 36 = .ok (.putfield 19, 3) := by decide +kernel
theorem dX3_add_39 : decode cX3_add 39 = .ok (.return_, 1) := by decide +kernel
theorem dX3_clear_0 : decode cX3_clear 0 = .ok (.aload_n 0, 1) := by decide +kernel
theorem dX3_clear_1 : decode cX3_clear 1 = .ok (.iconst 0, 1) := by decide +kernel
theorem dX3_clear_2 : decode cX3_clear 2 = .ok (.putfield 19, 3) := by decide +kernel
theorem dX3_clear_5 : decode cX3_clear 5 = .ok (.return_, 1) := by decide +kernel
theorem dX3_hasLikes_0 : decode cX3_hasLikes 0 = .ok (.iconst 0, 1) := by decide +kernel
theorem dX3_hasLikes_1 : decode cX3_hasLikes 1 = .ok (.istore_n 1, 1) := by decide +kernel
theorem dX3_hasLikes_2 : decode cX3_hasLikes 2 = .ok (.iload_n 1, 1) := by decide +kernel
theorem dX3_hasLikes_3 : decode cX3_hasLikes 3 = .ok (.aload_n 0, 1) := by decide +kernel
theorem dX3_hasLikes_4 : decode cX3_hasLikes 4 = .ok (.getfield 19, 3) := by decide +kernel
theorem dX3_hasLikes_7 : decode cX3_hasLikes 7 = .ok (.if_icmp .ge 55, 3) := by decide +kernel
theorem dX3_hasLikes_10 : decode cX3_hasLikes 10 = .ok (.iconst 0, 1) := by decide +kernel
theorem dX3_hasLikes_11 : decode cX3_hasLikes 11 = .ok (.istore_n 2, 1) := by decide +kernel
theorem dX3_hasLikes_12 : decode cX3_hasLikes 12 = .ok (.iload_n 2, 1) := by decide +kernel
theorem dX3_hasLikes_13 : decode cX3_hasLikes 13 = .ok (.iload_n 1, 1) := by decide +kernel
theorem dX3_hasLikes_14 : decode cX3_hasLikes 14 = .ok (.if_icmp .ge 42, 3) := by decide +kernel
theorem dX3_hasLikes_17 : decode cX3_hasLikes 17 = .ok (.aload_n 0, 1) := by decide +kernel
theorem dX3_hasLikes_18 : decode cX3_hasLikes 18 = .ok (.getfield 9, 3) := by decide +kernel
theorem dX3_hasLikes_21 : decode cX3_hasLikes 21 = .ok (.iload_n 1, 1) := by decide +kernel
theorem dX3_hasLikes_22 : decode cX3_hasLikes 22 = .ok (.iaload, 1) := by decide +kernel
theorem dX3_hasLikes_23 : decode cX3_hasLikes 23 = .ok (.aload_n 0, 1) := by decide +kernel
theorem dX3_hasLikes_24 : decode cX3_hasLikes 24 = .ok (.getfield 9, 3) := by decide +kernel
theorem dX3_hasLikes_27 : decode cX3_hasLikes 27 = .ok (.iload_n 2, 1) := by decide +kernel
theorem dX3_hasLikes_28 : decode cX3_hasLikes 28 = .ok (.iaload, 1) := by decide +kernel
theorem dX3_hasLikes_29 : decode cX3_hasLikes 29 = .ok (.if_icmp .ne 21, 3) := by decide +kernel
theorem dX3_hasLikes_32 : decode cX3_hasLikes 32 = .ok (.aload_n 0, 1) := by decide +kernel
theorem dX3_hasLikes_33 : decode cX3_hasLikes 33 = .ok (.getfield 15, 3) := by decide +kernel
theorem dX3_hasLikes_36 : decode cX3_hasLikes 36 = .ok (.iload_n 1, 1) := by decide +kernel
theorem dX3_hasLikes_37 : decode cX3_hasLikes 37 = .ok (.laload, 1) := by decide +kernel
theorem dX3_hasLikes_38 : decode cX3_hasLikes 38 = .ok (.aload_n 0, 1) := by decide +kernel
theorem dX3_hasLikes_39 : decode cX3_hasLikes 39 = .ok (.getfield 15, 3) := by decide +kernel
theorem dX3_hasLikes_42 : decode cX3_hasLikes 42 = .ok (.iload_n 2, 1) := by decide +kernel
theorem dX3_hasLikes_43 : decode cX3_hasLikes 43 = .ok (.laload, 1) := by decide +kernel
theorem dX3_hasLikes_44 : decode cX3_hasLikes 44 = .ok (.lcmp, 1) := by decide +kernel
theorem dX3_hasLikes_45 : decode cX3_hasLikes 45 = .ok (.ifCond .ne 5, 3) := by decide +kernel
theorem dX3_hasLikes_48 : decode cX3_hasLikes 48 = .ok (.iconst 1, 1) := by decide +kernel
theorem dX3_hasLikes_49 : decode cX3_hasLikes 49 = .ok (.ireturn, 1) := by decide +kernel
theorem dX3_hasLikes_50 : decode cX3_hasLikes 50 = .ok (.iinc 2 1, 3) := by decide +kernel
theorem dX3_hasLikes_53 : decode cX3_hasLikes 53 = .ok (.goto (-41), 3) := by decide +kernel
theorem dX3_hasLikes_56 : decode cX3_hasLikes 56 = .ok (.iinc 1 1, 3) := by decide +kernel
theorem dX3_hasLikes_59 : decode cX3_hasLikes 59 = .ok (.goto (-57), 3) := by decide +kernel
theorem dX3_hasLikes_62 : decode cX3_hasLikes 62 = .ok (.iconst 0, 1) := by decide +kernel
theorem dX3_hasLikes_63 : decode cX3_hasLikes 63 = .ok (.ireturn, 1) := by decide +kernel
theorem dX4_link_0 : decode cX4_link 0 = .ok (.aload_n 0, 1) := by decide +kernel
theorem dX4_link_1 : decode cX4_link 1 = .ok (.getfield 21, 3) := by decide +kernel
theorem dX4_link_4 : decode cX4_link 4 = .ok (.iload_n 1, 1) := by decide +kernel
theorem dX4_link_5 : decode cX4_link 5 = .ok (.iload_n 2, 1) := by decide +kernel
theorem dX4_link_6 : decode cX4_link 6 = .ok (.iastore, 1) := by decide +kernel
theorem dX4_link_7 : decode cX4_link 7 = .ok (.aload_n 0, 1) := by decide +kernel
theorem dX4_link_8 : decode cX4_link 8 = .ok (.getfield 25, 3) := by decide +kernel
theorem dX4_link_11 : decode cX4_link 11 = .ok (.iload_n 2, 1) := by decide +kernel
theorem dX4_link_12 : decode cX4_link 12 = .ok (.iload_n 1, 1) := by decide +kernel
theorem dX4_link_13 : decode cX4_link 13 = .ok (.iastore, 1) := by decide +kernel
theorem dX4_link_14 : decode cX4_link 14 = .ok (.return_, 1) := by decide +kernel
theorem dX4_pairNothing_0 : decode cX4_pairNothing 0 = .ok (.iconst 0, 1) := by decide +kernel
theorem dX4_pairNothing_1 : decode cX4_pairNothing 1 = .ok (.istore_n 1, 1) := by decide +kernel
theorem dX4_pairNothing_2 : decode cX4_pairNothing 2 = .ok (.iload_n 1, 1) := by decide +kernel
theorem dX4_pairNothing_3 : decode cX4_pairNothing 3 = .ok (.bipush 40, 2) := by decide +kernel
theorem dX4_pairNothing_5 : decode cX4_pairNothing 5 = .ok (.if_icmp .ge 23, 3) := by decide +kernel
theorem dX4_pairNothing_8 : decode cX4_pairNothing 8 = .ok (.aload_n 0, 1) := by decide +kernel
theorem dX4_pairNothing_9 : decode cX4_pairNothing 9 = .ok (.getfield 21, 3) := by decide +kernel
theorem dX4_pairNothing_12 : decode cX4_pairNothing 12 = .ok (.iload_n 1, 1) := by decide +kernel
theorem dX4_pairNothing_13 : decode cX4_pairNothing 13 = .ok (.iconst (-1), 1) := by decide +kernel
theorem dX4_pairNothing_14 : decode cX4_pairNothing 14 = .ok (.iastore, 1) := by decide +kernel
theorem dX4_pairNothing_15 : decode cX4_pairNothing 15 = .ok (.aload_n 0, 1) := by decide +kernel
theorem dX4_pairNothing_16 : decode cX4_pairNothing 16 = .ok (.getfield 25, 3) := by decide +kernel
theorem dX4_pairNothing_19 : decode cX4_pairNothing 19 = .ok (.iload_n 1, 1) := by decide +kernel
theorem dX4_pairNothing_20 : decode cX4_pairNothing 20 = .ok (.iconst (-1), 1) := by decide +kernel
theorem dX4_pairNothing_21 : decode cX4_pairNothing 21 = .ok (.iastore, 1) := by decide +kernel
theorem dX4_pairNothing_22 : decode cX4_pairNothing 22 = .ok (.iinc 1 1, 3) := by decide +kernel
theorem dX4_pairNothing_25 : decode cX4_pairNothing 25 = .ok (.goto (-23), 3) := by decide +kernel
theorem dX4_pairNothing_28 : decode cX4_pairNothing 28 = .ok (.return_, 1) := by decide +kernel
theorem dX4_pairs_0 : decode cX4_pairs 0 = .ok (.iconst 0, 1) := by decide +kernel
theorem dX4_pairs_1 : decode cX4_pairs 1 = .ok (.istore_n 1, 1) := by decide +kernel
theorem dX4_pairs_2 : decode cX4_pairs 2 = .ok (.iconst 0, 1) := by decide +kernel
theorem dX4_pairs_3 : decode cX4_pairs 3 = .ok (.istore_n 2, 1) := by decide +kernel
theorem dX4_pairs_4 : decode cX4_pairs 4 = .ok (.iload_n 2, 1) := by decide +kernel
theorem dX4_pairs_5 : decode cX4_pairs 5 = .ok (.bipush 40, 2) := by decide +kernel
theorem dX4_pairs_7 : decode cX4_pairs 7 = .ok (.if_icmp .ge 22, 3) := by decide +kernel
theorem dX4_pairs_10 : decode cX4_pairs 10 = .ok (.aload_n 0, 1) := by decide +kernel
theorem dX4_pairs_11 : decode cX4_pairs 11 = .ok (.getfield 25, 3) := by decide +kernel
theorem dX4_pairs_14 : decode cX4_pairs 14 = .ok (.iload_n 2, 1) := by decide +kernel
theorem dX4_pairs_15 : decode cX4_pairs 15 = .ok (.iaload, 1) := by decide +kernel
theorem dX4_pairs_16 : decode cX4_pairs 16 = .ok (.iconst (-1), 1) := by decide +kernel
theorem dX4_pairs_17 : decode cX4_pairs 17 = .ok (.if_icmp .eq 6, 3) := by decide +kernel
theorem dX4_pairs_20 : decode cX4_pairs 20 = .ok (.iinc 1 1, 3) := by decide +kernel
theorem dX4_pairs_23 : decode cX4_pairs 23 = .ok (.iinc 2 1, 3) := by decide +kernel
theorem dX4_pairs_26 : decode cX4_pairs 26 = .ok (.goto (-22), 3) := by decide +kernel
theorem dX4_pairs_29 : decode cX4_pairs 29 = .ok (.iload_n 1, 1) := by decide +kernel
theorem dX4_pairs_30 : decode cX4_pairs 30 = .ok (.ireturn, 1) := by decide +kernel
theorem dX9_append_0 : decode cX9_append 0 = .ok (.bipush 24, 2) := by decide +kernel
theorem dX9_append_2 : decode cX9_append 2 = .ok (.istore_n 2, 1) := by decide +kernel
theorem dX9_append_3 : decode cX9_append 3 = .ok (.iload_n 2, 1) := by decide +kernel
theorem dX9_append_4 : decode cX9_append 4 = .ok (.ifCond .lt 45, 3) := by decide +kernel
theorem dX9_append_7 : decode cX9_append 7 = .ok (.aload_n 0, 1) := by decide +kernel
theorem dX9_append_8 : decode cX9_append 8 = .ok (.getfield 15, 3) := by decide +kernel
theorem dX9_append_11 : decode cX9_append 11 = .ok (.sipush 500, 3) := by decide +kernel
theorem dX9_append_14 : decode cX9_append 14 = .ok (.if_icmp .ge 29, 3) := by decide +kernel
theorem dX9_append_17 : decode cX9_append 17 = .ok (.aload_n 0, 1) := by decide +kernel
theorem dX9_append_18 : decode cX9_append 18 = .ok (.getfield 9, 3) := by decide +kernel
theorem dX9_append_21 : decode cX9_append 21 = .ok (.aload_n 0, 1) := by decide +kernel
theorem dX9_append_22 : decode cX9_append 22 = .ok (.getfield 15, 3) := by decide +kernel
theorem dX9_append_25 : decode cX9_append 25 = .ok (.iload_n 1, 1) := by decide +kernel
theorem dX9_append_26 : decode cX9_append 26 = .ok (.iload_n 2, 1) := by decide +kernel
theorem dX9_append_27 : decode cX9_append 27 = .ok (.iushr, 1) := by decide +kernel
theorem dX9_append_28 : decode cX9_append 28 = .ok (.sipush 255, 3) := by decide +kernel
theorem dX9_append_31 : decode cX9_append 31 = .ok (.iand, 1) := by decide +kernel
theorem dX9_append_32 : decode cX9_append 32 = .ok (.iastore, 1) := by decide +kernel
theorem dX9_append_33 : decode cX9_append 33 = .ok (.aload_n 0, 1) := by decide +kernel
theorem dX9_append_34 : decode cX9_append 34 = .ok (.dup, 1) := by decide +kernel
theorem dX9_append_35 : decode cX9_append 35 = .ok (.getfield 15, 3) := by decide +kernel
theorem dX9_append_38 : decode cX9_append 38 = .ok (.iconst 1, 1) := by decide +kernel
theorem dX9_append_39 : decode cX9_append 39 = .ok (.iadd, 1) := by decide +kernel
theorem dX9_append_40 : decode cX9_append 40 = .ok (.putfield 15, 3) := by decide +kernel
theorem dX9_append_43 : decode cX9_append 43 = .ok (.iinc 2 (-8), 3) := by decide +kernel
theorem dX9_append_46 : decode cX9_append 46 = .ok (.goto (-43), 3) := by decide +kernel
theorem dX9_append_49 : decode cX9_append 49 = .ok (.return_, 1) := by decide +kernel
theorem dX9_cutWord_0 : decode cX9_cutWord 0 = .ok (.aload_n 0, 1) := by decide +kernel
theorem dX9_cutWord_1 : decode cX9_cutWord 1 = .ok (.aload_n 0, 1) := by decide +kernel
theorem dX9_cutWord_2 : decode cX9_cutWord 2 = .ok (.getfield 22, 3) := by decide +kernel
theorem dX9_cutWord_5 : decode cX9_cutWord 5 = .ok (.iconst 1, 1) := by decide +kernel
theorem dX9_cutWord_6 : decode cX9_cutWord 6 = .ok (.iadd, 1) := by decide +kernel
theorem dX9_cutWord_7 : decode cX9_cutWord 7 = .ok (.putfield 19, 3) := by decide +kernel
theorem dX9_cutWord_10 : decode cX9_cutWord 10 = .ok (.aload_n 0, 1) := by decide +kernel
theorem dX9_cutWord_11 : decode cX9_cutWord 11 = .ok (.getfield 19, 3) := by decide +kernel
theorem dX9_cutWord_14 : decode cX9_cutWord 14 = .ok (.aload_n 0, 1) := by decide +kernel
theorem dX9_cutWord_15 : decode cX9_cutWord 15 = .ok (.getfield 15, 3) := by decide +kernel
theorem dX9_cutWord_18 : decode cX9_cutWord 18 = .ok (.if_icmp .ge 45, 3) := by decide +kernel
theorem dX9_cutWord_21 : decode cX9_cutWord 21 = .ok (.aload_n 0, 1) := by decide +kernel
theorem dX9_cutWord_22 : decode cX9_cutWord 22 = .ok (.getfield 19, 3) := by decide +kernel
theorem dX9_cutWord_25 : decode cX9_cutWord 25 = .ok (.aload_n 0, 1) := by decide +kernel
theorem dX9_cutWord_26 : decode cX9_cutWord 26 = .ok (.getfield 22, 3) := by decide +kernel
theorem dX9_cutWord_29 : decode cX9_cutWord 29 = .ok (.isub, 1) := by decide +kernel
theorem dX9_cutWord_30 : decode cX9_cutWord 30 = .ok (.bipush 8, 2) := by decide +kernel
theorem dX9_cutWord_32 : decode cX9_cutWord 32 = .ok (.if_icmp .gt 31, 3) := by decide +kernel
theorem dX9_cutWord_35 : decode cX9_cutWord 35 = .ok (.aload_n 0, 1) := by decide +kernel
theorem dX9_cutWord_36 : decode cX9_cutWord 36 = .ok (.getfield 9, 3) := by decide +kernel
theorem dX9_cutWord_39 : decode cX9_cutWord 39 = .ok (.aload_n 0, 1) := by decide +kernel
theorem dX9_cutWord_40 : decode cX9_cutWord 40 = .ok (.getfield 19, 3) := by decide +kernel
theorem dX9_cutWord_43 : decode cX9_cutWord 43 = .ok (.iaload, 1) := by decide +kernel
theorem dX9_cutWord_44 : decode cX9_cutWord 44 = .ok (.invokestatic 49, 3) := by decide +kernel
theorem dX9_cutWord_47 : decode cX9_cutWord 47 = .ok (.ifCond .eq 16, 3) := by decide +kernel
theorem dX9_cutWord_50 : decode cX9_cutWord 50 = .ok (.aload_n 0, 1) := by decide +kernel
theorem dX9_cutWord_51 : decode cX9_cutWord 51 = .ok (.dup, 1) := by decide +kernel
theorem dX9_cutWord_52 : decode cX9_cutWord 52 = .ok (.getfield 19, 3) := by decide +kernel
theorem dX9_cutWord_55 : decode cX9_cutWord 55 = .ok (.iconst 1, 1) := by decide +kernel
theorem dX9_cutWord_56 : decode cX9_cutWord 56 = .ok (.iadd, 1) := by decide +kernel
theorem dX9_cutWord_57 : decode cX9_cutWord 57 = .ok (.putfield 19, 3) := by decide +kernel
theorem dX9_cutWord_60 : decode cX9_cutWord 60 = .ok (.goto (-50), 3) := by decide +kernel
theorem dX9_cutWord_63 : decode cX9_cutWord 63 = .ok (.aload_n 0, 1) := by decide +kernel
theorem dX9_cutWord_64 : decode cX9_cutWord 64 = .ok (.getfield 19, 3) := by decide +kernel
theorem dX9_cutWord_67 : decode cX9_cutWord 67 = .ok (.aload_n 0, 1) := by decide +kernel
theorem dX9_cutWord_68 : decode cX9_cutWord 68 = .ok (.getfield 15, 3) := by decide +kernel
theorem dX9_cutWord_71 : decode cX9_cutWord 71 = .ok (.if_icmp .lt 11, 3) := by decide +kernel
theorem dX9_cutWord_74 : decode cX9_cutWord 74 = .ok (.aload_n 0, 1) := by decide +kernel
theorem dX9_cutWord_75 : decode cX9_cutWord 75 = .ok (.iconst 5, 1) := by decide +kernel
theorem dX9_cutWord_76 : decode cX9_cutWord 76 = .ok (.putfield 25, 3) := by decide +kernel
theorem dX9_cutWord_79 : decode cX9_cutWord 79 = .ok (.goto 54, 3) := by decide +kernel
theorem dX9_cutWord_82 : decode cX9_cutWord 82 = .ok (.aload_n 0, 1) := by decide +kernel
theorem dX9_cutWord_83 : decode cX9_cutWord 83 = .ok (.getfield 9, 3) := by decide +kernel
theorem dX9_cutWord_86 : decode cX9_cutWord 86 = .ok (.aload_n 0, 1) := by decide +kernel
theorem dX9_cutWord_87 : decode cX9_cutWord 87 = .ok (.getfield 19, 3) := by decide +kernel
theorem dX9_cutWord_90 : decode cX9_cutWord 90 = .ok (.iaload, 1) := by decide +kernel
theorem dX9_cutWord_91 : decode cX9_cutWord 91 = .ok (.bipush 125, 2) := by decide +kernel
theorem dX9_cutWord_93 : decode cX9_cutWord 93 = .ok (.if_icmp .ne 34, 3) := by decide +kernel
theorem dX9_cutWord_96 : decode cX9_cutWord 96 = .ok (.aload_n 0, 1) := by decide +kernel
theorem dX9_cutWord_97 : decode cX9_cutWord 97 = .ok (.getfield 19, 3) := by decide +kernel
theorem dX9_cutWord_100 : decode cX9_cutWord 100 = .ok (.aload_n 0, 1) := by decide +kernel
theorem dX9_cutWord_101 : decode cX9_cutWord 101 = .ok (.getfield 22, 3) := by decide +kernel
theorem dX9_cutWord_104 : decode cX9_cutWord 104 = .ok (.isub, 1) := by decide +kernel
theorem dX9_cutWord_105 : decode cX9_cutWord 105 = .ok (.iconst 1, 1) := by decide +kernel
theorem dX9_cutWord_106 : decode cX9_cutWord 106 = .ok (.if_icmp .le 21, 3) := by decide +kernel
theorem dX9_cutWord_109 : decode cX9_cutWord 109 = .ok (.aload_n 0, 1) := by decide +kernel
theorem dX9_cutWord_110 : decode cX9_cutWord 110 = .ok (.iconst 4, 1) := by decide +kernel
theorem dX9_cutWord_111 : decode cX9_cutWord 111 = .ok (.putfield 25, 3) := by decide +kernel
theorem dX9_cutWord_114 : decode cX9_cutWord 114 = .ok (.aload_n 0, 1) := by decide +kernel
theorem dX9_cutWord_115 : decode cX9_cutWord 115 = .ok (.dup, 1) := by decide +kernel
theorem dX9_cutWord_116 : decode cX9_cutWord 116 = .ok (.getfield 19, 3) := by decide +kernel
theorem dX9_cutWord_119 : decode cX9_cutWord 119 = .ok (.iconst 1, 1) := by decide +kernel
theorem dX9_cutWord_120 : decode cX9_cutWord 120 = .ok (.iadd, 1) := by decide +kernel
theorem dX9_cutWord_121 : decode cX9_cutWord 121 = .ok (.putfield 19, 3) := by decide +kernel
theorem dX9_cutWord_124 : decode cX9_cutWord 124 = .ok (.goto 9, 3) := by decide +kernel
theorem dX9_cutWord_127 : decode cX9_cutWord 127 = .ok (.aload_n 0, 1) := by decide +kernel
theorem dX9_cutWord_128 : decode cX9_cutWord 128 = .ok (.bipush 6, 2) := by decide +kernel
theorem dX9_cutWord_130 : decode cX9_cutWord 130 = .ok (.putfield 25, 3) := by decide +kernel
theorem dX9_cutWord_133 : decode cX9_cutWord 133 = .ok (.return_, 1) := by decide +kernel
theorem dX9_hasRoom_0 : decode cX9_hasRoom 0 = .ok (.aload_n 0, 1) := by decide +kernel
theorem dX9_hasRoom_1 : decode cX9_hasRoom 1 = .ok (.getfield 15, 3) := by decide +kernel
theorem dX9_hasRoom_4 : decode cX9_hasRoom 4 = .ok (.iload_n 1, 1) := by decide +kernel
theorem dX9_hasRoom_5 : decode cX9_hasRoom 5 = .ok (.iadd, 1) := by decide +kernel
theorem dX9_hasRoom_6 : decode cX9_hasRoom 6 = .ok (.sipush 500, 3) := by decide +kernel
theorem dX9_hasRoom_9 : decode cX9_hasRoom 9 = .ok (.if_icmp .gt 7, 3) := by decide +kernel
theorem dX9_hasRoom_12 : decode cX9_hasRoom 12 = .ok (.iconst 1, 1) := by decide +kernel
theorem dX9_hasRoom_13 : decode cX9_hasRoom 13 = .ok (.goto 4, 3) := by decide +kernel
theorem dX9_hasRoom_16 : decode cX9_hasRoom 16 = .ok (.iconst 0, 1) := by decide +kernel
theorem dX9_hasRoom_17 : decode cX9_hasRoom 17 = .ok (.ireturn, 1) := by decide +kernel
theorem dX9_isSign_0 : decode cX9_isSign 0 = .ok (.iload_n 0, 1) := by decide +kernel
theorem dX9_isSign_1 : decode cX9_isSign 1 = .ok (.bipush 61, 2) := by decide +kernel
theorem dX9_isSign_3 : decode cX9_isSign 3 = .ok (.if_icmp .eq 33, 3) := by decide +kernel
theorem dX9_isSign_6 : decode cX9_isSign 6 = .ok (.iload_n 0, 1) := by decide +kernel
theorem dX9_isSign_7 : decode cX9_isSign 7 = .ok (.bipush 59, 2) := by decide +kernel
theorem dX9_isSign_9 : decode cX9_isSign 9 = .ok (.if_icmp .eq 27, 3) := by decide +kernel
theorem dX9_isSign_12 : decode cX9_isSign 12 = .ok (.iload_n 0, 1) := by decide +kernel
theorem dX9_isSign_13 : decode cX9_isSign 13 = .ok (.bipush 42, 2) := by decide +kernel
theorem dX9_isSign_15 : decode cX9_isSign 15 = .ok (.if_icmp .eq 21, 3) := by decide +kernel
theorem dX9_isSign_18 : decode cX9_isSign 18 = .ok (.iload_n 0, 1) := by decide +kernel
theorem dX9_isSign_19 : decode cX9_isSign 19 = .ok (.bipush 63, 2) := by decide +kernel
theorem dX9_isSign_21 : decode cX9_isSign 21 = .ok (.if_icmp .eq 15, 3) := by decide +kernel
theorem dX9_isSign_24 : decode cX9_isSign 24 = .ok (.iload_n 0, 1) := by decide +kernel
theorem dX9_isSign_25 : decode cX9_isSign 25 = .ok (.bipush 40, 2) := by decide +kernel
theorem dX9_isSign_27 : decode cX9_isSign 27 = .ok (.if_icmp .eq 9, 3) := by decide +kernel
theorem dX9_isSign_30 : decode cX9_isSign 30 = .ok (.iload_n 0, 1) := by decide +kernel
theorem dX9_isSign_31 : decode cX9_isSign 31 = .ok (.bipush 41, 2) := by decide +kernel
theorem dX9_isSign_33 : decode cX9_isSign 33 = .ok (.if_icmp .ne 7, 3) := by decide +kernel
theorem dX9_isSign_36 : decode cX9_isSign 36 = .ok (.iconst 1, 1) := by decide +kernel
theorem dX9_isSign_37 : decode cX9_isSign 37 = .ok (.goto 4, 3) := by decide +kernel
theorem dX9_isSign_40 : decode cX9_isSign 40 = .ok (.iconst 0, 1) := by decide +kernel
theorem dX9_isSign_41 : decode cX9_isSign 41 = .ok (.ireturn, 1) := by decide +kernel
theorem dX9_rewind_0 : decode cX9_rewind 0 = .ok (.aload_n 0, 1) := by decide +kernel
theorem dX9_rewind_1 : decode cX9_rewind 1 = .ok (.iconst 0, 1) := by decide +kernel
theorem dX9_rewind_2 : decode cX9_rewind 2 = .ok (.putfield 19, 3) := by decide +kernel
theorem dX9_rewind_5 : decode cX9_rewind 5 = .ok (.return_, 1) := by decide +kernel
theorem cw_1 : Cond.initialized "TreeMerge" ∈ cx_big := cx_tb 1 (by decide +kernel) (by decide +kernel)
theorem cw_36 : Cond.fieldLink "TreeMerge$Text" 15 "TreeMerge$Text" "length" "I" ∈ cx_big := cx_tb 36 (by decide +kernel) (by decide +kernel)
theorem cw_41 : Cond.fieldLink "TreeMerge$Text" 25 "TreeMerge$Text" "type" "I" ∈ cx_big := cx_tb 41 (by decide +kernel) (by decide +kernel)
theorem cw_43 : Cond.fieldLink "TreeMerge$Text" 22 "TreeMerge$Text" "start" "I" ∈ cx_big := cx_tb 43 (by decide +kernel) (by decide +kernel)
theorem cw_46 : Cond.fieldLink "TreeMerge$Text" 19 "TreeMerge$Text" "stop" "I" ∈ cx_big := cx_tb 46 (by decide +kernel) (by decide +kernel)
theorem cw_68 : Cond.fieldLink "TreeMerge$Grammar" 45 "TreeMerge$Grammar" "kinds" "I" ∈ cx_big := cx_tb 68 (by decide +kernel) (by decide +kernel)
theorem cw_116 : Cond.fieldLink "TreeMerge$Tree" 34 "TreeMerge$Tree" "size" "I" ∈ cx_big := cx_tb 116 (by decide +kernel) (by decide +kernel)
theorem cw_177 : Cond.fieldLink "TreeMerge$Kids" 19 "TreeMerge$Kids" "size" "I" ∈ cx_big := cx_tb 177 (by decide +kernel) (by decide +kernel)
theorem cw_178 : Cond.fieldLink "TreeMerge$Grammar" 106 "TreeMerge$Kids" "size" "I" ∈ cx_big := cx_tb 178 (by decide +kernel) (by decide +kernel)
theorem cw_180 : Cond.fieldLink "TreeMerge$Grammar" 118 "TreeMerge$Kids" "kinds" "[I" ∈ cx_big := cx_tb 180 (by decide +kernel) (by decide +kernel)
theorem cw_229 : Cond.fieldLink "TreeMerge$Editions" 27 "TreeMerge$Editions" "size" "I" ∈ cx_big := cx_tb 229 (by decide +kernel) (by decide +kernel)
theorem cw_482 : Cond.static yX11_isLetter ∈ cx_big := cx_tb 482 (by decide +kernel) (by decide +kernel)
theorem cw_483 : Cond.code yX11_isLetter cX11_isLetter 1 (some .boolean) ∈ cx_big := cx_tb 483 (by decide +kernel) (by decide +kernel)
theorem cw_542 : Cond.methodLink "TreeMerge$Text" 35 yX9_cutWord ∈ cx_big := cx_tb 542 (by decide +kernel) (by decide +kernel)
theorem cw_544 : Cond.instanceMethod yX9_cutWord ∈ cx_big := cx_tb 544 (by decide +kernel) (by decide +kernel)
theorem cw_545 : Cond.code yX9_cutWord cX9_cutWord 1 none ∈ cx_big := cx_tb 545 (by decide +kernel) (by decide +kernel)
theorem cw_547 : Cond.static yX11_isWordByte ∈ cx_big := cx_tb 547 (by decide +kernel) (by decide +kernel)
theorem cw_548 : Cond.code yX11_isWordByte cX11_isWordByte 1 (some .boolean) ∈ cx_big := cx_tb 548 (by decide +kernel) (by decide +kernel)
theorem cw_549 : Cond.methodLink "TreeMerge" 367 yX11_isLetter ∈ cx_big := cx_tb 549 (by decide +kernel) (by decide +kernel)
theorem cw_550 : Cond.methodLink "TreeMerge$Text" 38 yX9_isSign ∈ cx_big := cx_tb 550 (by decide +kernel) (by decide +kernel)
theorem cw_551 : Cond.static yX9_isSign ∈ cx_big := cx_tb 551 (by decide +kernel) (by decide +kernel)
theorem cw_552 : Cond.code yX9_isSign cX9_isSign 1 (some .boolean) ∈ cx_big := cx_tb 552 (by decide +kernel) (by decide +kernel)
theorem cw_589 : Cond.methodLink "TreeMerge$Grammar" 49 yX2_hasKind ∈ cx_big := cx_tb 589 (by decide +kernel) (by decide +kernel)
theorem cw_590 : Cond.instanceMethod yX2_hasKind ∈ cx_big := cx_tb 590 (by decide +kernel) (by decide +kernel)
theorem cw_591 : Cond.selects "TreeMerge$Grammar" yX2_hasKind yX2_hasKind ∈ cx_big := cx_tb 591 (by decide +kernel) (by decide +kernel)
theorem cw_592 : Cond.code yX2_hasKind cX2_hasKind 2 (some .boolean) ∈ cx_big := cx_tb 592 (by decide +kernel) (by decide +kernel)
theorem cw_718 : Cond.methodLink "TreeMerge$Editions" 31 yX1_has ∈ cx_big := cx_tb 718 (by decide +kernel) (by decide +kernel)
theorem cw_719 : Cond.instanceMethod yX1_has ∈ cx_big := cx_tb 719 (by decide +kernel) (by decide +kernel)
theorem cw_720 : Cond.selects "TreeMerge$Editions" yX1_has yX1_has ∈ cx_big := cx_tb 720 (by decide +kernel) (by decide +kernel)
theorem cw_721 : Cond.code yX1_has cX1_has 2 (some .boolean) ∈ cx_big := cx_tb 721 (by decide +kernel) (by decide +kernel)
theorem cw_780 : Cond.methodLink "TreeMerge$Tree" 96 yX10_extent ∈ cx_big := cx_tb 780 (by decide +kernel) (by decide +kernel)
theorem cw_781 : Cond.instanceMethod yX10_extent ∈ cx_big := cx_tb 781 (by decide +kernel) (by decide +kernel)
theorem cw_782 : Cond.selects "TreeMerge$Tree" yX10_extent yX10_extent ∈ cx_big := cx_tb 782 (by decide +kernel) (by decide +kernel)
theorem cw_783 : Cond.code yX10_extent cX10_extent 3 (some .int) ∈ cx_big := cx_tb 783 (by decide +kernel) (by decide +kernel)
theorem cw_852 : Cond.methodLink "TreeMerge$Tree" 38 yX10_moveEntry ∈ cx_big := cx_tb 852 (by decide +kernel) (by decide +kernel)
theorem cw_854 : Cond.instanceMethod yX10_moveEntry ∈ cx_big := cx_tb 854 (by decide +kernel) (by decide +kernel)
theorem cw_855 : Cond.code yX10_moveEntry cX10_moveEntry 3 none ∈ cx_big := cx_tb 855 (by decide +kernel) (by decide +kernel)
theorem cp_3 : Cond.selects "TreeMerge$Text" yX9_cutWord yX9_cutWord ∈ cx_big := cx_tp 3 (by decide +kernel) (by decide +kernel)
theorem cp_32 : Cond.selects "TreeMerge$Tree" yX10_moveEntry yX10_moveEntry ∈ cx_big := cx_tp 32 (by decide +kernel) (by decide +kernel)
theorem cg_11_367_X11_isLetter : GoodIn cx_big (wsS "TreeMerge" 367 yX11_isLetter (.code yX11_isLetter cX11_isLetter 1 (some .boolean) :: cx_big)) := cx_gS cw_549 cw_482 cw_1 cw_483
theorem cg_9_38_X9_isSign : GoodIn cx_big (wsS "TreeMerge$Text" 38 yX9_isSign (.code yX9_isSign cX9_isSign 1 (some .boolean) :: cx_big)) := cx_gS cw_550 cw_551 cw_2 cw_552
theorem cg_9_35_X9_cutWord : GoodIn cx_big (wsV "TreeMerge$Text" 35 "TreeMerge$Text" yX9_cutWord (.code yX9_cutWord cX9_cutWord 1 none :: cx_big)) := cx_gV cw_542 cw_544 cp_3 cw_2 cw_545
theorem cg_10_38_X10_moveEntry : GoodIn cx_big (wsV "TreeMerge$Tree" 38 "TreeMerge$Tree" yX10_moveEntry (.code yX10_moveEntry cX10_moveEntry 3 none :: cx_big)) := cx_gV cw_852 cw_854 cp_32 cw_4 cw_855
theorem cg_2_49_X2_hasKind : GoodIn cx_big (wsV "TreeMerge$Grammar" 49 "TreeMerge$Grammar" yX2_hasKind (.code yX2_hasKind cX2_hasKind 2 (some .boolean) :: cx_big)) := cx_gV cw_589 cw_590 cw_591 cw_3 cw_592
theorem cg_10_96_X10_extent : GoodIn cx_big (wsV "TreeMerge$Tree" 96 "TreeMerge$Tree" yX10_extent (.code yX10_extent cX10_extent 3 (some .int) :: cx_big)) := cx_gV cw_780 cw_781 cw_782 cw_4 cw_783
theorem cg_1_31_X1_has : GoodIn cx_big (wsV "TreeMerge$Editions" 31 "TreeMerge$Editions" yX1_has (.code yX1_has cX1_has 2 (some .boolean) :: cx_big)) := cx_gV cw_718 cw_719 cw_720 cw_7 cw_721

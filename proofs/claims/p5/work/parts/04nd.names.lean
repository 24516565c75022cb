theorem dX4_search_172 : decode cX4_search 172 = .ok (.invokevirtual 53, 3) := by decide +kernel
theorem dX4_search_175 : decode cX4_search 175 = .ok (.return_, 1) := by decide +kernel
theorem dX4_takeBest_0 : decode cX4_takeBest 0 = .ok (.aload_n 0, 1) := by decide +kernel
theorem dX4_takeBest_1 : decode cX4_takeBest 1 = .ok (.invokevirtual 31, 3) := by decide +kernel
theorem dX4_takeBest_4 : decode cX4_takeBest 4 = .ok (.iconst 0, 1) := by decide +kernel
theorem dX4_takeBest_5 : decode cX4_takeBest 5 = .ok (.istore_n 1, 1) := by decide +kernel
theorem dX4_takeBest_6 : decode cX4_takeBest 6 = .ok (.iload_n 1, 1) := by decide +kernel
theorem dX4_takeBest_7 : decode cX4_takeBest 7 = .ok (.aload_n 0, 1) := by decide +kernel
theorem dX4_takeBest_8 : decode cX4_takeBest 8 = .ok (.getfield 12, 3) := by decide +kernel
theorem dX4_takeBest_11 : decode cX4_takeBest 11 = .ok (.getfield 38, 3) := by decide +kernel
theorem dX4_takeBest_14 : decode cX4_takeBest 14 = .ok (.if_icmp .ge 29, 3) := by decide +kernel
theorem dX4_takeBest_17 : decode cX4_takeBest 17 = .ok (.aload_n 0, 1) := by decide +kernel
theorem dX4_takeBest_18 : decode cX4_takeBest 18 = .ok (.getfield 28, 3) := by decide +kernel
theorem dX4_takeBest_21 : decode cX4_takeBest 21 = .ok (.iload_n 1, 1) := by decide +kernel
theorem dX4_takeBest_22 : decode cX4_takeBest 22 = .ok (.iaload, 1) := by decide +kernel
theorem dX4_takeBest_23 : decode cX4_takeBest 23 = .ok (.ifCond .lt 14, 3) := by decide +kernel
theorem dX4_takeBest_26 : decode cX4_takeBest 26 = .ok (.aload_n 0, 1) := by decide +kernel
theorem dX4_takeBest_27 : decode cX4_takeBest 27 = .ok (.iload_n 1, 1) := by decide +kernel
theorem dX4_takeBest_28 : decode cX4_takeBest 28 = .ok (.aload_n 0, 1) := by decide +kernel
theorem dX4_takeBest_29 : decode cX4_takeBest 29 = .ok (.getfield 28, 3) := by decide +kernel
theorem dX4_takeBest_32 : decode cX4_takeBest 32 = .ok (.iload_n 1, 1) := by decide +kernel
theorem dX4_takeBest_33 : decode cX4_takeBest 33 = .ok (.iaload, 1) := by decide +kernel
theorem dX4_takeBest_34 : decode cX4_takeBest 34 = .ok (.invokevirtual 34, 3) := by decide +kernel
theorem dX4_takeBest_37 : decode cX4_takeBest 37 = .ok (.iinc 1 1, 3) := by decide +kernel
theorem dX4_takeBest_40 : decode cX4_takeBest 40 = .ok (.goto (-34), 3) := by decide +kernel
theorem dX4_takeBest_43 : decode cX4_takeBest 43 = .ok (.return_, 1) := by decide +kernel
theorem dX4_wholeCost_0 : decode cX4_wholeCost 0 = .ok (.iconst 2, 1) := by decide +kernel
theorem dX4_wholeCost_1 : decode cX4_wholeCost 1 = .ok (.aload_n 0, 1) := by decide +kernel
theorem dX4_wholeCost_2 : decode cX4_wholeCost 2 = .ok (.getfield 12, 3) := by decide +kernel
theorem dX4_wholeCost_5 : decode cX4_wholeCost 5 = .ok (.getfield 38, 3) := by decide +kernel
theorem dX4_wholeCost_8 : decode cX4_wholeCost 8 = .ok (.aload_n 0, 1) := by decide +kernel
theorem dX4_wholeCost_9 : decode cX4_wholeCost 9 = .ok (.getfield 18, 3) := by decide +kernel
theorem dX4_wholeCost_12 : decode cX4_wholeCost 12 = .ok (.getfield 38, 3) := by decide +kernel
theorem dX4_wholeCost_15 : decode cX4_wholeCost 15 = .ok (.iadd, 1) := by decide +kernel
theorem dX4_wholeCost_16 : decode cX4_wholeCost 16 = .ok (.iconst 2, 1) := by decide +kernel
theorem dX4_wholeCost_17 : decode cX4_wholeCost 17 = .ok (.aload_n 0, 1) := by decide +kernel
theorem dX4_wholeCost_18 : decode cX4_wholeCost 18 = .ok (.invokevirtual 111, 3) := by decide +kernel
theorem dX4_wholeCost_21 : decode cX4_wholeCost 21 = .ok (.imul, 1) := by decide +kernel
theorem dX4_wholeCost_22 : decode cX4_wholeCost 22 = .ok (.isub, 1) := by decide +kernel
theorem dX4_wholeCost_23 : decode cX4_wholeCost 23 = .ok (.imul, 1) := by decide +kernel
theorem dX4_wholeCost_24 : decode cX4_wholeCost 24 = .ok (.istore_n 1, 1) := by decide +kernel
theorem dX4_wholeCost_25 : decode cX4_wholeCost 25 = .ok (.iconst 0, 1) := by decide +kernel
theorem dX4_wholeCost_26 : decode cX4_wholeCost 26 = .ok (.istore_n 2, 1) := by decide +kernel
theorem dX4_wholeCost_27 : decode cX4_wholeCost 27 = .ok (.iload_n 2, 1) := by decide +kernel
theorem dX4_wholeCost_28 : decode cX4_wholeCost 28 = .ok (.aload_n 0, 1) := by decide +kernel
theorem dX4_wholeCost_29 : decode cX4_wholeCost 29 = .ok (.getfield 12, 3) := by decide +kernel
theorem dX4_wholeCost_32 : decode cX4_wholeCost 32 = .ok (.getfield 38, 3) := by decide +kernel
theorem dX4_wholeCost_35 : decode cX4_wholeCost 35 = .ok (.if_icmp .ge 33, 3) := by decide +kernel
theorem dX4_wholeCost_38 : decode cX4_wholeCost 38 = .ok (.aload_n 0, 1) := by decide +kernel
theorem dX4_wholeCost_39 : decode cX4_wholeCost 39 = .ok (.getfield 21, 3) := by decide +kernel
theorem dX4_wholeCost_42 : decode cX4_wholeCost 42 = .ok (.iload_n 2, 1) := by decide +kernel
theorem dX4_wholeCost_43 : decode cX4_wholeCost 43 = .ok (.iaload, 1) := by decide +kernel
theorem dX4_wholeCost_44 : decode cX4_wholeCost 44 = .ok (.iconst (-1), 1) := by decide +kernel
theorem dX4_wholeCost_45 : decode cX4_wholeCost 45 = .ok (.if_icmp .eq 17, 3) := by decide +kernel
theorem dX4_wholeCost_48 : decode cX4_wholeCost 48 = .ok (.iload_n 1, 1) := by decide +kernel
theorem dX4_wholeCost_49 : decode cX4_wholeCost 49 = .ok (.aload_n 0, 1) := by decide +kernel
theorem dX4_wholeCost_50 : decode cX4_wholeCost 50 = .ok (.iload_n 2, 1) := by decide +kernel
theorem dX4_wholeCost_51 : decode cX4_wholeCost 51 = .ok (.aload_n 0, 1) := by decide +kernel
theorem dX4_wholeCost_52 : decode cX4_wholeCost 52 = .ok (.getfield 21, 3) := by decide +kernel
theorem dX4_wholeCost_55 : decode cX4_wholeCost 55 = .ok (.iload_n 2, 1) := by decide +kernel
theorem dX4_wholeCost_56 : decode cX4_wholeCost 56 = .ok (.iaload, 1) := by decide +kernel
theorem dX4_wholeCost_57 : decode cX4_wholeCost 57 = .ok (.invokevirtual 49, 3) := by decide +kernel
theorem dX4_wholeCost_60 : decode cX4_wholeCost 60 = .ok (.iadd, 1) := by decide +kernel
theorem dX4_wholeCost_61 : decode cX4_wholeCost 61 = .ok (.istore_n 1, 1) := by decide +kernel
theorem dX4_wholeCost_62 : decode cX4_wholeCost 62 = .ok (.iinc 2 1, 3) := by decide +kernel
theorem dX4_wholeCost_65 : decode cX4_wholeCost 65 = .ok (.goto (-38), 3) := by decide +kernel
theorem dX4_wholeCost_68 : decode cX4_wholeCost 68 = .ok (.iload_n 1, 1) := by decide +kernel
theorem dX4_wholeCost_69 : decode cX4_wholeCost 69 = .ok (.ireturn, 1) := by decide +kernel
theorem dX5_choose_0 : decode cX5_choose 0 = .ok (.aload_n 0, 1) := by decide +kernel
theorem dX5_choose_1 : decode cX5_choose 1 = .ok (.getfield 21, 3) := by decide +kernel
theorem dX5_choose_4 : decode cX5_choose 4 = .ok (.iload_n 1, 1) := by decide +kernel
theorem dX5_choose_5 : decode cX5_choose 5 = .ok (.invokevirtual 92, 3) := by decide +kernel
theorem dX5_choose_8 : decode cX5_choose 8 = .ok (.istore 10, 2) := by decide +kernel
theorem dX5_choose_10 : decode cX5_choose 10 = .ok (.lload 4, 2) := by decide +kernel
theorem dX5_choose_12 : decode cX5_choose 12 = .ok (.lload 6, 2) := by decide +kernel
theorem dX5_choose_14 : decode cX5_choose 14 = .ok (.lcmp, 1) := by decide +kernel
theorem dX5_choose_15 : decode cX5_choose 15 = .ok (.ifCond .eq 16, 3) := by decide +kernel
theorem dX5_choose_18 : decode cX5_choose 18 = .ok (.iload 10, 2) := by decide +kernel
theorem dX5_choose_20 : decode cX5_choose 20 = .ok (.ifCond .eq 14, 3) := by decide +kernel
theorem dX5_choose_23 : decode cX5_choose 23 = .ok (.lload 6, 2) := by decide +kernel
theorem dX5_choose_25 : decode cX5_choose 25 = .ok (.lload 8, 2) := by decide +kernel
theorem dX5_choose_27 : decode cX5_choose 27 = .ok (.lcmp, 1) := by decide +kernel
theorem dX5_choose_28 : decode cX5_choose 28 = .ok (.ifCond .ne 6, 3) := by decide +kernel
theorem dX5_choose_31 : decode cX5_choose 31 = .ok (.lload 4, 2) := by decide +kernel
theorem dX5_choose_33 : decode cX5_choose 33 = .ok (.lreturn, 1) := by decide +kernel
theorem dX5_choose_34 : decode cX5_choose 34 = .ok (.iload 10, 2) := by decide +kernel
theorem dX5_choose_36 : decode cX5_choose 36 = .ok (.ifCond .eq 14, 3) := by decide +kernel
theorem dX5_choose_39 : decode cX5_choose 39 = .ok (.lload 4, 2) := by decide +kernel
theorem dX5_choose_41 : decode cX5_choose 41 = .ok (.lload 8, 2) := by decide +kernel
theorem dX5_choose_43 : decode cX5_choose 43 = .ok (.lcmp, 1) := by decide +kernel
theorem dX5_choose_44 : decode cX5_choose 44 = .ok (.ifCond .ne 6, 3) := by decide +kernel
theorem dX5_choose_47 : decode cX5_choose 47 = .ok (.lload 6, 2) := by decide +kernel
theorem dX5_choose_49 : decode cX5_choose 49 = .ok (.lreturn, 1) := by decide +kernel
theorem dX5_choose_50 : decode cX5_choose 50 = .ok (.iload_n 3, 1) := by decide +kernel
theorem dX5_choose_51 : decode cX5_choose 51 = .ok (.aload_n 0, 1) := by decide +kernel
theorem dX5_choose_52 : decode cX5_choose 52 = .ok (.getfield 12, 3) := by decide +kernel
theorem dX5_choose_55 : decode cX5_choose 55 = .ok (.getfield 112, 3) := by decide +kernel
theorem dX5_choose_58 : decode cX5_choose 58 = .ok (.if_icmp .eq 20, 3) := by decide +kernel
theorem dX5_choose_61 : decode cX5_choose 61 = .ok (.iload_n 3, 1) := by decide +kernel
theorem dX5_choose_62 : decode cX5_choose 62 = .ok (.aload_n 0, 1) := by decide +kernel
theorem dX5_choose_63 : decode cX5_choose 63 = .ok (.getfield 18, 3) := by decide +kernel
theorem dX5_choose_66 : decode cX5_choose 66 = .ok (.getfield 112, 3) := by decide +kernel
theorem dX5_choose_69 : decode cX5_choose 69 = .ok (.if_icmp .eq 9, 3) := by decide +kernel
theorem dX5_choose_72 : decode cX5_choose 72 = .ok (.aload_n 0, 1) := by decide +kernel
theorem dX5_choose_73 : decode cX5_choose 73 = .ok (.iload_n 1, 1) := by decide +kernel
theorem dX5_choose_74 : decode cX5_choose 74 = .ok (.iload_n 2, 1) := by decide +kernel
theorem dX5_choose_75 : decode cX5_choose 75 = .ok (.invokevirtual 116, 3) := by decide +kernel
theorem dX5_choose_78 : decode cX5_choose 78 = .ok (.iload_n 3, 1) := by decide +kernel
theorem dX5_choose_79 : decode cX5_choose 79 = .ok (.aload_n 0, 1) := by decide +kernel
theorem dX5_choose_80 : decode cX5_choose 80 = .ok (.getfield 18, 3) := by decide +kernel
theorem dX5_choose_83 : decode cX5_choose 83 = .ok (.getfield 112, 3) := by decide +kernel
theorem dX5_choose_86 : decode cX5_choose 86 = .ok (.if_icmp .ne 8, 3) := by decide +kernel
theorem dX5_choose_89 : decode cX5_choose 89 = .ok (.lload 6, 2) := by decide +kernel
theorem dX5_choose_91 : decode cX5_choose 91 = .ok (.goto 5, 3) := by decide +kernel
theorem dX5_choose_94 : decode cX5_choose 94 = .ok (.lload 4, 2) := by decide +kernel
theorem dX5_choose_96 : decode cX5_choose 96 = .ok (.lreturn, 1) := by decide +kernel
theorem dX5_countWaits_0 : decode cX5_countWaits 0 = .ok (.iconst 0, 1) := by decide +kernel
theorem dX5_countWaits_1 : decode cX5_countWaits 1 = .ok (.istore_n 3, 1) := by decide +kernel
theorem dX5_countWaits_2 : decode cX5_countWaits 2 = .ok (.iload_n 3, 1) := by decide +kernel
theorem dX5_countWaits_3 : decode cX5_countWaits 3 = .ok (.aload_n 0, 1) := by decide +kernel
theorem dX5_countWaits_4 : decode cX5_countWaits 4 = .ok (.getfield 156, 3) := by decide +kernel
theorem dX5_countWaits_7 : decode cX5_countWaits 7 = .ok (.if_icmp .ge 149, 3) := by decide +kernel
theorem dX5_countWaits_10 : decode cX5_countWaits 10 = .ok (.iconst 0, 1) := by decide +kernel
theorem dX5_countWaits_11 : decode cX5_countWaits 11 = .ok (.istore 4, 2) := by decide +kernel
theorem dX5_countWaits_13 : decode cX5_countWaits 13 = .ok (.iload 4, 2) := by decide +kernel
theorem dX5_countWaits_15 : decode cX5_countWaits 15 = .ok (.iload_n 3, 1) := by decide +kernel
theorem dX5_countWaits_16 : decode cX5_countWaits 16 = .ok (.if_icmp .ge 134, 3) := by decide +kernel
theorem dX5_countWaits_19 : decode cX5_countWaits 19 = .ok (.iload_n 2, 1) := by decide +kernel
theorem dX5_countWaits_20 : decode cX5_countWaits 20 = .ok (.ifCond .eq 7, 3) := by decide +kernel
theorem dX5_countWaits_23 : decode cX5_countWaits 23 = .ok (.iconst 0, 1) := by decide +kernel
theorem dX5_countWaits_24 : decode cX5_countWaits 24 = .ok (.goto 21, 3) := by decide +kernel
theorem dX5_countWaits_27 : decode cX5_countWaits 27 = .ok (.aload_n 0, 1) := by decide +kernel
theorem dX5_countWaits_28 : decode cX5_countWaits 28 = .ok (.iload_n 1, 1) := by decide +kernel
theorem dX5_countWaits_29 : decode cX5_countWaits 29 = .ok (.aload_n 0, 1) := by decide +kernel
theorem dX5_countWaits_30 : decode cX5_countWaits 30 = .ok (.getfield 51, 3) := by decide +kernel
theorem dX5_countWaits_33 : decode cX5_countWaits 33 = .ok (.iload_n 3, 1) := by decide +kernel
theorem dX5_countWaits_34 : decode cX5_countWaits 34 = .ok (.iaload, 1) := by decide +kernel
theorem dX5_countWaits_35 : decode cX5_countWaits 35 = .ok (.aload_n 0, 1) := by decide +kernel
theorem dX5_countWaits_36 : decode cX5_countWaits 36 = .ok (.getfield 51, 3) := by decide +kernel
theorem dX5_countWaits_39 : decode cX5_countWaits 39 = .ok (.iload 4, 2) := by decide +kernel
theorem dX5_countWaits_41 : decode cX5_countWaits 41 = .ok (.iaload, 1) := by decide +kernel
theorem dX5_countWaits_42 : decode cX5_countWaits 42 = .ok (.invokevirtual 182, 3) := by decide +kernel
theorem dX5_countWaits_45 : decode cX5_countWaits 45 = .ok (.istore 5, 2) := by decide +kernel
theorem dX5_countWaits_47 : decode cX5_countWaits 47 = .ok (.iload 5, 2) := by decide +kernel
theorem dX5_countWaits_49 : decode cX5_countWaits 49 = .ok (.iconst 2, 1) := by decide +kernel
theorem dX5_countWaits_50 : decode cX5_countWaits 50 = .ok (.if_icmp .ne 5, 3) := by decide +kernel
theorem dX5_countWaits_53 : decode cX5_countWaits 53 = .ok (.iconst 0, 1) := by decide +kernel
theorem dX5_countWaits_54 : decode cX5_countWaits 54 = .ok (.ireturn, 1) := by decide +kernel
theorem dX5_countWaits_55 : decode cX5_countWaits 55 = .ok (.aload_n 0, 1) := by decide +kernel
theorem dX5_countWaits_56 : decode cX5_countWaits 56 = .ok (.getfield 54, 3) := by decide +kernel
theorem dX5_countWaits_59 : decode cX5_countWaits 59 = .ok (.iload_n 3, 1) := by decide +kernel
theorem dX5_countWaits_60 : decode cX5_countWaits 60 = .ok (.bipush 40, 2) := by decide +kernel
theorem dX5_countWaits_62 : decode cX5_countWaits 62 = .ok (.imul, 1) := by decide +kernel
theorem dX5_countWaits_63 : decode cX5_countWaits 63 = .ok (.iload 4, 2) := by decide +kernel
theorem dX5_countWaits_65 : decode cX5_countWaits 65 = .ok (.iadd, 1) := by decide +kernel
theorem dX5_countWaits_66 : decode cX5_countWaits 66 = .ok (.iload 5, 2) := by decide +kernel
theorem dX5_countWaits_68 : decode cX5_countWaits 68 = .ok (.iconst 1, 1) := by decide +kernel
theorem dX5_countWaits_69 : decode cX5_countWaits 69 = .ok (.if_icmp .ne 7, 3) := by decide +kernel
theorem dX5_countWaits_72 : decode cX5_countWaits 72 = .ok (.iconst 1, 1) := by decide +kernel
theorem dX5_countWaits_73 : decode cX5_countWaits 73 = .ok (.goto 4, 3) := by decide +kernel
theorem dX5_countWaits_76 : decode cX5_countWaits 76 = .ok (.iconst 0, 1) := by decide +kernel
theorem dX5_countWaits_77 : decode cX5_countWaits 77 = .ok (.iastore, 1) := by decide +kernel
theorem dX5_countWaits_78 : decode cX5_countWaits 78 = .ok (.aload_n 0, 1) := by decide +kernel
theorem dX5_countWaits_79 : decode cX5_countWaits 79 = .ok (.getfield 54, 3) := by decide +kernel
theorem dX5_countWaits_82 : decode cX5_countWaits 82 = .ok (.iload 4, 2) := by decide +kernel
theorem dX5_countWaits_84 : decode cX5_countWaits 84 = .ok (.bipush 40, 2) := by decide +kernel
theorem dX5_countWaits_86 : decode cX5_countWaits 86 = .ok (.imul, 1) := by decide +kernel
theorem dX5_countWaits_87 : decode cX5_countWaits 87 = .ok (.iload_n 3, 1) := by decide +kernel
theorem dX5_countWaits_88 : decode cX5_countWaits 88 = .ok (.iadd, 1) := by decide +kernel
theorem dX5_countWaits_89 : decode cX5_countWaits 89 = .ok (.iload 5, 2) := by decide +kernel
theorem dX5_countWaits_91 : decode cX5_countWaits 91 = .ok (.iconst (-1), 1) := by decide +kernel
theorem dX5_countWaits_92 : decode cX5_countWaits 92 = .ok (.if_icmp .ne 7, 3) := by decide +kernel
theorem dX5_countWaits_95 : decode cX5_countWaits 95 = .ok (.iconst 1, 1) := by decide +kernel
theorem dX5_countWaits_96 : decode cX5_countWaits 96 = .ok (.goto 4, 3) := by decide +kernel
theorem dX5_countWaits_99 : decode cX5_countWaits 99 = .ok (.iconst 0, 1) := by decide +kernel
theorem dX5_countWaits_100 : decode cX5_countWaits 100 = .ok (.iastore, 1) := by decide +kernel
theorem dX5_countWaits_101 : decode cX5_countWaits 101 = .ok (.aload_n 0, 1) := by decide +kernel
theorem dX5_countWaits_102 : decode cX5_countWaits 102 = .ok (.getfield 57, 3) := by decide +kernel
theorem dX5_countWaits_105 : decode cX5_countWaits 105 = .ok (.iload 4, 2) := by decide +kernel
theorem dX5_countWaits_107 : decode cX5_countWaits 107 = .ok (.dup2, 1) := by decide +kernel
theorem dX5_countWaits_108 : decode cX5_countWaits 108 = .ok (.iaload, 1) := by decide +kernel
theorem dX5_countWaits_109 : decode cX5_countWaits 109 = .ok (.aload_n 0, 1) := by decide +kernel
theorem dX5_countWaits_110 : decode cX5_countWaits 110 = .ok (.getfield 54, 3) := by decide +kernel
theorem dX5_countWaits_113 : decode cX5_countWaits 113 = .ok (.iload_n 3, 1) := by decide +kernel
theorem dX5_countWaits_114 : decode cX5_countWaits 114 = .ok (.bipush 40, 2) := by decide +kernel
theorem dX5_countWaits_116 : decode cX5_countWaits 116 = .ok (.imul, 1) := by decide +kernel
theorem dX5_countWaits_117 : decode cX5_countWaits 117 = .ok (.iload 4, 2) := by decide +kernel
theorem dX5_countWaits_119 : decode cX5_countWaits 119 = .ok (.iadd, 1) := by decide +kernel
theorem dX5_countWaits_120 : decode cX5_countWaits 120 = .ok (.iaload, 1) := by decide +kernel
theorem dX5_countWaits_121 : decode cX5_countWaits 121 = .ok (.iadd, 1) := by decide +kernel
theorem dX5_countWaits_122 : decode cX5_countWaits 122 = .ok (.iastore, 1) := by decide +kernel
theorem dX5_countWaits_123 : decode cX5_countWaits 123 = .ok (.aload_n 0, 1) := by decide +kernel
theorem dX5_countWaits_124 : decode cX5_countWaits 124 = .ok (.getfield 57, 3) := by decide +kernel
theorem dX5_countWaits_127 : decode cX5_countWaits 127 = .ok (.iload_n 3, 1) := by decide +kernel
theorem dX5_countWaits_128 : decode cX5_countWaits 128 = .ok (.dup2, 1) := by decide +kernel
theorem dX5_countWaits_129 : decode cX5_countWaits 129 = .ok (.iaload, 1) := by decide +kernel
theorem dX5_countWaits_130 : decode cX5_countWaits 130 = .ok (.aload_n 0, 1) := by decide +kernel
theorem dX5_countWaits_131 : decode cX5_countWaits 131 = .ok (.getfield 54, 3) := by decide +kernel
theorem dX5_countWaits_134 : decode cX5_countWaits 134 = .ok (.iload 4, 2) := by decide +kernel
theorem dX5_countWaits_136 : decode cX5_countWaits 136 = .ok (.bipush 40, 2) := by decide +kernel
theorem dX5_countWaits_138 : decode cX5_countWaits 138 = .ok (.imul, 1) := by decide +kernel
theorem dX5_countWaits_139 : decode cX5_countWaits 139 = .ok (.iload_n 3, 1) := by decide +kernel
theorem dX5_countWaits_140 : decode cX5_countWaits 140 = .ok (.iadd, 1) := by decide +kernel
theorem dX5_countWaits_141 : decode cX5_countWaits 141 = .ok (.iaload, 1) := by decide +kernel
theorem dX5_countWaits_142 : decode cX5_countWaits 142 = .ok (.iadd, 1) := by decide +kernel
theorem dX5_countWaits_143 : decode cX5_countWaits 143 = .ok (.iastore, 1) := by decide +kernel
theorem dX5_countWaits_144 : decode cX5_countWaits 144 = .ok (.iinc 4 1, 3) := by decide +kernel
theorem dX5_countWaits_147 : decode cX5_countWaits 147 = .ok (.goto (-134), 3) := by decide +kernel
theorem dX5_countWaits_150 : decode cX5_countWaits 150 = .ok (.iinc 3 1, 3) := by decide +kernel
theorem dX5_countWaits_153 : decode cX5_countWaits 153 = .ok (.goto (-151), 3) := by decide +kernel
theorem dX5_countWaits_156 : decode cX5_countWaits 156 = .ok (.iconst 1, 1) := by decide +kernel
theorem dX5_countWaits_157 : decode cX5_countWaits 157 = .ok (.ireturn, 1) := by decide +kernel
theorem dX5_decide_0 : decode cX5_decide 0 = .ok (.aload_n 0, 1) := by decide +kernel
theorem dX5_decide_1 : decode cX5_decide 1 = .ok (.getfield 12, 3) := by decide +kernel
theorem dX5_decide_4 : decode cX5_decide 4 = .ok (.iload_n 1, 1) := by decide +kernel
theorem dX5_decide_5 : decode cX5_decide 5 = .ok (.invokevirtual 92, 3) := by decide +kernel
theorem dX5_decide_8 : decode cX5_decide 8 = .ok (.ifCond .eq 23, 3) := by decide +kernel
theorem dX5_decide_11 : decode cX5_decide 11 = .ok (.aload_n 0, 1) := by decide +kernel
theorem dX5_decide_12 : decode cX5_decide 12 = .ok (.getfield 18, 3) := by decide +kernel
theorem dX5_decide_15 : decode cX5_decide 15 = .ok (.iload_n 1, 1) := by decide +kernel
theorem dX5_decide_16 : decode cX5_decide 16 = .ok (.invokevirtual 92, 3) := by decide +kernel
theorem dX5_decide_19 : decode cX5_decide 19 = .ok (.ifCond .eq 12, 3) := by decide +kernel
theorem dX5_decide_22 : decode cX5_decide 22 = .ok (.aload_n 0, 1) := by decide +kernel
theorem dX5_decide_23 : decode cX5_decide 23 = .ok (.iload_n 1, 1) := by decide +kernel
theorem dX5_decide_24 : decode cX5_decide 24 = .ok (.aload_n 2, 1) := by decide +kernel
theorem dX5_decide_25 : decode cX5_decide 25 = .ok (.invokevirtual 96, 3) := by decide +kernel
theorem dX5_decide_28 : decode cX5_decide 28 = .ok (.goto 56, 3) := by decide +kernel
theorem dX5_decide_31 : decode cX5_decide 31 = .ok (.aload_n 0, 1) := by decide +kernel
theorem dX5_decide_32 : decode cX5_decide 32 = .ok (.getfield 12, 3) := by decide +kernel
theorem dX5_decide_35 : decode cX5_decide 35 = .ok (.iload_n 1, 1) := by decide +kernel
theorem dX5_decide_36 : decode cX5_decide 36 = .ok (.invokevirtual 92, 3) := by decide +kernel
theorem dX5_decide_39 : decode cX5_decide 39 = .ok (.ifCond .eq 20, 3) := by decide +kernel
theorem dX5_decide_42 : decode cX5_decide 42 = .ok (.aload_n 0, 1) := by decide +kernel
theorem dX5_decide_43 : decode cX5_decide 43 = .ok (.iload_n 1, 1) := by decide +kernel
theorem dX5_decide_44 : decode cX5_decide 44 = .ok (.aload_n 0, 1) := by decide +kernel
theorem dX5_decide_45 : decode cX5_decide 45 = .ok (.getfield 12, 3) := by decide +kernel
theorem dX5_decide_48 : decode cX5_decide 48 = .ok (.aload_n 0, 1) := by decide +kernel
theorem dX5_decide_49 : decode cX5_decide 49 = .ok (.getfield 18, 3) := by decide +kernel
theorem dX5_decide_52 : decode cX5_decide 52 = .ok (.aload_n 2, 1) := by decide +kernel
theorem dX5_decide_53 : decode cX5_decide 53 = .ok (.invokevirtual 99, 3) := by decide +kernel
theorem dX5_decide_56 : decode cX5_decide 56 = .ok (.goto 28, 3) := by decide +kernel
theorem dX5_decide_59 : decode cX5_decide 59 = .ok (.aload_n 0, 1) := by decide +kernel
theorem dX5_decide_60 : decode cX5_decide 60 = .ok (.getfield 18, 3) := by decide +kernel
theorem dX5_decide_63 : decode cX5_decide 63 = .ok (.iload_n 1, 1) := by decide +kernel
theorem dX5_decide_64 : decode cX5_decide 64 = .ok (.invokevirtual 92, 3) := by decide +kernel
theorem dX5_decide_67 : decode cX5_decide 67 = .ok (.ifCond .eq 17, 3) := by decide +kernel
theorem dX5_decide_70 : decode cX5_decide 70 = .ok (.aload_n 0, 1) := by decide +kernel
theorem dX5_decide_71 : decode cX5_decide 71 = .ok (.iload_n 1, 1) := by decide +kernel
theorem dX5_decide_72 : decode cX5_decide 72 = .ok (.aload_n 0, 1) := by decide +kernel
theorem dX5_decide_73 : decode cX5_decide 73 = .ok (.getfield 18, 3) := by decide +kernel
theorem dX5_decide_76 : decode cX5_decide 76 = .ok (.aload_n 0, 1) := by decide +kernel
theorem dX5_decide_77 : decode cX5_decide 77 = .ok (.getfield 12, 3) := by decide +kernel
theorem dX5_decide_80 : decode cX5_decide 80 = .ok (.aload_n 2, 1) := by decide +kernel
theorem dX5_decide_81 : decode cX5_decide 81 = .ok (.invokevirtual 99, 3) := by decide +kernel
theorem dX5_decide_84 : decode cX5_decide 84 = .ok (.return_, 1) := by decide +kernel
theorem dX5_decideLone_0 : decode cX5_decideLone 0 = .ok (.aload_n 0, 1) := by decide +kernel
theorem dX5_decideLone_1 : decode cX5_decideLone 1 = .ok (.getfield 21, 3) := by decide +kernel
theorem dX5_decideLone_4 : decode cX5_decideLone 4 = .ok (.iload_n 1, 1) := by decide +kernel
theorem dX5_decideLone_5 : decode cX5_decideLone 5 = .ok (.invokevirtual 92, 3) := by decide +kernel
theorem dX5_decideLone_8 : decode cX5_decideLone 8 = .ok (.ifCond .eq 46, 3) := by decide +kernel
theorem dX5_decideLone_11 : decode cX5_decideLone 11 = .ok (.aload 4, 2) := by decide +kernel
theorem dX5_decideLone_13 : decode cX5_decideLone 13 = .ok (.iload_n 1, 1) := by decide +kernel
theorem dX5_decideLone_14 : decode cX5_decideLone 14 = .ok (.iconst 1, 1) := by decide +kernel
theorem dX5_decideLone_15 : decode cX5_decideLone 15 = .ok (.invokevirtual 103, 3) := by decide +kernel
theorem dX5_decideLone_18 : decode cX5_decideLone 18 = .ok (.istore 5, 2) := by decide +kernel
theorem dX5_decideLone_20 : decode cX5_decideLone 20 = .ok (.aload_n 2, 1) := by decide +kernel
theorem dX5_decideLone_21 : decode cX5_decideLone 21 = .ok (.iload_n 1, 1) := by decide +kernel
theorem dX5_decideLone_22 : decode cX5_decideLone 22 = .ok (.invokevirtual 109, 3) := by decide +kernel
theorem dX5_decideLone_25 : decode cX5_decideLone 25 = .ok (.ifCond .eq 12, 3) := by decide +kernel
theorem dX5_decideLone_28 : decode cX5_decideLone 28 = .ok (.iload 5, 2) := by decide +kernel
theorem dX5_decideLone_30 : decode cX5_decideLone 30 = .ok (.aload_n 3, 1) := by decide +kernel
theorem dX5_decideLone_31 : decode cX5_decideLone 31 = .ok (.getfield 112, 3) := by decide +kernel
theorem dX5_decideLone_34 : decode cX5_decideLone 34 = .ok (.if_icmp .ne 4, 3) := by decide +kernel
theorem dX5_decideLone_37 : decode cX5_decideLone 37 = .ok (.return_, 1) := by decide +kernel
theorem dX5_decideLone_38 : decode cX5_decideLone 38 = .ok (.iload 5, 2) := by decide +kernel
theorem dX5_decideLone_40 : decode cX5_decideLone 40 = .ok (.aload_n 2, 1) := by decide +kernel
theorem dX5_decideLone_41 : decode cX5_decideLone 41 = .ok (.getfield 112, 3) := by decide +kernel
theorem dX5_decideLone_44 : decode cX5_decideLone 44 = .ok (.if_icmp .eq 10, 3) := by decide +kernel
theorem dX5_decideLone_47 : decode cX5_decideLone 47 = .ok (.aload_n 0, 1) := by decide +kernel
theorem dX5_decideLone_48 : decode cX5_decideLone 48 = .ok (.iload_n 1, 1) := by decide +kernel
theorem dX5_decideLone_49 : decode cX5_decideLone 49 = .ok (.iconst 1, 1) := by decide +kernel
theorem dX5_decideLone_50 : decode cX5_decideLone 50 = .ok (.invokevirtual 116, 3) := by decide +kernel
theorem dX5_decideLone_53 : decode cX5_decideLone 53 = .ok (.return_, 1) := by decide +kernel
theorem dX5_decideLone_54 : decode cX5_decideLone 54 = .ok (.aload_n 0, 1) := by decide +kernel
theorem dX5_decideLone_55 : decode cX5_decideLone 55 = .ok (.iload_n 1, 1) := by decide +kernel
theorem dX5_decideLone_56 : decode cX5_decideLone 56 = .ok (.aload_n 2, 1) := by decide +kernel
theorem dX5_decideLone_57 : decode cX5_decideLone 57 = .ok (.iload_n 1, 1) := by decide +kernel
theorem dX5_decideLone_58 : decode cX5_decideLone 58 = .ok (.invokevirtual 120, 3) := by decide +kernel
theorem dX5_decideLone_61 : decode cX5_decideLone 61 = .ok (.aload_n 2, 1) := by decide +kernel
theorem dX5_decideLone_62 : decode cX5_decideLone 62 = .ok (.iload_n 1, 1) := by decide +kernel
theorem dX5_decideLone_63 : decode cX5_decideLone 63 = .ok (.invokevirtual 124, 3) := by decide +kernel
theorem dX5_decideLone_66 : decode cX5_decideLone 66 = .ok (.aload_n 2, 1) := by decide +kernel
theorem dX5_decideLone_67 : decode cX5_decideLone 67 = .ok (.iload_n 1, 1) := by decide +kernel
theorem dX5_decideLone_68 : decode cX5_decideLone 68 = .ok (.invokevirtual 128, 3) := by decide +kernel
theorem dX5_decideLone_71 : decode cX5_decideLone 71 = .ok (.invokevirtual 131, 3) := by decide +kernel
theorem dX5_decideLone_74 : decode cX5_decideLone 74 = .ok (.return_, 1) := by decide +kernel
theorem dX5_decideShared_0 : decode cX5_decideShared 0 = .ok (.aload_n 2, 1) := by decide +kernel
theorem dX5_decideShared_1 : decode cX5_decideShared 1 = .ok (.iload_n 1, 1) := by decide +kernel
theorem dX5_decideShared_2 : decode cX5_decideShared 2 = .ok (.iconst 2, 1) := by decide +kernel
theorem dX5_decideShared_3 : decode cX5_decideShared 3 = .ok (.invokevirtual 103, 3) := by decide +kernel
theorem dX5_decideShared_6 : decode cX5_decideShared 6 = .ok (.istore_n 3, 1) := by decide +kernel
theorem dX5_decideShared_7 : decode cX5_decideShared 7 = .ok (.aload_n 2, 1) := by decide +kernel
theorem dX5_decideShared_8 : decode cX5_decideShared 8 = .ok (.iload_n 1, 1) := by decide +kernel
theorem dX5_decideShared_9 : decode cX5_decideShared 9 = .ok (.iconst 3, 1) := by decide +kernel
theorem dX5_decideShared_10 : decode cX5_decideShared 10 = .ok (.invokevirtual 103, 3) := by decide +kernel
theorem dX5_decideShared_13 : decode cX5_decideShared 13 = .ok (.istore 4, 2) := by decide +kernel
theorem dX5_decideShared_15 : decode cX5_decideShared 15 = .ok (.aload_n 0, 1) := by decide +kernel
theorem dX5_decideShared_16 : decode cX5_decideShared 16 = .ok (.iload_n 1, 1) := by decide +kernel
theorem dX5_decideShared_17 : decode cX5_decideShared 17 = .ok (.iconst 2, 1) := by decide +kernel
theorem dX5_decideShared_18 : decode cX5_decideShared 18 = .ok (.iload_n 3, 1) := by decide +kernel
theorem dX5_decideShared_19 : decode cX5_decideShared 19 = .ok (.aload_n 0, 1) := by decide +kernel
theorem dX5_decideShared_20 : decode cX5_decideShared 20 = .ok (.getfield 12, 3) := by decide +kernel
theorem dX5_decideShared_23 : decode cX5_decideShared 23 = .ok (.iload_n 1, 1) := by decide +kernel
theorem dX5_decideShared_24 : decode cX5_decideShared 24 = .ok (.invokevirtual 124, 3) := by decide +kernel
theorem dX5_decideShared_27 : decode cX5_decideShared 27 = .ok (.aload_n 0, 1) := by decide +kernel
theorem dX5_decideShared_28 : decode cX5_decideShared 28 = .ok (.getfield 18, 3) := by decide +kernel
theorem dX5_decideShared_31 : decode cX5_decideShared 31 = .ok (.iload_n 1, 1) := by decide +kernel
theorem dX5_decideShared_32 : decode cX5_decideShared 32 = .ok (.invokevirtual 124, 3) := by decide +kernel
theorem dX5_decideShared_35 : decode cX5_decideShared 35 = .ok (.aload_n 0, 1) := by decide +kernel
theorem dX5_decideShared_36 : decode cX5_decideShared 36 = .ok (.getfield 21, 3) := by decide +kernel
theorem dX5_decideShared_39 : decode cX5_decideShared 39 = .ok (.iload_n 1, 1) := by decide +kernel
theorem dX5_decideShared_40 : decode cX5_decideShared 40 = .ok (.invokevirtual 124, 3) := by decide +kernel
theorem dX5_decideShared_43 : decode cX5_decideShared 43 = .ok (.invokevirtual 135, 3) := by decide +kernel
theorem dX5_decideShared_46 : decode cX5_decideShared 46 = .ok (.lstore 5, 2) := by decide +kernel
theorem dX5_decideShared_48 : decode cX5_decideShared 48 = .ok (.aload_n 0, 1) := by decide +kernel
theorem dX5_decideShared_49 : decode cX5_decideShared 49 = .ok (.iload_n 1, 1) := by decide +kernel
theorem dX5_decideShared_50 : decode cX5_decideShared 50 = .ok (.iconst 3, 1) := by decide +kernel
theorem dX5_decideShared_51 : decode cX5_decideShared 51 = .ok (.iload 4, 2) := by decide +kernel
theorem dX5_decideShared_53 : decode cX5_decideShared 53 = .ok (.aload_n 0, 1) := by decide +kernel
theorem dX5_decideShared_54 : decode cX5_decideShared 54 = .ok (.getfield 12, 3) := by decide +kernel
theorem dX5_decideShared_57 : decode cX5_decideShared 57 = .ok (.iload_n 1, 1) := by decide +kernel
theorem dX5_decideShared_58 : decode cX5_decideShared 58 = .ok (.invokevirtual 128, 3) := by decide +kernel
theorem dX5_decideShared_61 : decode cX5_decideShared 61 = .ok (.i2l, 1) := by decide +kernel
theorem dX5_decideShared_62 : decode cX5_decideShared 62 = .ok (.aload_n 0, 1) := by decide +kernel
theorem dX5_decideShared_63 : decode cX5_decideShared 63 = .ok (.getfield 18, 3) := by decide +kernel
theorem dX5_decideShared_66 : decode cX5_decideShared 66 = .ok (.iload_n 1, 1) := by decide +kernel
theorem dX5_decideShared_67 : decode cX5_decideShared 67 = .ok (.invokevirtual 128, 3) := by decide +kernel
theorem dX5_decideShared_70 : decode cX5_decideShared 70 = .ok (.i2l, 1) := by decide +kernel
theorem dX5_decideShared_71 : decode cX5_decideShared 71 = .ok (.aload_n 0, 1) := by decide +kernel
theorem dX5_decideShared_72 : decode cX5_decideShared 72 = .ok (.getfield 21, 3) := by decide +kernel
theorem dX5_decideShared_75 : decode cX5_decideShared 75 = .ok (.iload_n 1, 1) := by decide +kernel
theorem dX5_decideShared_76 : decode cX5_decideShared 76 = .ok (.invokevirtual 128, 3) := by decide +kernel
theorem dX5_decideShared_79 : decode cX5_decideShared 79 = .ok (.i2l, 1) := by decide +kernel
theorem dX5_decideShared_80 : decode cX5_decideShared 80 = .ok (.invokevirtual 135, 3) := by decide +kernel
theorem dX5_decideShared_83 : decode cX5_decideShared 83 = .ok (.lstore 7, 2) := by decide +kernel
theorem dX5_decideShared_85 : decode cX5_decideShared 85 = .ok (.aload_n 0, 1) := by decide +kernel
theorem dX5_decideShared_86 : decode cX5_decideShared 86 = .ok (.iload_n 1, 1) := by decide +kernel
theorem dX5_decideShared_87 : decode cX5_decideShared 87 = .ok (.aload_n 0, 1) := by decide +kernel
theorem dX5_decideShared_88 : decode cX5_decideShared 88 = .ok (.getfield 12, 3) := by decide +kernel
theorem dX5_decideShared_91 : decode cX5_decideShared 91 = .ok (.iload_n 1, 1) := by decide +kernel
theorem dX5_decideShared_92 : decode cX5_decideShared 92 = .ok (.invokevirtual 120, 3) := by decide +kernel
theorem dX5_decideShared_95 : decode cX5_decideShared 95 = .ok (.lload 5, 2) := by decide +kernel
theorem dX5_decideShared_97 : decode cX5_decideShared 97 = .ok (.lload 7, 2) := by decide +kernel
theorem dX5_decideShared_99 : decode cX5_decideShared 99 = .ok (.l2i, 1) := by decide +kernel
theorem dX5_decideShared_100 : decode cX5_decideShared 100 = .ok (.invokevirtual 131, 3) := by decide +kernel
theorem dX5_decideShared_103 : decode cX5_decideShared 103 = .ok (.return_, 1) := by decide +kernel
theorem dX5_dropTheLed_0 : decode cX5_dropTheLed 0 = .ok (.iconst 1, 1) := by decide +kernel
theorem dX5_dropTheLed_1 : decode cX5_dropTheLed 1 = .ok (.istore_n 1, 1) := by decide +kernel
theorem dX5_dropTheLed_2 : decode cX5_dropTheLed 2 = .ok (.iconst 0, 1) := by decide +kernel
theorem dX5_dropTheLed_3 : decode cX5_dropTheLed 3 = .ok (.istore_n 2, 1) := by decide +kernel
theorem dX5_dropTheLed_4 : decode cX5_dropTheLed 4 = .ok (.iload_n 2, 1) := by decide +kernel
theorem dX5_dropTheLed_5 : decode cX5_dropTheLed 5 = .ok (.sipush 150, 3) := by decide +kernel
theorem dX5_dropTheLed_8 : decode cX5_dropTheLed 8 = .ok (.if_icmp .ge 72, 3) := by decide +kernel
theorem dX5_dropTheLed_11 : decode cX5_dropTheLed 11 = .ok (.iload_n 1, 1) := by decide +kernel
theorem dX5_dropTheLed_12 : decode cX5_dropTheLed 12 = .ok (.ifCond .eq 68, 3) := by decide +kernel
theorem dX5_dropTheLed_15 : decode cX5_dropTheLed 15 = .ok (.iconst 0, 1) := by decide +kernel
theorem dX5_dropTheLed_16 : decode cX5_dropTheLed 16 = .ok (.istore_n 1, 1) := by decide +kernel
theorem dX5_dropTheLed_17 : decode cX5_dropTheLed 17 = .ok (.iconst 0, 1) := by decide +kernel
theorem dX5_dropTheLed_18 : decode cX5_dropTheLed 18 = .ok (.istore_n 3, 1) := by decide +kernel
theorem dX5_dropTheLed_19 : decode cX5_dropTheLed 19 = .ok (.iload_n 3, 1) := by decide +kernel
theorem dX5_dropTheLed_20 : decode cX5_dropTheLed 20 = .ok (.sipush 150, 3) := by decide +kernel
theorem dX5_dropTheLed_23 : decode cX5_dropTheLed 23 = .ok (.if_icmp .ge 51, 3) := by decide +kernel
theorem dX5_dropTheLed_26 : decode cX5_dropTheLed 26 = .ok (.aload_n 0, 1) := by decide +kernel
theorem dX5_dropTheLed_27 : decode cX5_dropTheLed 27 = .ok (.getfield 38, 3) := by decide +kernel
theorem dX5_dropTheLed_30 : decode cX5_dropTheLed 30 = .ok (.iload_n 3, 1) := by decide +kernel
theorem dX5_dropTheLed_31 : decode cX5_dropTheLed 31 = .ok (.iaload, 1) := by decide +kernel
theorem dX5_dropTheLed_32 : decode cX5_dropTheLed 32 = .ok (.iconst 1, 1) := by decide +kernel
theorem dX5_dropTheLed_33 : decode cX5_dropTheLed 33 = .ok (.if_icmp .ne 35, 3) := by decide +kernel
theorem dX5_dropTheLed_36 : decode cX5_dropTheLed 36 = .ok (.aload_n 0, 1) := by decide +kernel
theorem dX5_dropTheLed_37 : decode cX5_dropTheLed 37 = .ok (.getfield 44, 3) := by decide +kernel
theorem dX5_dropTheLed_40 : decode cX5_dropTheLed 40 = .ok (.iload_n 3, 1) := by decide +kernel
theorem dX5_dropTheLed_41 : decode cX5_dropTheLed 41 = .ok (.iaload, 1) := by decide +kernel
theorem dX5_dropTheLed_42 : decode cX5_dropTheLed 42 = .ok (.iconst (-1), 1) := by decide +kernel
theorem dX5_dropTheLed_43 : decode cX5_dropTheLed 43 = .ok (.if_icmp .eq 25, 3) := by decide +kernel
theorem dX5_dropTheLed_46 : decode cX5_dropTheLed 46 = .ok (.aload_n 0, 1) := by decide +kernel
theorem dX5_dropTheLed_47 : decode cX5_dropTheLed 47 = .ok (.aload_n 0, 1) := by decide +kernel
theorem dX5_dropTheLed_48 : decode cX5_dropTheLed 48 = .ok (.getfield 44, 3) := by decide +kernel
theorem dX5_dropTheLed_51 : decode cX5_dropTheLed 51 = .ok (.iload_n 3, 1) := by decide +kernel
theorem dX5_dropTheLed_52 : decode cX5_dropTheLed 52 = .ok (.iaload, 1) := by decide +kernel
theorem dX5_dropTheLed_53 : decode cX5_dropTheLed 53 = .ok (.invokevirtual 139, 3) := by decide +kernel
theorem dX5_dropTheLed_56 : decode cX5_dropTheLed 56 = .ok (.ifCond .ne 12, 3) := by decide +kernel
theorem dX5_dropTheLed_59 : decode cX5_dropTheLed 59 = .ok (.aload_n 0, 1) := by decide +kernel
theorem dX5_dropTheLed_60 : decode cX5_dropTheLed 60 = .ok (.getfield 38, 3) := by decide +kernel
theorem dX5_dropTheLed_63 : decode cX5_dropTheLed 63 = .ok (.iload_n 3, 1) := by decide +kernel
theorem dX5_dropTheLed_64 : decode cX5_dropTheLed 64 = .ok (.iconst 0, 1) := by decide +kernel
theorem dX5_dropTheLed_65 : decode cX5_dropTheLed 65 = .ok (.iastore, 1) := by decide +kernel
theorem dX5_dropTheLed_66 : decode cX5_dropTheLed 66 = .ok (.iconst 1, 1) := by decide +kernel
theorem dX5_dropTheLed_67 : decode cX5_dropTheLed 67 = .ok (.istore_n 1, 1) := by decide +kernel
theorem dX5_dropTheLed_68 : decode cX5_dropTheLed 68 = .ok (.iinc 3 1, 3) := by decide +kernel
theorem dX5_dropTheLed_71 : decode cX5_dropTheLed 71 = .ok (.goto (-52), 3) := by decide +kernel
theorem dX5_dropTheLed_74 : decode cX5_dropTheLed 74 = .ok (.iinc 2 1, 3) := by decide +kernel
theorem dX5_dropTheLed_77 : decode cX5_dropTheLed 77 = .ok (.goto (-73), 3) := by decide +kernel
theorem dX5_dropTheLed_80 : decode cX5_dropTheLed 80 = .ok (.return_, 1) := by decide +kernel
theorem dX5_findCrowd_0 : decode cX5_findCrowd 0 = .ok (.iconst 0, 1) := by decide +kernel
theorem dX5_findCrowd_1 : decode cX5_findCrowd 1 = .ok (.istore_n 1, 1) := by decide +kernel
theorem dX5_findCrowd_2 : decode cX5_findCrowd 2 = .ok (.iconst 0, 1) := by decide +kernel
theorem dX5_findCrowd_3 : decode cX5_findCrowd 3 = .ok (.istore_n 2, 1) := by decide +kernel
theorem dX5_findCrowd_4 : decode cX5_findCrowd 4 = .ok (.iload_n 2, 1) := by decide +kernel
theorem dX5_findCrowd_5 : decode cX5_findCrowd 5 = .ok (.sipush 150, 3) := by decide +kernel
theorem dX5_findCrowd_8 : decode cX5_findCrowd 8 = .ok (.if_icmp .ge 18, 3) := by decide +kernel
theorem dX5_findCrowd_11 : decode cX5_findCrowd 11 = .ok (.iload_n 1, 1) := by decide +kernel
theorem dX5_findCrowd_12 : decode cX5_findCrowd 12 = .ok (.aload_n 0, 1) := by decide +kernel
theorem dX5_findCrowd_13 : decode cX5_findCrowd 13 = .ok (.getfield 38, 3) := by decide +kernel
theorem dX5_findCrowd_16 : decode cX5_findCrowd 16 = .ok (.iload_n 2, 1) := by decide +kernel
theorem dX5_findCrowd_17 : decode cX5_findCrowd 17 = .ok (.iaload, 1) := by decide +kernel
theorem dX5_findCrowd_18 : decode cX5_findCrowd 18 = .ok (.iadd, 1) := by decide +kernel
theorem dX5_findCrowd_19 : decode cX5_findCrowd 19 = .ok (.istore_n 1, 1) := by decide +kernel
theorem dX5_findCrowd_20 : decode cX5_findCrowd 20 = .ok (.iinc 2 1, 3) := by decide +kernel
theorem dX5_findCrowd_23 : decode cX5_findCrowd 23 = .ok (.goto (-19), 3) := by decide +kernel
theorem dX5_findCrowd_26 : decode cX5_findCrowd 26 = .ok (.iload_n 1, 1) := by decide +kernel
theorem dX5_findCrowd_27 : decode cX5_findCrowd 27 = .ok (.bipush 40, 2) := by decide +kernel
theorem dX5_findCrowd_29 : decode cX5_findCrowd 29 = .ok (.if_icmp .le 16, 3) := by decide +kernel
theorem dX5_findCrowd_32 : decode cX5_findCrowd 32 = .ok (.aload_n 0, 1) := by decide +kernel
theorem dX5_findCrowd_33 : decode cX5_findCrowd 33 = .ok (.aload_n 0, 1) := by decide +kernel
theorem dX5_findCrowd_34 : decode cX5_findCrowd 34 = .ok (.getfield 12, 3) := by decide +kernel
theorem dX5_findCrowd_37 : decode cX5_findCrowd 37 = .ok (.invokevirtual 145, 3) := by decide +kernel
theorem dX5_findCrowd_40 : decode cX5_findCrowd 40 = .ok (.bipush 8, 2) := by decide +kernel
theorem dX5_findCrowd_42 : decode cX5_findCrowd 42 = .ok (.invokevirtual 116, 3) := by decide +kernel
theorem dX5_findCrowd_45 : decode cX5_findCrowd 45 = .ok (.return_, 1) := by decide +kernel
theorem dX5_findRings_0 : decode cX5_findRings 0 = .ok (.iconst 0, 1) := by decide +kernel
theorem dX5_findRings_1 : decode cX5_findRings 1 = .ok (.istore_n 1, 1) := by decide +kernel
theorem dX5_findRings_2 : decode cX5_findRings 2 = .ok (.iload_n 1, 1) := by decide +kernel
theorem dX5_findRings_3 : decode cX5_findRings 3 = .ok (.sipush 150, 3) := by decide +kernel
theorem dX5_findRings_6 : decode cX5_findRings 6 = .ok (.if_icmp .ge 33, 3) := by decide +kernel
theorem dX5_findRings_9 : decode cX5_findRings 9 = .ok (.aload_n 0, 1) := by decide +kernel
theorem dX5_findRings_10 : decode cX5_findRings 10 = .ok (.getfield 38, 3) := by decide +kernel
theorem dX5_findRings_13 : decode cX5_findRings 13 = .ok (.iload_n 1, 1) := by decide +kernel
theorem dX5_findRings_14 : decode cX5_findRings 14 = .ok (.iaload, 1) := by decide +kernel
theorem dX5_findRings_15 : decode cX5_findRings 15 = .ok (.iconst 1, 1) := by decide +kernel
theorem dX5_findRings_16 : decode cX5_findRings 16 = .ok (.if_icmp .ne 17, 3) := by decide +kernel
theorem dX5_findRings_19 : decode cX5_findRings 19 = .ok (.aload_n 0, 1) := by decide +kernel
theorem dX5_findRings_20 : decode cX5_findRings 20 = .ok (.iload_n 1, 1) := by decide +kernel
theorem dX5_findRings_21 : decode cX5_findRings 21 = .ok (.invokevirtual 142, 3) := by decide +kernel
theorem dX5_findRings_24 : decode cX5_findRings 24 = .ok (.ifCond .eq 9, 3) := by decide +kernel
theorem dX5_findRings_27 : decode cX5_findRings 27 = .ok (.aload_n 0, 1) := by decide +kernel
theorem dX5_findRings_28 : decode cX5_findRings 28 = .ok (.iload_n 1, 1) := by decide +kernel
theorem dX5_findRings_29 : decode cX5_findRings 29 = .ok (.iconst 4, 1) := by decide +kernel
theorem dX5_findRings_30 : decode cX5_findRings 30 = .ok (.invokevirtual 116, 3) := by decide +kernel
theorem dX5_findRings_33 : decode cX5_findRings 33 = .ok (.iinc 1 1, 3) := by decide +kernel
theorem dX5_findRings_36 : decode cX5_findRings 36 = .ok (.goto (-34), 3) := by decide +kernel
theorem dX5_findRings_39 : decode cX5_findRings 39 = .ok (.return_, 1) := by decide +kernel
theorem dX5_isLeastOfRing_0 : decode cX5_isLeastOfRing 0 = .ok (.aload_n 0, 1) := by decide +kernel
theorem dX5_isLeastOfRing_1 : decode cX5_isLeastOfRing 1 = .ok (.getfield 44, 3) := by decide +kernel
theorem dX5_isLeastOfRing_4 : decode cX5_isLeastOfRing 4 = .ok (.iload_n 1, 1) := by decide +kernel
theorem dX5_isLeastOfRing_5 : decode cX5_isLeastOfRing 5 = .ok (.iaload, 1) := by decide +kernel
theorem dX5_isLeastOfRing_6 : decode cX5_isLeastOfRing 6 = .ok (.istore_n 2, 1) := by decide +kernel
theorem dX5_isLeastOfRing_7 : decode cX5_isLeastOfRing 7 = .ok (.iconst 0, 1) := by decide +kernel
theorem dX5_isLeastOfRing_8 : decode cX5_isLeastOfRing 8 = .ok (.istore_n 3, 1) := by decide +kernel
theorem dX5_isLeastOfRing_9 : decode cX5_isLeastOfRing 9 = .ok (.iload_n 3, 1) := by decide +kernel
theorem dX5_isLeastOfRing_10 : decode cX5_isLeastOfRing 10 = .ok (.sipush 150, 3) := by decide +kernel
theorem dX5_isLeastOfRing_13 : decode cX5_isLeastOfRing 13 = .ok (.if_icmp .ge 28, 3) := by decide +kernel
theorem dX5_isLeastOfRing_16 : decode cX5_isLeastOfRing 16 = .ok (.iload_n 2, 1) := by decide +kernel
theorem dX5_isLeastOfRing_17 : decode cX5_isLeastOfRing 17 = .ok (.iload_n 1, 1) := by decide +kernel
theorem dX5_isLeastOfRing_18 : decode cX5_isLeastOfRing 18 = .ok (.if_icmp .le 23, 3) := by decide +kernel
theorem dX5_isLeastOfRing_21 : decode cX5_isLeastOfRing 21 = .ok (.iload_n 2, 1) := by decide +kernel
theorem dX5_isLeastOfRing_22 : decode cX5_isLeastOfRing 22 = .ok (.sipush 150, 3) := by decide +kernel
theorem dX5_isLeastOfRing_25 : decode cX5_isLeastOfRing 25 = .ok (.if_icmp .ge 16, 3) := by decide +kernel
theorem dX5_isLeastOfRing_28 : decode cX5_isLeastOfRing 28 = .ok (.aload_n 0, 1) := by decide +kernel
theorem dX5_isLeastOfRing_29 : decode cX5_isLeastOfRing 29 = .ok (.getfield 44, 3) := by decide +kernel
theorem dX5_isLeastOfRing_32 : decode cX5_isLeastOfRing 32 = .ok (.iload_n 2, 1) := by decide +kernel
theorem dX5_isLeastOfRing_33 : decode cX5_isLeastOfRing 33 = .ok (.iaload, 1) := by decide +kernel
theorem dX5_isLeastOfRing_34 : decode cX5_isLeastOfRing 34 = .ok (.istore_n 2, 1) := by decide +kernel
theorem dX5_isLeastOfRing_35 : decode cX5_isLeastOfRing 35 = .ok (.iinc 3 1, 3) := by decide +kernel
theorem dX5_isLeastOfRing_38 : decode cX5_isLeastOfRing 38 = .ok (.goto (-29), 3) := by decide +kernel
theorem dX5_isLeastOfRing_41 : decode cX5_isLeastOfRing 41 = .ok (.iload_n 2, 1) := by decide +kernel
theorem dX5_isLeastOfRing_42 : decode cX5_isLeastOfRing 42 = .ok (.iload_n 1, 1) := by decide +kernel
theorem dX5_isLeastOfRing_43 : decode cX5_isLeastOfRing 43 = .ok (.if_icmp .ne 7, 3) := by decide +kernel
theorem dX5_isLeastOfRing_46 : decode cX5_isLeastOfRing 46 = .ok (.iconst 1, 1) := by decide +kernel
theorem dX5_isLeastOfRing_47 : decode cX5_isLeastOfRing 47 = .ok (.goto 4, 3) := by decide +kernel
theorem dX5_isLeastOfRing_50 : decode cX5_isLeastOfRing 50 = .ok (.iconst 0, 1) := by decide +kernel
theorem dX5_isLeastOfRing_51 : decode cX5_isLeastOfRing 51 = .ok (.ireturn, 1) := by decide +kernel
theorem dX5_isStanding_0 : decode cX5_isStanding 0 = .ok (.iload_n 1, 1) := by decide +kernel
theorem dX5_isStanding_1 : decode cX5_isStanding 1 = .ok (.ifCond .lt 24, 3) := by decide +kernel
theorem dX5_isStanding_4 : decode cX5_isStanding 4 = .ok (.iload_n 1, 1) := by decide +kernel
theorem dX5_isStanding_5 : decode cX5_isStanding 5 = .ok (.sipush 150, 3) := by decide +kernel
theorem dX5_isStanding_8 : decode cX5_isStanding 8 = .ok (.if_icmp .ge 17, 3) := by decide +kernel
theorem dX5_isStanding_11 : decode cX5_isStanding 11 = .ok (.aload_n 0, 1) := by decide +kernel
theorem dX5_isStanding_12 : decode cX5_isStanding 12 = .ok (.getfield 38, 3) := by decide +kernel
theorem dX5_isStanding_15 : decode cX5_isStanding 15 = .ok (.iload_n 1, 1) := by decide +kernel
theorem dX5_isStanding_16 : decode cX5_isStanding 16 = .ok (.iaload, 1) := by decide +kernel
theorem dX5_isStanding_17 : decode cX5_isStanding 17 = .ok (.iconst 1, 1) := by decide +kernel
theorem dX5_isStanding_18 : decode cX5_isStanding 18 = .ok (.if_icmp .ne 7, 3) := by decide +kernel
theorem dX5_isStanding_21 : decode cX5_isStanding 21 = .ok (.iconst 1, 1) := by decide +kernel
theorem dX5_isStanding_22 : decode cX5_isStanding 22 = .ok (.goto 4, 3) := by decide +kernel
theorem dX5_isStanding_25 : decode cX5_isStanding 25 = .ok (.iconst 0, 1) := by decide +kernel
theorem dX5_isStanding_26 : decode cX5_isStanding 26 = .ok (.ireturn, 1) := by decide +kernel
theorem dX5_listInOrder_0 : decode cX5_listInOrder 0 = .ok (.iconst 0, 1) := by decide +kernel
theorem dX5_listInOrder_1 : decode cX5_listInOrder 1 = .ok (.istore_n 3, 1) := by decide +kernel
theorem dX5_listInOrder_2 : decode cX5_listInOrder 2 = .ok (.iload_n 3, 1) := by decide +kernel
theorem dX5_listInOrder_3 : decode cX5_listInOrder 3 = .ok (.aload_n 0, 1) := by decide +kernel
theorem dX5_listInOrder_4 : decode cX5_listInOrder 4 = .ok (.getfield 156, 3) := by decide +kernel
theorem dX5_listInOrder_7 : decode cX5_listInOrder 7 = .ok (.if_icmp .ge 133, 3) := by decide +kernel
theorem dX5_listInOrder_10 : decode cX5_listInOrder 10 = .ok (.aload_n 0, 1) := by decide +kernel
theorem dX5_listInOrder_11 : decode cX5_listInOrder 11 = .ok (.invokevirtual 187, 3) := by decide +kernel
theorem dX5_listInOrder_14 : decode cX5_listInOrder 14 = .ok (.istore 4, 2) := by decide +kernel
theorem dX5_listInOrder_16 : decode cX5_listInOrder 16 = .ok (.iload 4, 2) := by decide +kernel
theorem dX5_listInOrder_18 : decode cX5_listInOrder 18 = .ok (.iconst (-1), 1) := by decide +kernel
theorem dX5_listInOrder_19 : decode cX5_listInOrder 19 = .ok (.if_icmp .ne 5, 3) := by decide +kernel
theorem dX5_listInOrder_22 : decode cX5_listInOrder 22 = .ok (.iconst 0, 1) := by decide +kernel
theorem dX5_listInOrder_23 : decode cX5_listInOrder 23 = .ok (.ireturn, 1) := by decide +kernel
theorem dX5_listInOrder_24 : decode cX5_listInOrder 24 = .ok (.aload_n 0, 1) := by decide +kernel
theorem dX5_listInOrder_25 : decode cX5_listInOrder 25 = .ok (.getfield 51, 3) := by decide +kernel
theorem dX5_listInOrder_28 : decode cX5_listInOrder 28 = .ok (.iload 4, 2) := by decide +kernel
theorem dX5_listInOrder_30 : decode cX5_listInOrder 30 = .ok (.iaload, 1) := by decide +kernel
theorem dX5_listInOrder_31 : decode cX5_listInOrder 31 = .ok (.istore 5, 2) := by decide +kernel
theorem dX5_listInOrder_33 : decode cX5_listInOrder 33 = .ok (.aload_n 0, 1) := by decide +kernel
theorem dX5_listInOrder_34 : decode cX5_listInOrder 34 = .ok (.getfield 31, 3) := by decide +kernel
theorem dX5_listInOrder_37 : decode cX5_listInOrder 37 = .ok (.iload 5, 2) := by decide +kernel
theorem dX5_listInOrder_39 : decode cX5_listInOrder 39 = .ok (.iload_n 1, 1) := by decide +kernel
theorem dX5_listInOrder_40 : decode cX5_listInOrder 40 = .ok (.aload_n 0, 1) := by decide +kernel
theorem dX5_listInOrder_41 : decode cX5_listInOrder 41 = .ok (.getfield 41, 3) := by decide +kernel
theorem dX5_listInOrder_44 : decode cX5_listInOrder 44 = .ok (.iload 5, 2) := by decide +kernel
theorem dX5_listInOrder_46 : decode cX5_listInOrder 46 = .ok (.iaload, 1) := by decide +kernel
theorem dX5_listInOrder_47 : decode cX5_listInOrder 47 = .ok (.aload_n 0, 1) := by decide +kernel
theorem dX5_listInOrder_48 : decode cX5_listInOrder 48 = .ok (.getfield 47, 3) := by decide +kernel
theorem dX5_listInOrder_51 : decode cX5_listInOrder 51 = .ok (.iload 5, 2) := by decide +kernel
theorem dX5_listInOrder_53 : decode cX5_listInOrder 53 = .ok (.laload, 1) := by decide +kernel
theorem dX5_listInOrder_54 : decode cX5_listInOrder 54 = .ok (.invokevirtual 152, 3) := by decide +kernel
theorem dX5_listInOrder_57 : decode cX5_listInOrder 57 = .ok (.aload_n 2, 1) := by decide +kernel
theorem dX5_listInOrder_58 : decode cX5_listInOrder 58 = .ok (.aload_n 0, 1) := by decide +kernel
theorem dX5_listInOrder_59 : decode cX5_listInOrder 59 = .ok (.getfield 41, 3) := by decide +kernel
theorem dX5_listInOrder_62 : decode cX5_listInOrder 62 = .ok (.iload 5, 2) := by decide +kernel
theorem dX5_listInOrder_64 : decode cX5_listInOrder 64 = .ok (.iaload, 1) := by decide +kernel
theorem dX5_listInOrder_65 : decode cX5_listInOrder 65 = .ok (.aload_n 0, 1) := by decide +kernel
theorem dX5_listInOrder_66 : decode cX5_listInOrder 66 = .ok (.getfield 47, 3) := by decide +kernel
theorem dX5_listInOrder_69 : decode cX5_listInOrder 69 = .ok (.iload 5, 2) := by decide +kernel
theorem dX5_listInOrder_71 : decode cX5_listInOrder 71 = .ok (.laload, 1) := by decide +kernel
theorem dX5_listInOrder_72 : decode cX5_listInOrder 72 = .ok (.invokevirtual 190, 3) := by decide +kernel
theorem dX5_listInOrder_75 : decode cX5_listInOrder 75 = .ok (.aload_n 0, 1) := by decide +kernel
theorem dX5_listInOrder_76 : decode cX5_listInOrder 76 = .ok (.getfield 57, 3) := by decide +kernel
theorem dX5_listInOrder_79 : decode cX5_listInOrder 79 = .ok (.iload 4, 2) := by decide +kernel
theorem dX5_listInOrder_81 : decode cX5_listInOrder 81 = .ok (.iconst (-1), 1) := by decide +kernel
theorem dX5_listInOrder_82 : decode cX5_listInOrder 82 = .ok (.iastore, 1) := by decide +kernel
theorem dX5_listInOrder_83 : decode cX5_listInOrder 83 = .ok (.iconst 0, 1) := by decide +kernel
theorem dX5_listInOrder_84 : decode cX5_listInOrder 84 = .ok (.istore 6, 2) := by decide +kernel
theorem dX5_listInOrder_86 : decode cX5_listInOrder 86 = .ok (.iload 6, 2) := by decide +kernel
theorem dX5_listInOrder_88 : decode cX5_listInOrder 88 = .ok (.aload_n 0, 1) := by decide +kernel
theorem dX5_listInOrder_89 : decode cX5_listInOrder 89 = .ok (.getfield 156, 3) := by decide +kernel
theorem dX5_listInOrder_92 : decode cX5_listInOrder 92 = .ok (.if_icmp .ge 42, 3) := by decide +kernel
theorem dX5_listInOrder_95 : decode cX5_listInOrder 95 = .ok (.aload_n 0, 1) := by decide +kernel
theorem dX5_listInOrder_96 : decode cX5_listInOrder 96 = .ok (.getfield 57, 3) := by decide +kernel
theorem dX5_listInOrder_99 : decode cX5_listInOrder 99 = .ok (.iload 6, 2) := by decide +kernel
theorem dX5_listInOrder_101 : decode cX5_listInOrder 101 = .ok (.iaload, 1) := by decide +kernel
theorem dX5_listInOrder_102 : decode cX5_listInOrder 102 = .ok (.ifCond .le 26, 3) := by decide +kernel
theorem dX5_listInOrder_105 : decode cX5_listInOrder 105 = .ok (.aload_n 0, 1) := by decide +kernel
theorem dX5_listInOrder_106 : decode cX5_listInOrder 106 = .ok (.getfield 57, 3) := by decide +kernel
theorem dX5_listInOrder_109 : decode cX5_listInOrder 109 = .ok (.iload 6, 2) := by decide +kernel
theorem dX5_listInOrder_111 : decode cX5_listInOrder 111 = .ok (.dup2, 1) := by decide +kernel
theorem dX5_listInOrder_112 : decode cX5_listInOrder 112 = .ok (.iaload, 1) := by decide +kernel
theorem dX5_listInOrder_113 : decode cX5_listInOrder 113 = .ok (.aload_n 0, 1) := by decide +kernel
theorem dX5_listInOrder_114 : decode cX5_listInOrder 114 = .ok (.getfield 54, 3) := by decide +kernel
theorem dX5_listInOrder_117 : decode cX5_listInOrder 117 = .ok (.iload 4, 2) := by decide +kernel
theorem dX5_listInOrder_119 : decode cX5_listInOrder 119 = .ok (.bipush 40, 2) := by decide +kernel
theorem dX5_listInOrder_121 : decode cX5_listInOrder 121 = .ok (.imul, 1) := by decide +kernel
theorem dX5_listInOrder_122 : decode cX5_listInOrder 122 = .ok (.iload 6, 2) := by decide +kernel
theorem dX5_listInOrder_124 : decode cX5_listInOrder 124 = .ok (.iadd, 1) := by decide +kernel
theorem dX5_listInOrder_125 : decode cX5_listInOrder 125 = .ok (.iaload, 1) := by decide +kernel
theorem dX5_listInOrder_126 : decode cX5_listInOrder 126 = .ok (.isub, 1) := by decide +kernel
theorem dX5_listInOrder_127 : decode cX5_listInOrder 127 = .ok (.iastore, 1) := by decide +kernel
theorem dX5_listInOrder_128 : decode cX5_listInOrder 128 = .ok (.iinc 6 1, 3) := by decide +kernel
theorem dX5_listInOrder_131 : decode cX5_listInOrder 131 = .ok (.goto (-45), 3) := by decide +kernel
theorem dX5_listInOrder_134 : decode cX5_listInOrder 134 = .ok (.iinc 3 1, 3) := by decide +kernel
theorem dX5_listInOrder_137 : decode cX5_listInOrder 137 = .ok (.goto (-135), 3) := by decide +kernel
theorem dX5_listInOrder_140 : decode cX5_listInOrder 140 = .ok (.iconst 1, 1) := by decide +kernel
theorem dX5_listInOrder_141 : decode cX5_listInOrder 141 = .ok (.ireturn, 1) := by decide +kernel
theorem dX5_listOutermost_0 : decode cX5_listOutermost 0 = .ok (.aload_n 0, 1) := by decide +kernel
theorem dX5_listOutermost_1 : decode cX5_listOutermost 1 = .ok (.getfield 31, 3) := by decide +kernel
theorem dX5_listOutermost_4 : decode cX5_listOutermost 4 = .ok (.invokevirtual 149, 3) := by decide +kernel
theorem dX5_listOutermost_7 : decode cX5_listOutermost 7 = .ok (.aload_n 0, 1) := by decide +kernel
theorem dX5_listOutermost_8 : decode cX5_listOutermost 8 = .ok (.getfield 12, 3) := by decide +kernel
theorem dX5_listOutermost_11 : decode cX5_listOutermost 11 = .ok (.invokevirtual 145, 3) := by decide +kernel
theorem dX5_listOutermost_14 : decode cX5_listOutermost 14 = .ok (.istore_n 1, 1) := by decide +kernel
theorem dX5_listOutermost_15 : decode cX5_listOutermost 15 = .ok (.aload_n 0, 1) := by decide +kernel
theorem dX5_listOutermost_16 : decode cX5_listOutermost 16 = .ok (.iload_n 1, 1) := by decide +kernel
theorem dX5_listOutermost_17 : decode cX5_listOutermost 17 = .ok (.invokevirtual 139, 3) := by decide +kernel
theorem dX5_listOutermost_20 : decode cX5_listOutermost 20 = .ok (.ifCond .eq 24, 3) := by decide +kernel
theorem dX5_listOutermost_23 : decode cX5_listOutermost 23 = .ok (.aload_n 0, 1) := by decide +kernel
theorem dX5_listOutermost_24 : decode cX5_listOutermost 24 = .ok (.getfield 31, 3) := by decide +kernel
theorem dX5_listOutermost_27 : decode cX5_listOutermost 27 = .ok (.iload_n 1, 1) := by decide +kernel
theorem dX5_listOutermost_28 : decode cX5_listOutermost 28 = .ok (.iconst (-1), 1) := by decide +kernel
theorem dX5_listOutermost_29 : decode cX5_listOutermost 29 = .ok (.aload_n 0, 1) := by decide +kernel
theorem dX5_listOutermost_30 : decode cX5_listOutermost 30 = .ok (.getfield 41, 3) := by decide +kernel
theorem dX5_listOutermost_33 : decode cX5_listOutermost 33 = .ok (.iload_n 1, 1) := by decide +kernel
theorem dX5_listOutermost_34 : decode cX5_listOutermost 34 = .ok (.iaload, 1) := by decide +kernel
theorem dX5_listOutermost_35 : decode cX5_listOutermost 35 = .ok (.aload_n 0, 1) := by decide +kernel
theorem dX5_listOutermost_36 : decode cX5_listOutermost 36 = .ok (.getfield 47, 3) := by decide +kernel
theorem dX5_listOutermost_39 : decode cX5_listOutermost 39 = .ok (.iload_n 1, 1) := by decide +kernel
theorem dX5_listOutermost_40 : decode cX5_listOutermost 40 = .ok (.laload, 1) := by decide +kernel
theorem dX5_listOutermost_41 : decode cX5_listOutermost 41 = .ok (.invokevirtual 152, 3) := by decide +kernel
theorem dX5_listOutermost_44 : decode cX5_listOutermost 44 = .ok (.return_, 1) := by decide +kernel
theorem dX5_mark_0 : decode cX5_mark 0 = .ok (.iload_n 1, 1) := by decide +kernel
theorem dX5_mark_1 : decode cX5_mark 1 = .ok (.ifCond .lt 27, 3) := by decide +kernel
theorem dX5_mark_4 : decode cX5_mark 4 = .ok (.iload_n 1, 1) := by decide +kernel
theorem dX5_mark_5 : decode cX5_mark 5 = .ok (.sipush 150, 3) := by decide +kernel
theorem dX5_mark_8 : decode cX5_mark 8 = .ok (.if_icmp .ge 20, 3) := by decide +kernel
theorem dX5_mark_11 : decode cX5_mark 11 = .ok (.aload_n 0, 1) := by decide +kernel
theorem dX5_mark_12 : decode cX5_mark 12 = .ok (.getfield 34, 3) := by decide +kernel
theorem dX5_mark_15 : decode cX5_mark 15 = .ok (.iload_n 1, 1) := by decide +kernel
theorem dX5_mark_16 : decode cX5_mark 16 = .ok (.dup2, 1) := by decide +kernel
theorem dX5_mark_17 : decode cX5_mark 17 = .ok (.iaload, 1) := by decide +kernel
theorem dX5_mark_18 : decode cX5_mark 18 = .ok (.iconst 1, 1) := by decide +kernel
theorem dX5_mark_19 : decode cX5_mark 19 = .ok (.iload_n 2, 1) := by decide +kernel
theorem dX5_mark_20 : decode cX5_mark 20 = .ok (.ishl, 1) := by decide +kernel
theorem dX5_mark_21 : decode cX5_mark 21 = .ok (.ior, 1) := by decide +kernel
theorem dX5_mark_22 : decode cX5_mark 22 = .ok (.iastore, 1) := by decide +kernel
theorem dX5_mark_23 : decode cX5_mark 23 = .ok (.aload_n 0, 1) := by decide +kernel
theorem dX5_mark_24 : decode cX5_mark 24 = .ok (.iconst 1, 1) := by decide +kernel
theorem dX5_mark_25 : decode cX5_mark 25 = .ok (.putfield 60, 3) := by decide +kernel
theorem dX5_mark_28 : decode cX5_mark 28 = .ok (.return_, 1) := by decide +kernel
theorem dX5_nextFree_0 : decode cX5_nextFree 0 = .ok (.iconst (-1), 1) := by decide +kernel
theorem dX5_nextFree_1 : decode cX5_nextFree 1 = .ok (.istore_n 1, 1) := by decide +kernel
theorem dX5_nextFree_2 : decode cX5_nextFree 2 = .ok (.iconst 0, 1) := by decide +kernel
theorem dX5_nextFree_3 : decode cX5_nextFree 3 = .ok (.istore_n 2, 1) := by decide +kernel
theorem dX5_nextFree_4 : decode cX5_nextFree 4 = .ok (.iload_n 2, 1) := by decide +kernel
theorem dX5_nextFree_5 : decode cX5_nextFree 5 = .ok (.aload_n 0, 1) := by decide +kernel
theorem dX5_nextFree_6 : decode cX5_nextFree 6 = .ok (.getfield 156, 3) := by decide +kernel
theorem dX5_nextFree_9 : decode cX5_nextFree 9 = .ok (.if_icmp .ge 84, 3) := by decide +kernel
theorem dX5_nextFree_12 : decode cX5_nextFree 12 = .ok (.aload_n 0, 1) := by decide +kernel
theorem dX5_nextFree_13 : decode cX5_nextFree 13 = .ok (.getfield 51, 3) := by decide +kernel
theorem dX5_nextFree_16 : decode cX5_nextFree 16 = .ok (.iload_n 2, 1) := by decide +kernel
theorem dX5_nextFree_17 : decode cX5_nextFree 17 = .ok (.iaload, 1) := by decide +kernel
theorem dX5_nextFree_18 : decode cX5_nextFree 18 = .ok (.istore_n 3, 1) := by decide +kernel
theorem dX5_nextFree_19 : decode cX5_nextFree 19 = .ok (.iload_n 1, 1) := by decide +kernel
theorem dX5_nextFree_20 : decode cX5_nextFree 20 = .ok (.iconst (-1), 1) := by decide +kernel
theorem dX5_nextFree_21 : decode cX5_nextFree 21 = .ok (.if_icmp .ne 7, 3) := by decide +kernel
theorem dX5_nextFree_24 : decode cX5_nextFree 24 = .ok (.iload_n 3, 1) := by decide +kernel
theorem dX5_nextFree_25 : decode cX5_nextFree 25 = .ok (.goto 9, 3) := by decide +kernel
theorem dX5_nextFree_28 : decode cX5_nextFree 28 = .ok (.aload_n 0, 1) := by decide +kernel
theorem dX5_nextFree_29 : decode cX5_nextFree 29 = .ok (.getfield 51, 3) := by decide +kernel
theorem dX5_nextFree_32 : decode cX5_nextFree 32 = .ok (.iload_n 1, 1) := by decide +kernel
theorem dX5_nextFree_33 : decode cX5_nextFree 33 = .ok (.iaload, 1) := by decide +kernel
theorem dX5_nextFree_34 : decode cX5_nextFree 34 = .ok (.istore 4, 2) := by decide +kernel
theorem dX5_nextFree_36 : decode cX5_nextFree 36 = .ok (.aload_n 0, 1) := by decide +kernel
theorem dX5_nextFree_37 : decode cX5_nextFree 37 = .ok (.getfield 57, 3) := by decide +kernel
theorem dX5_nextFree_40 : decode cX5_nextFree 40 = .ok (.iload_n 2, 1) := by decide +kernel
theorem dX5_nextFree_41 : decode cX5_nextFree 41 = .ok (.iaload, 1) := by decide +kernel
theorem dX5_nextFree_42 : decode cX5_nextFree 42 = .ok (.ifCond .ne 45, 3) := by decide +kernel
theorem dX5_nextFree_45 : decode cX5_nextFree 45 = .ok (.iload_n 1, 1) := by decide +kernel
theorem dX5_nextFree_46 : decode cX5_nextFree 46 = .ok (.iconst (-1), 1) := by decide +kernel
theorem dX5_nextFree_47 : decode cX5_nextFree 47 = .ok (.if_icmp .eq 38, 3) := by decide +kernel
theorem dX5_nextFree_50 : decode cX5_nextFree 50 = .ok (.aload_n 0, 1) := by decide +kernel
theorem dX5_nextFree_51 : decode cX5_nextFree 51 = .ok (.getfield 41, 3) := by decide +kernel
theorem dX5_nextFree_54 : decode cX5_nextFree 54 = .ok (.iload_n 3, 1) := by decide +kernel
theorem dX5_nextFree_55 : decode cX5_nextFree 55 = .ok (.iaload, 1) := by decide +kernel
theorem dX5_nextFree_56 : decode cX5_nextFree 56 = .ok (.aload_n 0, 1) := by decide +kernel
theorem dX5_nextFree_57 : decode cX5_nextFree 57 = .ok (.getfield 47, 3) := by decide +kernel
theorem dX5_nextFree_60 : decode cX5_nextFree 60 = .ok (.iload_n 3, 1) := by decide +kernel
theorem dX5_nextFree_61 : decode cX5_nextFree 61 = .ok (.laload, 1) := by decide +kernel
theorem dX5_nextFree_62 : decode cX5_nextFree 62 = .ok (.iload_n 3, 1) := by decide +kernel
theorem dX5_nextFree_63 : decode cX5_nextFree 63 = .ok (.aload_n 0, 1) := by decide +kernel
theorem dX5_nextFree_64 : decode cX5_nextFree 64 = .ok (.getfield 41, 3) := by decide +kernel
theorem dX5_nextFree_67 : decode cX5_nextFree 67 = .ok (.iload 4, 2) := by decide +kernel
theorem dX5_nextFree_69 : decode cX5_nextFree 69 = .ok (.iaload, 1) := by decide +kernel
theorem dX5_nextFree_70 : decode cX5_nextFree 70 = .ok (.aload_n 0, 1) := by decide +kernel
theorem dX5_nextFree_71 : decode cX5_nextFree 71 = .ok (.getfield 47, 3) := by decide +kernel
theorem dX5_nextFree_74 : decode cX5_nextFree 74 = .ok (.iload 4, 2) := by decide +kernel
theorem dX5_nextFree_76 : decode cX5_nextFree 76 = .ok (.laload, 1) := by decide +kernel
theorem dX5_nextFree_77 : decode cX5_nextFree 77 = .ok (.iload 4, 2) := by decide +kernel
theorem dX5_nextFree_79 : decode cX5_nextFree 79 = .ok (.invokestatic 193, 3) := by decide +kernel
theorem dX5_nextFree_82 : decode cX5_nextFree 82 = .ok (.ifCond .eq 5, 3) := by decide +kernel
theorem dX5_nextFree_85 : decode cX5_nextFree 85 = .ok (.iload_n 2, 1) := by decide +kernel
theorem dX5_nextFree_86 : decode cX5_nextFree 86 = .ok (.istore_n 1, 1) := by decide +kernel
theorem dX5_nextFree_87 : decode cX5_nextFree 87 = .ok (.iinc 2 1, 3) := by decide +kernel
theorem dX5_nextFree_90 : decode cX5_nextFree 90 = .ok (.goto (-86), 3) := by decide +kernel
theorem dX5_nextFree_93 : decode cX5_nextFree 93 = .ok (.iload_n 1, 1) := by decide +kernel
theorem dX5_nextFree_94 : decode cX5_nextFree 94 = .ok (.ireturn, 1) := by decide +kernel
theorem dX5_orderChildren_0 : decode cX5_orderChildren 0 = .ok (.aload_n 0, 1) := by decide +kernel
theorem dX5_orderChildren_1 : decode cX5_orderChildren 1 = .ok (.iconst 0, 1) := by decide +kernel
theorem dX5_orderChildren_2 : decode cX5_orderChildren 2 = .ok (.putfield 156, 3) := by decide +kernel
theorem dX5_orderChildren_5 : decode cX5_orderChildren 5 = .ok (.iconst 0, 1) := by decide +kernel
theorem dX5_orderChildren_6 : decode cX5_orderChildren 6 = .ok (.istore 4, 2) := by decide +kernel
theorem dX5_orderChildren_8 : decode cX5_orderChildren 8 = .ok (.iload 4, 2) := by decide +kernel
theorem dX5_orderChildren_10 : decode cX5_orderChildren 10 = .ok (.sipush 150, 3) := by decide +kernel
theorem dX5_orderChildren_13 : decode cX5_orderChildren 13 = .ok (.if_icmp .ge 71, 3) := by decide +kernel
theorem dX5_orderChildren_16 : decode cX5_orderChildren 16 = .ok (.aload_n 0, 1) := by decide +kernel
theorem dX5_orderChildren_17 : decode cX5_orderChildren 17 = .ok (.getfield 38, 3) := by decide +kernel
theorem dX5_orderChildren_20 : decode cX5_orderChildren 20 = .ok (.iload 4, 2) := by decide +kernel
theorem dX5_orderChildren_22 : decode cX5_orderChildren 22 = .ok (.iaload, 1) := by decide +kernel
theorem dX5_orderChildren_23 : decode cX5_orderChildren 23 = .ok (.iconst 1, 1) := by decide +kernel
theorem dX5_orderChildren_24 : decode cX5_orderChildren 24 = .ok (.if_icmp .ne 54, 3) := by decide +kernel
theorem dX5_orderChildren_27 : decode cX5_orderChildren 27 = .ok (.aload_n 0, 1) := by decide +kernel
theorem dX5_orderChildren_28 : decode cX5_orderChildren 28 = .ok (.getfield 44, 3) := by decide +kernel
theorem dX5_orderChildren_31 : decode cX5_orderChildren 31 = .ok (.iload 4, 2) := by decide +kernel
theorem dX5_orderChildren_33 : decode cX5_orderChildren 33 = .ok (.iaload, 1) := by decide +kernel
theorem dX5_orderChildren_34 : decode cX5_orderChildren 34 = .ok (.iload_n 1, 1) := by decide +kernel
theorem dX5_orderChildren_35 : decode cX5_orderChildren 35 = .ok (.if_icmp .ne 43, 3) := by decide +kernel
theorem dX5_orderChildren_38 : decode cX5_orderChildren 38 = .ok (.aload_n 0, 1) := by decide +kernel
theorem dX5_orderChildren_39 : decode cX5_orderChildren 39 = .ok (.getfield 156, 3) := by decide +kernel
theorem dX5_orderChildren_42 : decode cX5_orderChildren 42 = .ok (.bipush 40, 2) := by decide +kernel
theorem dX5_orderChildren_44 : decode cX5_orderChildren 44 = .ok (.if_icmp .ge 34, 3) := by decide +kernel
theorem dX5_orderChildren_47 : decode cX5_orderChildren 47 = .ok (.aload_n 0, 1) := by decide +kernel
theorem dX5_orderChildren_48 : decode cX5_orderChildren 48 = .ok (.getfield 51, 3) := by decide +kernel
theorem dX5_orderChildren_51 : decode cX5_orderChildren 51 = .ok (.aload_n 0, 1) := by decide +kernel
theorem dX5_orderChildren_52 : decode cX5_orderChildren 52 = .ok (.getfield 156, 3) := by decide +kernel
theorem dX5_orderChildren_55 : decode cX5_orderChildren 55 = .ok (.iload 4, 2) := by decide +kernel
theorem dX5_orderChildren_57 : decode cX5_orderChildren 57 = .ok (.iastore, 1) := by decide +kernel
theorem dX5_orderChildren_58 : decode cX5_orderChildren 58 = .ok (.aload_n 0, 1) := by decide +kernel
theorem dX5_orderChildren_59 : decode cX5_orderChildren 59 = .ok (.getfield 57, 3) := by decide +kernel
theorem dX5_orderChildren_62 : decode cX5_orderChildren 62 = .ok (.aload_n 0, 1) := by decide +kernel
theorem dX5_orderChildren_63 : decode cX5_orderChildren 63 = .ok (.getfield 156, 3) := by decide +kernel
theorem dX5_orderChildren_66 : decode cX5_orderChildren 66 = .ok (.iconst 0, 1) := by decide +kernel
theorem dX5_orderChildren_67 : decode cX5_orderChildren 67 = .ok (.iastore, 1) := by decide +kernel
theorem dX5_orderChildren_68 : decode cX5_orderChildren 68 = .ok (.aload_n 0, 1) := by decide +kernel
theorem dX5_orderChildren_69 : decode cX5_orderChildren 69 = .ok (.dup, 1) := by decide +kernel
theorem dX5_orderChildren_70 : decode cX5_orderChildren 70 = .ok (.getfield 156, 3) := by decide +kernel
theorem dX5_orderChildren_73 : decode cX5_orderChildren 73 = .ok (.iconst 1, 1) := by decide +kernel
theorem dX5_orderChildren_74 : decode cX5_orderChildren 74 = .ok (.iadd, 1) := by decide +kernel
theorem dX5_orderChildren_75 : decode cX5_orderChildren 75 = .ok (.putfield 156, 3) := by decide +kernel
theorem dX5_orderChildren_78 : decode cX5_orderChildren 78 = .ok (.iinc 4 1, 3) := by decide +kernel
theorem dX5_orderChildren_81 : decode cX5_orderChildren 81 = .ok (.goto (-73), 3) := by decide +kernel
theorem dX5_orderChildren_84 : decode cX5_orderChildren 84 = .ok (.aload_n 2, 1) := by decide +kernel
theorem dX5_orderChildren_85 : decode cX5_orderChildren 85 = .ok (.aload_n 0, 1) := by decide +kernel
theorem dX5_orderChildren_86 : decode cX5_orderChildren 86 = .ok (.getfield 41, 3) := by decide +kernel
theorem dX5_orderChildren_89 : decode cX5_orderChildren 89 = .ok (.iload_n 1, 1) := by decide +kernel
theorem dX5_orderChildren_90 : decode cX5_orderChildren 90 = .ok (.iaload, 1) := by decide +kernel
theorem dX5_orderChildren_91 : decode cX5_orderChildren 91 = .ok (.invokevirtual 159, 3) := by decide +kernel
theorem dX5_orderChildren_94 : decode cX5_orderChildren 94 = .ok (.istore 4, 2) := by decide +kernel
theorem dX5_orderChildren_96 : decode cX5_orderChildren 96 = .ok (.aload_n 3, 1) := by decide +kernel
theorem dX5_orderChildren_97 : decode cX5_orderChildren 97 = .ok (.invokevirtual 164, 3) := by decide +kernel
theorem dX5_orderChildren_100 : decode cX5_orderChildren 100 = .ok (.aload_n 0, 1) := by decide +kernel
theorem dX5_orderChildren_101 : decode cX5_orderChildren 101 = .ok (.iload_n 1, 1) := by decide +kernel
theorem dX5_orderChildren_102 : decode cX5_orderChildren 102 = .ok (.iload 4, 2) := by decide +kernel
theorem dX5_orderChildren_104 : decode cX5_orderChildren 104 = .ok (.invokevirtual 167, 3) := by decide +kernel
theorem dX5_orderChildren_107 : decode cX5_orderChildren 107 = .ok (.ifCond .eq 12, 3) := by decide +kernel
theorem dX5_orderChildren_110 : decode cX5_orderChildren 110 = .ok (.aload_n 0, 1) := by decide +kernel
theorem dX5_orderChildren_111 : decode cX5_orderChildren 111 = .ok (.iload_n 1, 1) := by decide +kernel
theorem dX5_orderChildren_112 : decode cX5_orderChildren 112 = .ok (.aload_n 3, 1) := by decide +kernel
theorem dX5_orderChildren_113 : decode cX5_orderChildren 113 = .ok (.invokevirtual 171, 3) := by decide +kernel
theorem dX5_orderChildren_116 : decode cX5_orderChildren 116 = .ok (.ifCond .ne 10, 3) := by decide +kernel
theorem dX5_orderChildren_119 : decode cX5_orderChildren 119 = .ok (.aload_n 0, 1) := by decide +kernel
theorem dX5_orderChildren_120 : decode cX5_orderChildren 120 = .ok (.iload_n 1, 1) := by decide +kernel
theorem dX5_orderChildren_121 : decode cX5_orderChildren 121 = .ok (.iconst 5, 1) := by decide +kernel
theorem dX5_orderChildren_122 : decode cX5_orderChildren 122 = .ok (.invokevirtual 116, 3) := by decide +kernel
theorem dX5_orderChildren_125 : decode cX5_orderChildren 125 = .ok (.return_, 1) := by decide +kernel
theorem dX5_orderChildren_126 : decode cX5_orderChildren 126 = .ok (.aload_n 2, 1) := by decide +kernel
theorem dX5_orderChildren_127 : decode cX5_orderChildren 127 = .ok (.aload_n 0, 1) := by decide +kernel
theorem dX5_orderChildren_128 : decode cX5_orderChildren 128 = .ok (.getfield 41, 3) := by decide +kernel
theorem dX5_orderChildren_131 : decode cX5_orderChildren 131 = .ok (.iload_n 1, 1) := by decide +kernel
theorem dX5_orderChildren_132 : decode cX5_orderChildren 132 = .ok (.iaload, 1) := by decide +kernel
theorem dX5_orderChildren_133 : decode cX5_orderChildren 133 = .ok (.aload_n 3, 1) := by decide +kernel
theorem dX5_orderChildren_134 : decode cX5_orderChildren 134 = .ok (.invokevirtual 175, 3) := by decide +kernel
theorem dX5_orderChildren_137 : decode cX5_orderChildren 137 = .ok (.ifCond .ne 10, 3) := by decide +kernel
theorem dX5_orderChildren_140 : decode cX5_orderChildren 140 = .ok (.aload_n 0, 1) := by decide +kernel
theorem dX5_orderChildren_141 : decode cX5_orderChildren 141 = .ok (.iload_n 1, 1) := by decide +kernel
theorem dX5_orderChildren_142 : decode cX5_orderChildren 142 = .ok (.bipush 6, 2) := by decide +kernel
theorem dX5_orderChildren_144 : decode cX5_orderChildren 144 = .ok (.invokevirtual 116, 3) := by decide +kernel
theorem dX5_orderChildren_147 : decode cX5_orderChildren 147 = .ok (.iload 4, 2) := by decide +kernel
theorem dX5_orderChildren_149 : decode cX5_orderChildren 149 = .ok (.ifCond .eq 17, 3) := by decide +kernel
theorem dX5_orderChildren_152 : decode cX5_orderChildren 152 = .ok (.aload_n 3, 1) := by decide +kernel
theorem dX5_orderChildren_153 : decode cX5_orderChildren 153 = .ok (.invokevirtual 178, 3) := by decide +kernel
theorem dX5_orderChildren_156 : decode cX5_orderChildren 156 = .ok (.ifCond .eq 10, 3) := by decide +kernel
theorem dX5_orderChildren_159 : decode cX5_orderChildren 159 = .ok (.aload_n 0, 1) := by decide +kernel
theorem dX5_orderChildren_160 : decode cX5_orderChildren 160 = .ok (.iload_n 1, 1) := by decide +kernel
theorem dX5_orderChildren_161 : decode cX5_orderChildren 161 = .ok (.bipush 7, 2) := by decide +kernel
theorem dX5_orderChildren_163 : decode cX5_orderChildren 163 = .ok (.invokevirtual 116, 3) := by decide +kernel
theorem dX5_orderChildren_166 : decode cX5_orderChildren 166 = .ok (.return_, 1) := by decide +kernel
theorem dX5_ordering_0 : decode cX5_ordering 0 = .ok (.aload_n 0, 1) := by decide +kernel
theorem dX5_ordering_1 : decode cX5_ordering 1 = .ok (.getfield 12, 3) := by decide +kernel
theorem dX5_ordering_4 : decode cX5_ordering 4 = .ok (.iload_n 1, 1) := by decide +kernel
theorem dX5_ordering_5 : decode cX5_ordering 5 = .ok (.iload_n 2, 1) := by decide +kernel
theorem dX5_ordering_6 : decode cX5_ordering 6 = .ok (.iload_n 3, 1) := by decide +kernel
theorem dX5_ordering_7 : decode cX5_ordering 7 = .ok (.invokevirtual 186, 3) := by decide +kernel
theorem dX5_ordering_10 : decode cX5_ordering 10 = .ok (.istore 4, 2) := by decide +kernel
theorem dX5_ordering_12 : decode cX5_ordering 12 = .ok (.aload_n 0, 1) := by decide +kernel
theorem dX5_ordering_13 : decode cX5_ordering 13 = .ok (.getfield 18, 3) := by decide +kernel
theorem dX5_ordering_16 : decode cX5_ordering 16 = .ok (.iload_n 1, 1) := by decide +kernel
theorem dX5_ordering_17 : decode cX5_ordering 17 = .ok (.iload_n 2, 1) := by decide +kernel
theorem dX5_ordering_18 : decode cX5_ordering 18 = .ok (.iload_n 3, 1) := by decide +kernel
theorem dX5_ordering_19 : decode cX5_ordering 19 = .ok (.invokevirtual 186, 3) := by decide +kernel
theorem dX5_ordering_22 : decode cX5_ordering 22 = .ok (.istore 5, 2) := by decide +kernel
theorem dX5_ordering_24 : decode cX5_ordering 24 = .ok (.iload 4, 2) := by decide +kernel
theorem dX5_ordering_26 : decode cX5_ordering 26 = .ok (.ifCond .eq 10, 3) := by decide +kernel
theorem dX5_ordering_29 : decode cX5_ordering 29 = .ok (.iload 4, 2) := by decide +kernel
theorem dX5_ordering_31 : decode cX5_ordering 31 = .ok (.iload 5, 2) := by decide +kernel
theorem dX5_ordering_33 : decode cX5_ordering 33 = .ok (.if_icmp .ne 6, 3) := by decide +kernel
theorem dX5_ordering_36 : decode cX5_ordering 36 = .ok (.iload 5, 2) := by decide +kernel
theorem dX5_ordering_38 : decode cX5_ordering 38 = .ok (.ireturn, 1) := by decide +kernel
theorem dX5_ordering_39 : decode cX5_ordering 39 = .ok (.iload 5, 2) := by decide +kernel
theorem dX5_ordering_41 : decode cX5_ordering 41 = .ok (.ifCond .ne 6, 3) := by decide +kernel
theorem dX5_ordering_44 : decode cX5_ordering 44 = .ok (.iload 4, 2) := by decide +kernel
theorem dX5_ordering_46 : decode cX5_ordering 46 = .ok (.ireturn, 1) := by decide +kernel
theorem dX5_ordering_47 : decode cX5_ordering 47 = .ok (.aload_n 0, 1) := by decide +kernel
theorem dX5_ordering_48 : decode cX5_ordering 48 = .ok (.getfield 21, 3) := by decide +kernel
theorem dX5_ordering_51 : decode cX5_ordering 51 = .ok (.iload_n 1, 1) := by decide +kernel
theorem dX5_ordering_52 : decode cX5_ordering 52 = .ok (.iload_n 2, 1) := by decide +kernel
theorem dX5_ordering_53 : decode cX5_ordering 53 = .ok (.iload_n 3, 1) := by decide +kernel
theorem dX5_ordering_54 : decode cX5_ordering 54 = .ok (.invokevirtual 186, 3) := by decide +kernel
theorem dX5_ordering_57 : decode cX5_ordering 57 = .ok (.istore 6, 2) := by decide +kernel
theorem dX5_ordering_59 : decode cX5_ordering 59 = .ok (.iload 6, 2) := by decide +kernel
theorem dX5_ordering_61 : decode cX5_ordering 61 = .ok (.ifCond .ne 5, 3) := by decide +kernel
theorem dX5_ordering_64 : decode cX5_ordering 64 = .ok (.iconst 2, 1) := by decide +kernel
theorem dX5_ordering_65 : decode cX5_ordering 65 = .ok (.ireturn, 1) := by decide +kernel
theorem dX5_ordering_66 : decode cX5_ordering 66 = .ok (.iload 6, 2) := by decide +kernel
theorem dX5_ordering_68 : decode cX5_ordering 68 = .ok (.iload 4, 2) := by decide +kernel
theorem dX5_ordering_70 : decode cX5_ordering 70 = .ok (.if_icmp .ne 8, 3) := by decide +kernel
theorem dX5_ordering_73 : decode cX5_ordering 73 = .ok (.iload 5, 2) := by decide +kernel
theorem dX5_ordering_75 : decode cX5_ordering 75 = .ok (.goto 5, 3) := by decide +kernel
theorem dX5_ordering_78 : decode cX5_ordering 78 = .ok (.iload 4, 2) := by decide +kernel
theorem dX5_ordering_80 : decode cX5_ordering 80 = .ok (.ireturn, 1) := by decide +kernel
theorem dX5_run_0 : decode cX5_run 0 = .ok (.aload_n 0, 1) := by decide +kernel
theorem dX5_run_1 : decode cX5_run 1 = .ok (.iconst 0, 1) := by decide +kernel
theorem dX5_run_2 : decode cX5_run 2 = .ok (.putfield 60, 3) := by decide +kernel
theorem dX5_run_5 : decode cX5_run 5 = .ok (.aload_n 0, 1) := by decide +kernel
theorem dX5_run_6 : decode cX5_run 6 = .ok (.getfield 12, 3) := by decide +kernel
theorem dX5_run_9 : decode cX5_run 9 = .ok (.aload_n 0, 1) := by decide +kernel
theorem dX5_run_10 : decode cX5_run 10 = .ok (.getfield 21, 3) := by decide +kernel
theorem dX5_run_13 : decode cX5_run 13 = .ok (.invokevirtual 64, 3) := by decide +kernel
theorem dX5_run_16 : decode cX5_run 16 = .ok (.aload_n 0, 1) := by decide +kernel
theorem dX5_run_17 : decode cX5_run 17 = .ok (.getfield 18, 3) := by decide +kernel
theorem dX5_run_20 : decode cX5_run 20 = .ok (.aload_n 0, 1) := by decide +kernel
theorem dX5_run_21 : decode cX5_run 21 = .ok (.getfield 21, 3) := by decide +kernel
theorem dX5_run_24 : decode cX5_run 24 = .ok (.invokevirtual 64, 3) := by decide +kernel
theorem dX5_run_27 : decode cX5_run 27 = .ok (.iconst 0, 1) := by decide +kernel
theorem dX5_run_28 : decode cX5_run 28 = .ok (.istore 4, 2) := by decide +kernel
theorem dX5_run_30 : decode cX5_run 30 = .ok (.iload 4, 2) := by decide +kernel
theorem dX5_run_32 : decode cX5_run 32 = .ok (.sipush 150, 3) := by decide +kernel
theorem dX5_run_35 : decode cX5_run 35 = .ok (.if_icmp .ge 32, 3) := by decide +kernel
theorem dX5_run_38 : decode cX5_run 38 = .ok (.aload_n 0, 1) := by decide +kernel
theorem dX5_run_39 : decode cX5_run 39 = .ok (.getfield 34, 3) := by decide +kernel
theorem dX5_run_42 : decode cX5_run 42 = .ok (.iload 4, 2) := by decide +kernel
theorem dX5_run_44 : decode cX5_run 44 = .ok (.iconst 0, 1) := by decide +kernel
theorem dX5_run_45 : decode cX5_run 45 = .ok (.iastore, 1) := by decide +kernel
theorem dX5_run_46 : decode cX5_run 46 = .ok (.aload_n 0, 1) := by decide +kernel
theorem dX5_run_47 : decode cX5_run 47 = .ok (.getfield 38, 3) := by decide +kernel
theorem dX5_run_50 : decode cX5_run 50 = .ok (.iload 4, 2) := by decide +kernel
theorem dX5_run_52 : decode cX5_run 52 = .ok (.iconst 0, 1) := by decide +kernel
theorem dX5_run_53 : decode cX5_run 53 = .ok (.iastore, 1) := by decide +kernel
theorem dX5_run_54 : decode cX5_run 54 = .ok (.aload_n 0, 1) := by decide +kernel
theorem dX5_run_55 : decode cX5_run 55 = .ok (.iload 4, 2) := by decide +kernel
theorem dX5_run_57 : decode cX5_run 57 = .ok (.aload_n 1, 1) := by decide +kernel
theorem dX5_run_58 : decode cX5_run 58 = .ok (.invokevirtual 68, 3) := by decide +kernel
theorem dX5_run_61 : decode cX5_run 61 = .ok (.iinc 4 1, 3) := by decide +kernel
theorem dX5_run_64 : decode cX5_run 64 = .ok (.goto (-34), 3) := by decide +kernel
theorem dX5_run_67 : decode cX5_run 67 = .ok (.aload_n 0, 1) := by decide +kernel
theorem dX5_run_68 : decode cX5_run 68 = .ok (.getfield 60, 3) := by decide +kernel
theorem dX5_run_71 : decode cX5_run 71 = .ok (.ifCond .ne 15, 3) := by decide +kernel
theorem dX5_run_74 : decode cX5_run 74 = .ok (.aload_n 0, 1) := by decide +kernel
theorem dX5_run_75 : decode cX5_run 75 = .ok (.invokevirtual 72, 3) := by decide +kernel
theorem dX5_run_78 : decode cX5_run 78 = .ok (.aload_n 0, 1) := by decide +kernel
theorem dX5_run_79 : decode cX5_run 79 = .ok (.invokevirtual 75, 3) := by decide +kernel
theorem dX5_run_82 : decode cX5_run 82 = .ok (.aload_n 0, 1) := by decide +kernel
theorem dX5_run_83 : decode cX5_run 83 = .ok (.invokevirtual 78, 3) := by decide +kernel
theorem dX5_run_86 : decode cX5_run 86 = .ok (.aload_n 0, 1) := by decide +kernel
theorem dX5_run_87 : decode cX5_run 87 = .ok (.getfield 60, 3) := by decide +kernel
theorem dX5_run_90 : decode cX5_run 90 = .ok (.ifCond .ne 43, 3) := by decide +kernel
theorem dX5_run_93 : decode cX5_run 93 = .ok (.aload_n 0, 1) := by decide +kernel
theorem dX5_run_94 : decode cX5_run 94 = .ok (.invokevirtual 81, 3) := by decide +kernel
theorem dX5_run_97 : decode cX5_run 97 = .ok (.iconst 0, 1) := by decide +kernel
theorem dX5_run_98 : decode cX5_run 98 = .ok (.istore 4, 2) := by decide +kernel
theorem dX5_run_100 : decode cX5_run 100 = .ok (.iload 4, 2) := by decide +kernel
theorem dX5_run_102 : decode cX5_run 102 = .ok (.sipush 150, 3) := by decide +kernel
theorem dX5_run_105 : decode cX5_run 105 = .ok (.if_icmp .ge 28, 3) := by decide +kernel
theorem dX5_run_108 : decode cX5_run 108 = .ok (.aload_n 0, 1) := by decide +kernel
theorem dX5_run_109 : decode cX5_run 109 = .ok (.getfield 38, 3) := by decide +kernel
theorem dX5_run_112 : decode cX5_run 112 = .ok (.iload 4, 2) := by decide +kernel
theorem dX5_run_114 : decode cX5_run 114 = .ok (.iaload, 1) := by decide +kernel
theorem dX5_run_115 : decode cX5_run 115 = .ok (.iconst 1, 1) := by decide +kernel
theorem dX5_run_116 : decode cX5_run 116 = .ok (.if_icmp .ne 11, 3) := by decide +kernel
theorem dX5_run_119 : decode cX5_run 119 = .ok (.aload_n 0, 1) := by decide +kernel
theorem dX5_run_120 : decode cX5_run 120 = .ok (.iload 4, 2) := by decide +kernel
theorem dX5_run_122 : decode cX5_run 122 = .ok (.aload_n 2, 1) := by decide +kernel
theorem dX5_run_123 : decode cX5_run 123 = .ok (.aload_n 3, 1) := by decide +kernel
theorem dX5_run_124 : decode cX5_run 124 = .ok (.invokevirtual 84, 3) := by decide +kernel
theorem dX5_run_127 : decode cX5_run 127 = .ok (.iinc 4 1, 3) := by decide +kernel
theorem dX5_run_130 : decode cX5_run 130 = .ok (.goto (-30), 3) := by decide +kernel
theorem dX5_run_133 : decode cX5_run 133 = .ok (.aload_n 0, 1) := by decide +kernel
theorem dX5_run_134 : decode cX5_run 134 = .ok (.getfield 60, 3) := by decide +kernel
theorem dX5_run_137 : decode cX5_run 137 = .ok (.ifCond .ne 15, 3) := by decide +kernel
theorem dX5_run_140 : decode cX5_run 140 = .ok (.aload_n 0, 1) := by decide +kernel
theorem dX5_run_141 : decode cX5_run 141 = .ok (.getfield 27, 3) := by decide +kernel
theorem dX5_run_144 : decode cX5_run 144 = .ok (.aload_n 0, 1) := by decide +kernel
theorem dX5_run_145 : decode cX5_run 145 = .ok (.getfield 31, 3) := by decide +kernel
theorem dX5_run_148 : decode cX5_run 148 = .ok (.aload_n 2, 1) := by decide +kernel
theorem dX5_run_149 : decode cX5_run 149 = .ok (.invokevirtual 88, 3) := by decide +kernel
theorem dX5_run_152 : decode cX5_run 152 = .ok (.aload_n 0, 1) := by decide +kernel
theorem dX5_run_153 : decode cX5_run 153 = .ok (.getfield 60, 3) := by decide +kernel
theorem dX5_run_156 : decode cX5_run 156 = .ok (.ifCond .ne 7, 3) := by decide +kernel
theorem dX5_run_159 : decode cX5_run 159 = .ok (.iconst 1, 1) := by decide +kernel
theorem dX5_run_160 : decode cX5_run 160 = .ok (.goto 4, 3) := by decide +kernel
theorem dX5_run_163 : decode cX5_run 163 = .ok (.iconst 0, 1) := by decide +kernel
theorem dX5_run_164 : decode cX5_run 164 = .ok (.ireturn, 1) := by decide +kernel
theorem dX5_stand_0 : decode cX5_stand 0 = .ok (.aload_n 0, 1) := by decide +kernel
theorem dX5_stand_1 : decode cX5_stand 1 = .ok (.getfield 38, 3) := by decide +kernel
theorem dX5_stand_4 : decode cX5_stand 4 = .ok (.iload_n 1, 1) := by decide +kernel
theorem dX5_stand_5 : decode cX5_stand 5 = .ok (.iconst 1, 1) := by decide +kernel
theorem dX5_stand_6 : decode cX5_stand 6 = .ok (.iastore, 1) := by decide +kernel
theorem dX5_stand_7 : decode cX5_stand 7 = .ok (.aload_n 0, 1) := by decide +kernel
theorem dX5_stand_8 : decode cX5_stand 8 = .ok (.getfield 41, 3) := by decide +kernel
theorem dX5_stand_11 : decode cX5_stand 11 = .ok (.iload_n 1, 1) := by decide +kernel
theorem dX5_stand_12 : decode cX5_stand 12 = .ok (.iload_n 2, 1) := by decide +kernel
theorem dX5_stand_13 : decode cX5_stand 13 = .ok (.iastore, 1) := by decide +kernel
theorem dX5_stand_14 : decode cX5_stand 14 = .ok (.aload_n 0, 1) := by decide +kernel
theorem dX5_stand_15 : decode cX5_stand 15 = .ok (.getfield 47, 3) := by decide +kernel
theorem dX5_stand_18 : decode cX5_stand 18 = .ok (.iload_n 1, 1) := by decide +kernel
theorem dX5_stand_19 : decode cX5_stand 19 = .ok (.lload_n 3, 1) := by decide +kernel
theorem dX5_stand_20 : decode cX5_stand 20 = .ok (.lastore, 1) := by decide +kernel
theorem dX5_stand_21 : decode cX5_stand 21 = .ok (.aload_n 0, 1) := by decide +kernel
theorem dX5_stand_22 : decode cX5_stand 22 = .ok (.getfield 44, 3) := by decide +kernel
theorem dX5_stand_25 : decode cX5_stand 25 = .ok (.iload_n 1, 1) := by decide +kernel
theorem dX5_stand_26 : decode cX5_stand 26 = .ok (.iload 5, 2) := by decide +kernel
theorem dX5_stand_28 : decode cX5_stand 28 = .ok (.iastore, 1) := by decide +kernel
theorem dX5_stand_29 : decode cX5_stand 29 = .ok (.return_, 1) := by decide +kernel
theorem dX5_tellInto_0 : decode cX5_tellInto 0 = .ok (.iconst 0, 1) := by decide +kernel
theorem dX5_tellInto_1 : decode cX5_tellInto 1 = .ok (.istore_n 2, 1) := by decide +kernel
theorem dX5_tellInto_2 : decode cX5_tellInto 2 = .ok (.iconst 1, 1) := by decide +kernel
theorem dX5_tellInto_3 : decode cX5_tellInto 3 = .ok (.istore_n 3, 1) := by decide +kernel
theorem dX5_tellInto_4 : decode cX5_tellInto 4 = .ok (.iload_n 3, 1) := by decide +kernel
theorem dX5_tellInto_5 : decode cX5_tellInto 5 = .ok (.bipush 8, 2) := by decide +kernel
theorem dX5_tellInto_7 : decode cX5_tellInto 7 = .ok (.if_icmp .gt 67, 3) := by decide +kernel
theorem dX5_tellInto_10 : decode cX5_tellInto 10 = .ok (.aload_n 0, 1) := by decide +kernel
theorem dX5_tellInto_11 : decode cX5_tellInto 11 = .ok (.getfield 60, 3) := by decide +kernel
theorem dX5_tellInto_14 : decode cX5_tellInto 14 = .ok (.ifCond .eq 60, 3) := by decide +kernel
theorem dX5_tellInto_17 : decode cX5_tellInto 17 = .ok (.iconst 0, 1) := by decide +kernel
theorem dX5_tellInto_18 : decode cX5_tellInto 18 = .ok (.istore 4, 2) := by decide +kernel
theorem dX5_tellInto_20 : decode cX5_tellInto 20 = .ok (.iload 4, 2) := by decide +kernel
theorem dX5_tellInto_22 : decode cX5_tellInto 22 = .ok (.sipush 150, 3) := by decide +kernel
theorem dX5_tellInto_25 : decode cX5_tellInto 25 = .ok (.if_icmp .ge 43, 3) := by decide +kernel
theorem dX5_tellInto_28 : decode cX5_tellInto 28 = .ok (.aload_n 0, 1) := by decide +kernel
theorem dX5_tellInto_29 : decode cX5_tellInto 29 = .ok (.getfield 34, 3) := by decide +kernel
theorem dX5_tellInto_32 : decode cX5_tellInto 32 = .ok (.iload 4, 2) := by decide +kernel
theorem dX5_tellInto_34 : decode cX5_tellInto 34 = .ok (.iaload, 1) := by decide +kernel
theorem dX5_tellInto_35 : decode cX5_tellInto 35 = .ok (.iconst 1, 1) := by decide +kernel
theorem dX5_tellInto_36 : decode cX5_tellInto 36 = .ok (.iload_n 3, 1) := by decide +kernel
theorem dX5_tellInto_37 : decode cX5_tellInto 37 = .ok (.ishl, 1) := by decide +kernel
theorem dX5_tellInto_38 : decode cX5_tellInto 38 = .ok (.iand, 1) := by decide +kernel
theorem dX5_tellInto_39 : decode cX5_tellInto 39 = .ok (.ifCond .eq 23, 3) := by decide +kernel
theorem dX5_tellInto_42 : decode cX5_tellInto 42 = .ok (.iload_n 2, 1) := by decide +kernel
theorem dX5_tellInto_43 : decode cX5_tellInto 43 = .ok (.aload_n 1, 1) := by decide +kernel
theorem dX5_tellInto_44 : decode cX5_tellInto 44 = .ok (.arraylength, 1) := by decide +kernel
theorem dX5_tellInto_45 : decode cX5_tellInto 45 = .ok (.if_icmp .ge 17, 3) := by decide +kernel
theorem dX5_tellInto_48 : decode cX5_tellInto 48 = .ok (.aload_n 1, 1) := by decide +kernel
theorem dX5_tellInto_49 : decode cX5_tellInto 49 = .ok (.iload_n 2, 1) := by decide +kernel
theorem dX5_tellInto_50 : decode cX5_tellInto 50 = .ok (.iload_n 3, 1) := by decide +kernel
theorem dX5_tellInto_51 : decode cX5_tellInto 51 = .ok (.sipush 1000, 3) := by decide +kernel
theorem dX5_tellInto_54 : decode cX5_tellInto 54 = .ok (.imul, 1) := by decide +kernel
theorem dX5_tellInto_55 : decode cX5_tellInto 55 = .ok (.iload 4, 2) := by decide +kernel
theorem dX5_tellInto_57 : decode cX5_tellInto 57 = .ok (.iadd, 1) := by decide +kernel
theorem dX5_tellInto_58 : decode cX5_tellInto 58 = .ok (.iastore, 1) := by decide +kernel
theorem dX5_tellInto_59 : decode cX5_tellInto 59 = .ok (.iinc 2 1, 3) := by decide +kernel
theorem dX5_tellInto_62 : decode cX5_tellInto 62 = .ok (.iinc 4 1, 3) := by decide +kernel
theorem dX5_tellInto_65 : decode cX5_tellInto 65 = .ok (.goto (-45), 3) := by decide +kernel
theorem dX5_tellInto_68 : decode cX5_tellInto 68 = .ok (.iinc 3 1, 3) := by decide +kernel
theorem dX5_tellInto_71 : decode cX5_tellInto 71 = .ok (.goto (-67), 3) := by decide +kernel
theorem dX5_tellInto_74 : decode cX5_tellInto 74 = .ok (.iload_n 2, 1) := by decide +kernel
theorem dX5_tellInto_75 : decode cX5_tellInto 75 = .ok (.ireturn, 1) := by decide +kernel
theorem dX6_addName_0 : decode cX6_addName 0 = .ok (.aload_n 2, 1) := by decide +kernel
theorem dX6_addName_1 : decode cX6_addName 1 = .ok (.iload_n 1, 1) := by decide +kernel
theorem dX6_addName_2 : decode cX6_addName 2 = .ok (.invokevirtual 53, 3) := by decide +kernel
theorem dX6_addName_5 : decode cX6_addName 5 = .ok (.ifCond .ne 4, 3) := by decide +kernel
theorem dX6_addName_8 : decode cX6_addName 8 = .ok (.return_, 1) := by decide +kernel
theorem dX6_addName_9 : decode cX6_addName 9 = .ok (.aload_n 2, 1) := by decide +kernel
theorem dX6_addName_10 : decode cX6_addName 10 = .ok (.getfield 59, 3) := by decide +kernel
theorem dX6_addName_13 : decode cX6_addName 13 = .ok (.iload_n 1, 1) := by decide +kernel
theorem dX6_addName_14 : decode cX6_addName 14 = .ok (.iaload, 1) := by decide +kernel
theorem dX6_addName_15 : decode cX6_addName 15 = .ok (.istore_n 3, 1) := by decide +kernel
theorem dX6_addName_16 : decode cX6_addName 16 = .ok (.aload_n 2, 1) := by decide +kernel
theorem dX6_addName_17 : decode cX6_addName 17 = .ok (.getfield 62, 3) := by decide +kernel
theorem dX6_addName_20 : decode cX6_addName 20 = .ok (.iload_n 1, 1) := by decide +kernel
theorem dX6_addName_21 : decode cX6_addName 21 = .ok (.iaload, 1) := by decide +kernel
theorem dX6_addName_22 : decode cX6_addName 22 = .ok (.iload_n 3, 1) := by decide +kernel
theorem dX6_addName_23 : decode cX6_addName 23 = .ok (.isub, 1) := by decide +kernel
theorem dX6_addName_24 : decode cX6_addName 24 = .ok (.istore 4, 2) := by decide +kernel
theorem dX6_addName_26 : decode cX6_addName 26 = .ok (.aload_n 0, 1) := by decide +kernel
theorem dX6_addName_27 : decode cX6_addName 27 = .ok (.getfield 9, 3) := by decide +kernel
theorem dX6_addName_30 : decode cX6_addName 30 = .ok (.aload_n 0, 1) := by decide +kernel
theorem dX6_addName_31 : decode cX6_addName 31 = .ok (.getfield 15, 3) := by decide +kernel
theorem dX6_addName_34 : decode cX6_addName 34 = .ok (.if_icmp .lt 37, 3) := by decide +kernel
theorem dX6_addName_37 : decode cX6_addName 37 = .ok (.aload_n 0, 1) := by decide +kernel
theorem dX6_addName_38 : decode cX6_addName 38 = .ok (.getfield 9, 3) := by decide +kernel
theorem dX6_addName_41 : decode cX6_addName 41 = .ok (.aload_n 0, 1) := by decide +kernel
theorem dX6_addName_42 : decode cX6_addName 42 = .ok (.getfield 15, 3) := by decide +kernel
theorem dX6_addName_45 : decode cX6_addName 45 = .ok (.isub, 1) := by decide +kernel
theorem dX6_addName_46 : decode cX6_addName 46 = .ok (.iload 4, 2) := by decide +kernel
theorem dX6_addName_48 : decode cX6_addName 48 = .ok (.if_icmp .ge 23, 3) := by decide +kernel
theorem dX6_addName_51 : decode cX6_addName 51 = .ok (.aload_n 0, 1) := by decide +kernel
theorem dX6_addName_52 : decode cX6_addName 52 = .ok (.aload_n 2, 1) := by decide +kernel
theorem dX6_addName_53 : decode cX6_addName 53 = .ok (.getfield 65, 3) := by decide +kernel
theorem dX6_addName_56 : decode cX6_addName 56 = .ok (.iload_n 3, 1) := by decide +kernel
theorem dX6_addName_57 : decode cX6_addName 57 = .ok (.aload_n 0, 1) := by decide +kernel
theorem dX6_addName_58 : decode cX6_addName 58 = .ok (.getfield 9, 3) := by decide +kernel
theorem dX6_addName_61 : decode cX6_addName 61 = .ok (.iadd, 1) := by decide +kernel
theorem dX6_addName_62 : decode cX6_addName 62 = .ok (.aload_n 0, 1) := by decide +kernel
theorem dX6_addName_63 : decode cX6_addName 63 = .ok (.getfield 15, 3) := by decide +kernel
theorem dX6_addName_66 : decode cX6_addName 66 = .ok (.isub, 1) := by decide +kernel
theorem dX6_addName_67 : decode cX6_addName 67 = .ok (.iaload, 1) := by decide +kernel
theorem dX6_addName_68 : decode cX6_addName 68 = .ok (.putfield 18, 3) := by decide +kernel
theorem dX6_addName_71 : decode cX6_addName 71 = .ok (.aload_n 0, 1) := by decide +kernel
theorem dX6_addName_72 : decode cX6_addName 72 = .ok (.dup, 1) := by decide +kernel
theorem dX6_addName_73 : decode cX6_addName 73 = .ok (.getfield 15, 3) := by decide +kernel
theorem dX6_addName_76 : decode cX6_addName 76 = .ok (.iload 4, 2) := by decide +kernel
theorem dX6_addName_78 : decode cX6_addName 78 = .ok (.iadd, 1) := by decide +kernel
theorem dX6_addName_79 : decode cX6_addName 79 = .ok (.putfield 15, 3) := by decide +kernel
theorem dX6_addName_82 : decode cX6_addName 82 = .ok (.return_, 1) := by decide +kernel
theorem dX6_addSign_0 : decode cX6_addSign 0 = .ok (.aload_n 0, 1) := by decide +kernel
theorem dX6_addSign_1 : decode cX6_addSign 1 = .ok (.getfield 15, 3) := by decide +kernel
theorem dX6_addSign_4 : decode cX6_addSign 4 = .ok (.aload_n 0, 1) := by decide +kernel
theorem dX6_addSign_5 : decode cX6_addSign 5 = .ok (.getfield 9, 3) := by decide +kernel
theorem dX6_addSign_8 : decode cX6_addSign 8 = .ok (.if_icmp .ne 8, 3) := by decide +kernel
theorem dX6_addSign_11 : decode cX6_addSign 11 = .ok (.aload_n 0, 1) := by decide +kernel
theorem dX6_addSign_12 : decode cX6_addSign 12 = .ok (.iload_n 1, 1) := by decide +kernel
theorem dX6_addSign_13 : decode cX6_addSign 13 = .ok (.putfield 18, 3) := by decide +kernel
theorem dX6_addSign_16 : decode cX6_addSign 16 = .ok (.aload_n 0, 1) := by decide +kernel
theorem dX6_addSign_17 : decode cX6_addSign 17 = .ok (.dup, 1) := by decide +kernel
theorem dX6_addSign_18 : decode cX6_addSign 18 = .ok (.getfield 15, 3) := by decide +kernel
theorem dX6_addSign_21 : decode cX6_addSign 21 = .ok (.iconst 1, 1) := by decide +kernel
theorem dX6_addSign_22 : decode cX6_addSign 22 = .ok (.iadd, 1) := by decide +kernel
theorem dX6_addSign_23 : decode cX6_addSign 23 = .ok (.putfield 15, 3) := by decide +kernel
theorem dX6_addSign_26 : decode cX6_addSign 26 = .ok (.return_, 1) := by decide +kernel
theorem dX6_addSigns_0 : decode cX6_addSigns 0 = .ok (.iconst 0, 1) := by decide +kernel
theorem dX6_addSigns_1 : decode cX6_addSigns 1 = .ok (.istore_n 3, 1) := by decide +kernel
theorem dX6_addSigns_2 : decode cX6_addSigns 2 = .ok (.iload_n 3, 1) := by decide +kernel
theorem dX6_addSigns_3 : decode cX6_addSigns 3 = .ok (.iload_n 2, 1) := by decide +kernel
theorem dX6_addSigns_4 : decode cX6_addSigns 4 = .ok (.if_icmp .ge 14, 3) := by decide +kernel
theorem dX6_addSigns_7 : decode cX6_addSigns 7 = .ok (.aload_n 0, 1) := by decide +kernel
theorem dX6_addSigns_8 : decode cX6_addSigns 8 = .ok (.iload_n 1, 1) := by decide +kernel
theorem dX6_addSigns_9 : decode cX6_addSigns 9 = .ok (.invokevirtual 21, 3) := by decide +kernel
theorem dX6_addSigns_12 : decode cX6_addSigns 12 = .ok (.iinc 3 1, 3) := by decide +kernel
theorem dX6_addSigns_15 : decode cX6_addSigns 15 = .ok (.goto (-13), 3) := by decide +kernel
theorem dX6_addSigns_18 : decode cX6_addSigns 18 = .ok (.return_, 1) := by decide +kernel
theorem dX6_addTree_0 : decode cX6_addTree 0 = .ok (.iconst 0, 1) := by decide +kernel
theorem dX6_addTree_1 : decode cX6_addTree 1 = .ok (.istore_n 3, 1) := by decide +kernel
theorem dX6_addTree_2 : decode cX6_addTree 2 = .ok (.iconst 0, 1) := by decide +kernel
theorem dX6_addTree_3 : decode cX6_addTree 3 = .ok (.istore 4, 2) := by decide +kernel
theorem dX6_addTree_5 : decode cX6_addTree 5 = .ok (.iload 4, 2) := by decide +kernel
theorem dX6_addTree_7 : decode cX6_addTree 7 = .ok (.aload_n 1, 1) := by decide +kernel
theorem dX6_addTree_8 : decode cX6_addTree 8 = .ok (.getfield 25, 3) := by decide +kernel
theorem dX6_addTree_11 : decode cX6_addTree 11 = .ok (.if_icmp .ge 92, 3) := by decide +kernel
theorem dX6_addTree_14 : decode cX6_addTree 14 = .ok (.iload 4, 2) := by decide +kernel
theorem dX6_addTree_16 : decode cX6_addTree 16 = .ok (.ifCond .le 50, 3) := by decide +kernel
theorem dX6_addTree_19 : decode cX6_addTree 19 = .ok (.aload_n 0, 1) := by decide +kernel
theorem dX6_addTree_20 : decode cX6_addTree 20 = .ok (.bipush 40, 2) := by decide +kernel
theorem dX6_addTree_22 : decode cX6_addTree 22 = .ok (.aload_n 1, 1) := by decide +kernel
theorem dX6_addTree_23 : decode cX6_addTree 23 = .ok (.getfield 30, 3) := by decide +kernel
theorem dX6_addTree_26 : decode cX6_addTree 26 = .ok (.iload 4, 2) := by decide +kernel
theorem dX6_addTree_28 : decode cX6_addTree 28 = .ok (.iaload, 1) := by decide +kernel
theorem dX6_addTree_29 : decode cX6_addTree 29 = .ok (.iload_n 3, 1) := by decide +kernel
theorem dX6_addTree_30 : decode cX6_addTree 30 = .ok (.isub, 1) := by decide +kernel
theorem dX6_addTree_31 : decode cX6_addTree 31 = .ok (.invokevirtual 34, 3) := by decide +kernel
theorem dX6_addTree_34 : decode cX6_addTree 34 = .ok (.aload_n 0, 1) := by decide +kernel
theorem dX6_addTree_35 : decode cX6_addTree 35 = .ok (.bipush 41, 2) := by decide +kernel
theorem dX6_addTree_37 : decode cX6_addTree 37 = .ok (.iload_n 3, 1) := by decide +kernel
theorem dX6_addTree_38 : decode cX6_addTree 38 = .ok (.aload_n 1, 1) := by decide +kernel
theorem dX6_addTree_39 : decode cX6_addTree 39 = .ok (.getfield 30, 3) := by decide +kernel
theorem dX6_addTree_42 : decode cX6_addTree 42 = .ok (.iload 4, 2) := by decide +kernel
theorem dX6_addTree_44 : decode cX6_addTree 44 = .ok (.iaload, 1) := by decide +kernel
theorem dX6_addTree_45 : decode cX6_addTree 45 = .ok (.isub, 1) := by decide +kernel
theorem dX6_addTree_46 : decode cX6_addTree 46 = .ok (.invokevirtual 34, 3) := by decide +kernel
theorem dX6_addTree_49 : decode cX6_addTree 49 = .ok (.aload_n 1, 1) := by decide +kernel
theorem dX6_addTree_50 : decode cX6_addTree 50 = .ok (.getfield 30, 3) := by decide +kernel
theorem dX6_addTree_53 : decode cX6_addTree 53 = .ok (.iload 4, 2) := by decide +kernel
theorem dX6_addTree_55 : decode cX6_addTree 55 = .ok (.iaload, 1) := by decide +kernel
theorem dX6_addTree_56 : decode cX6_addTree 56 = .ok (.iload_n 3, 1) := by decide +kernel
theorem dX6_addTree_57 : decode cX6_addTree 57 = .ok (.if_icmp .gt 9, 3) := by decide +kernel
theorem dX6_addTree_60 : decode cX6_addTree 60 = .ok (.aload_n 0, 1) := by decide +kernel
theorem dX6_addTree_61 : decode cX6_addTree 61 = .ok (.bipush 32, 2) := by decide +kernel
theorem dX6_addTree_63 : decode cX6_addTree 63 = .ok (.invokevirtual 21, 3) := by decide +kernel
theorem dX6_addTree_66 : decode cX6_addTree 66 = .ok (.aload_n 1, 1) := by decide +kernel
theorem dX6_addTree_67 : decode cX6_addTree 67 = .ok (.getfield 30, 3) := by decide +kernel
theorem dX6_addTree_70 : decode cX6_addTree 70 = .ok (.iload 4, 2) := by decide +kernel
theorem dX6_addTree_72 : decode cX6_addTree 72 = .ok (.iaload, 1) := by decide +kernel
theorem dX6_addTree_73 : decode cX6_addTree 73 = .ok (.istore_n 3, 1) := by decide +kernel
theorem dX6_addTree_74 : decode cX6_addTree 74 = .ok (.aload_n 0, 1) := by decide +kernel
theorem dX6_addTree_75 : decode cX6_addTree 75 = .ok (.aload_n 1, 1) := by decide +kernel
theorem dX6_addTree_76 : decode cX6_addTree 76 = .ok (.getfield 38, 3) := by decide +kernel
theorem dX6_addTree_79 : decode cX6_addTree 79 = .ok (.iload 4, 2) := by decide +kernel
theorem dX6_addTree_81 : decode cX6_addTree 81 = .ok (.iaload, 1) := by decide +kernel
theorem dX6_addTree_82 : decode cX6_addTree 82 = .ok (.aload_n 2, 1) := by decide +kernel
theorem dX6_addTree_83 : decode cX6_addTree 83 = .ok (.invokevirtual 41, 3) := by decide +kernel
theorem dX6_addTree_86 : decode cX6_addTree 86 = .ok (.aload_n 0, 1) := by decide +kernel
theorem dX6_addTree_87 : decode cX6_addTree 87 = .ok (.aload_n 1, 1) := by decide +kernel
theorem dX6_addTree_88 : decode cX6_addTree 88 = .ok (.getfield 45, 3) := by decide +kernel
theorem dX6_addTree_91 : decode cX6_addTree 91 = .ok (.iload 4, 2) := by decide +kernel
theorem dX6_addTree_93 : decode cX6_addTree 93 = .ok (.laload, 1) := by decide +kernel
theorem dX6_addTree_94 : decode cX6_addTree 94 = .ok (.invokevirtual 49, 3) := by decide +kernel
theorem dX6_addTree_97 : decode cX6_addTree 97 = .ok (.iinc 4 1, 3) := by decide +kernel
theorem dX6_addTree_100 : decode cX6_addTree 100 = .ok (.goto (-95), 3) := by decide +kernel
theorem dX6_addTree_103 : decode cX6_addTree 103 = .ok (.aload_n 0, 1) := by decide +kernel
theorem dX6_addTree_104 : decode cX6_addTree 104 = .ok (.bipush 41, 2) := by decide +kernel
theorem dX6_addTree_106 : decode cX6_addTree 106 = .ok (.iload_n 3, 1) := by decide +kernel
theorem dX6_addTree_107 : decode cX6_addTree 107 = .ok (.iconst 1, 1) := by decide +kernel
theorem dX6_addTree_108 : decode cX6_addTree 108 = .ok (.isub, 1) := by decide +kernel
theorem dX6_addTree_109 : decode cX6_addTree 109 = .ok (.invokevirtual 34, 3) := by decide +kernel
theorem dX6_addTree_112 : decode cX6_addTree 112 = .ok (.return_, 1) := by decide +kernel
theorem dX6_addWord_0 : decode cX6_addWord 0 = .ok (.lload_n 1, 1) := by decide +kernel
theorem dX6_addWord_1 : decode cX6_addWord 1 = .ok (.lconst 0, 1) := by decide +kernel
theorem dX6_addWord_2 : decode cX6_addWord 2 = .ok (.lcmp, 1) := by decide +kernel
theorem dX6_addWord_3 : decode cX6_addWord 3 = .ok (.ifCond .ne 4, 3) := by decide +kernel
theorem dX6_addWord_6 : decode cX6_addWord 6 = .ok (.return_, 1) := by decide +kernel
theorem dX6_addWord_7 : decode cX6_addWord 7 = .ok (.aload_n 0, 1) := by decide +kernel
theorem dX6_addWord_8 : decode cX6_addWord 8 = .ok (.bipush 123, 2) := by decide +kernel
theorem dX6_addWord_10 : decode cX6_addWord 10 = .ok (.invokevirtual 21, 3) := by decide +kernel
theorem dX6_addWord_13 : decode cX6_addWord 13 = .ok (.bipush 56, 2) := by decide +kernel
theorem dX6_addWord_15 : decode cX6_addWord 15 = .ok (.istore_n 3, 1) := by decide +kernel
theorem dX6_addWord_16 : decode cX6_addWord 16 = .ok (.iload_n 3, 1) := by decide +kernel
theorem dX6_addWord_17 : decode cX6_addWord 17 = .ok (.ifCond .lt 30, 3) := by decide +kernel
theorem dX6_addWord_20 : decode cX6_addWord 20 = .ok (.lload_n 1, 1) := by decide +kernel
theorem dX6_addWord_21 : decode cX6_addWord 21 = .ok (.iload_n 3, 1) := by decide +kernel
theorem dX6_addWord_22 : decode cX6_addWord 22 = .ok (.lushr, 1) := by decide +kernel
theorem dX6_addWord_23 : decode cX6_addWord 23 = .ok (.l2i, 1) := by decide +kernel
theorem dX6_addWord_24 : decode cX6_addWord 24 = .ok (.sipush 255, 3) := by decide +kernel
theorem dX6_addWord_27 : decode cX6_addWord 27 = .ok (.iand, 1) := by decide +kernel
theorem dX6_addWord_28 : decode cX6_addWord 28 = .ok (.istore 4, 2) := by decide +kernel
theorem dX6_addWord_30 : decode cX6_addWord 30 = .ok (.iload 4, 2) := by decide +kernel
theorem dX6_addWord_32 : decode cX6_addWord 32 = .ok (.ifCond .eq 9, 3) := by decide +kernel
theorem dX6_addWord_35 : decode cX6_addWord 35 = .ok (.aload_n 0, 1) := by decide +kernel
theorem dX6_addWord_36 : decode cX6_addWord 36 = .ok (.iload 4, 2) := by decide +kernel
theorem dX6_addWord_38 : decode cX6_addWord 38 = .ok (.invokevirtual 21, 3) := by decide +kernel
theorem dX6_addWord_41 : decode cX6_addWord 41 = .ok (.iinc 3 (-8), 3) := by decide +kernel
theorem dX6_addWord_44 : decode cX6_addWord 44 = .ok (.goto (-28), 3) := by decide +kernel
theorem dX6_addWord_47 : decode cX6_addWord 47 = .ok (.aload_n 0, 1) := by decide +kernel
theorem dX6_addWord_48 : decode cX6_addWord 48 = .ok (.bipush 125, 2) := by decide +kernel
theorem dX6_addWord_50 : decode cX6_addWord 50 = .ok (.invokevirtual 21, 3) := by decide +kernel
theorem dX6_addWord_53 : decode cX6_addWord 53 = .ok (.return_, 1) := by decide +kernel
theorem dX6_start_0 : decode cX6_start 0 = .ok (.aload_n 0, 1) := by decide +kernel
theorem dX6_start_1 : decode cX6_start 1 = .ok (.iload_n 1, 1) := by decide +kernel
theorem dX6_start_2 : decode cX6_start 2 = .ok (.putfield 9, 3) := by decide +kernel
theorem dX6_start_5 : decode cX6_start 5 = .ok (.aload_n 0, 1) := by decide +kernel
theorem dX6_start_6 : decode cX6_start 6 = .ok (.iconst 0, 1) := by decide +kernel
theorem dX6_start_7 : decode cX6_start 7 = .ok (.putfield 15, 3) := by decide +kernel
theorem dX6_start_10 : decode cX6_start 10 = .ok (.aload_n 0, 1) := by decide +kernel
theorem dX6_start_11 : decode cX6_start 11 = .ok (.iconst (-1), 1) := by decide +kernel
theorem dX6_start_12 : decode cX6_start 12 = .ok (.putfield 18, 3) := by decide +kernel
theorem dX6_start_15 : decode cX6_start 15 = .ok (.return_, 1) := by decide +kernel
theorem dX7_clear_0 : decode cX7_clear 0 = .ok (.aload_n 0, 1) := by decide +kernel
theorem dX7_clear_1 : decode cX7_clear 1 = .ok (.iconst 0, 1) := by decide +kernel
theorem dX7_clear_2 : decode cX7_clear 2 = .ok (.putfield 19, 3) := by decide +kernel
theorem dX7_clear_5 : decode cX7_clear 5 = .ok (.iconst 0, 1) := by decide +kernel
theorem dX7_clear_6 : decode cX7_clear 6 = .ok (.istore_n 1, 1) := by decide +kernel
theorem dX7_clear_7 : decode cX7_clear 7 = .ok (.iload_n 1, 1) := by decide +kernel
theorem dX7_clear_8 : decode cX7_clear 8 = .ok (.aload_n 0, 1) := by decide +kernel
theorem dX7_clear_9 : decode cX7_clear 9 = .ok (.getfield 9, 3) := by decide +kernel
theorem dX7_clear_12 : decode cX7_clear 12 = .ok (.arraylength, 1) := by decide +kernel
theorem dX7_clear_13 : decode cX7_clear 13 = .ok (.if_icmp .ge 16, 3) := by decide +kernel
theorem dX7_clear_16 : decode cX7_clear 16 = .ok (.aload_n 0, 1) := by decide +kernel
theorem dX7_clear_17 : decode cX7_clear 17 = .ok (.getfield 9, 3) := by decide +kernel
theorem dX7_clear_20 : decode cX7_clear 20 = .ok (.iload_n 1, 1) := by decide +kernel
theorem dX7_clear_21 : decode cX7_clear 21 = .ok (.iconst 0, 1) := by decide +kernel
theorem dX7_clear_22 : decode cX7_clear 22 = .ok (.iastore, 1) := by decide +kernel
theorem dX7_clear_23 : decode cX7_clear 23 = .ok (.iinc 1 1, 3) := by decide +kernel
theorem dX7_clear_26 : decode cX7_clear 26 = .ok (.goto (-19), 3) := by decide +kernel
theorem dX7_clear_29 : decode cX7_clear 29 = .ok (.return_, 1) := by decide +kernel
theorem dX7_editionFor_0 : decode cX7_editionFor 0 = .ok (.iload_n 1, 1) := by decide +kernel
theorem dX7_editionFor_1 : decode cX7_editionFor 1 = .ok (.iload_n 2, 1) := by decide +kernel
theorem dX7_editionFor_2 : decode cX7_editionFor 2 = .ok (.invokestatic 15, 3) := by decide +kernel
theorem dX7_editionFor_5 : decode cX7_editionFor 5 = .ok (.istore_n 3, 1) := by decide +kernel
theorem dX7_editionFor_6 : decode cX7_editionFor 6 = .ok (.iload_n 3, 1) := by decide +kernel
theorem dX7_editionFor_7 : decode cX7_editionFor 7 = .ok (.iconst (-1), 1) := by decide +kernel
theorem dX7_editionFor_8 : decode cX7_editionFor 8 = .ok (.if_icmp .ne 7, 3) := by decide +kernel
theorem dX7_editionFor_11 : decode cX7_editionFor 11 = .ok (.iconst (-1), 1) := by decide +kernel
theorem dX7_editionFor_12 : decode cX7_editionFor 12 = .ok (.goto 11, 3) := by decide +kernel
theorem dX7_editionFor_15 : decode cX7_editionFor 15 = .ok (.aload_n 0, 1) := by decide +kernel
theorem dX7_editionFor_16 : decode cX7_editionFor 16 = .ok (.getfield 9, 3) := by decide +kernel
theorem dX7_editionFor_19 : decode cX7_editionFor 19 = .ok (.iload_n 3, 1) := by decide +kernel
theorem dX7_editionFor_20 : decode cX7_editionFor 20 = .ok (.iaload, 1) := by decide +kernel
theorem dX7_editionFor_21 : decode cX7_editionFor 21 = .ok (.iconst 1, 1) := by decide +kernel
theorem dX7_editionFor_22 : decode cX7_editionFor 22 = .ok (.isub, 1) := by decide +kernel
theorem dX7_editionFor_23 : decode cX7_editionFor 23 = .ok (.ireturn, 1) := by decide +kernel
theorem dX7_rowOf_0 : decode cX7_rowOf 0 = .ok (.iload_n 0, 1) := by decide +kernel
theorem dX7_rowOf_1 : decode cX7_rowOf 1 = .ok (.ifCond .lt 24, 3) := by decide +kernel
theorem dX7_rowOf_4 : decode cX7_rowOf 4 = .ok (.iload_n 0, 1) := by decide +kernel
theorem dX7_rowOf_5 : decode cX7_rowOf 5 = .ok (.sipush 150, 3) := by decide +kernel
theorem dX7_rowOf_8 : decode cX7_rowOf 8 = .ok (.if_icmp .ge 17, 3) := by decide +kernel
theorem dX7_rowOf_11 : decode cX7_rowOf 11 = .ok (.iload_n 1, 1) := by decide +kernel
theorem dX7_rowOf_12 : decode cX7_rowOf 12 = .ok (.iconst 1, 1) := by decide +kernel
theorem dX7_rowOf_13 : decode cX7_rowOf 13 = .ok (.if_icmp .lt 12, 3) := by decide +kernel
theorem dX7_rowOf_16 : decode cX7_rowOf 16 = .ok (.iload_n 1, 1) := by decide +kernel
theorem dX7_rowOf_17 : decode cX7_rowOf 17 = .ok (.iconst 3, 1) := by decide +kernel
theorem dX7_rowOf_18 : decode cX7_rowOf 18 = .ok (.if_icmp .gt 7, 3) := by decide +kernel
theorem dX7_rowOf_21 : decode cX7_rowOf 21 = .ok (.iconst 1, 1) := by decide +kernel
theorem dX7_rowOf_22 : decode cX7_rowOf 22 = .ok (.goto 4, 3) := by decide +kernel
theorem dX7_rowOf_25 : decode cX7_rowOf 25 = .ok (.iconst 0, 1) := by decide +kernel
theorem dX7_rowOf_26 : decode cX7_rowOf 26 = .ok (.istore_n 2, 1) := by decide +kernel
theorem dX7_rowOf_27 : decode cX7_rowOf 27 = .ok (.iload_n 2, 1) := by decide +kernel
theorem dX7_rowOf_28 : decode cX7_rowOf 28 = .ok (.ifCond .eq 13, 3) := by decide +kernel
theorem dX7_rowOf_31 : decode cX7_rowOf 31 = .ok (.iload_n 0, 1) := by decide +kernel
theorem dX7_rowOf_32 : decode cX7_rowOf 32 = .ok (.iconst 3, 1) := by decide +kernel
theorem dX7_rowOf_33 : decode cX7_rowOf 33 = .ok (.imul, 1) := by decide +kernel
theorem dX7_rowOf_34 : decode cX7_rowOf 34 = .ok (.iload_n 1, 1) := by decide +kernel
theorem dX7_rowOf_35 : decode cX7_rowOf 35 = .ok (.iadd, 1) := by decide +kernel
theorem dX7_rowOf_36 : decode cX7_rowOf 36 = .ok (.iconst 1, 1) := by decide +kernel
theorem dX7_rowOf_37 : decode cX7_rowOf 37 = .ok (.isub, 1) := by decide +kernel
theorem dX7_rowOf_38 : decode cX7_rowOf 38 = .ok (.goto 4, 3) := by decide +kernel
theorem dX7_rowOf_41 : decode cX7_rowOf 41 = .ok (.iconst (-1), 1) := by decide +kernel
theorem dX7_rowOf_42 : decode cX7_rowOf 42 = .ok (.ireturn, 1) := by decide +kernel
theorem dX7_set_0 : decode cX7_set 0 = .ok (.iload_n 1, 1) := by decide +kernel
theorem dX7_set_1 : decode cX7_set 1 = .ok (.iload_n 2, 1) := by decide +kernel
theorem dX7_set_2 : decode cX7_set 2 = .ok (.invokestatic 15, 3) := by decide +kernel
theorem dX7_set_5 : decode cX7_set 5 = .ok (.istore 4, 2) := by decide +kernel
theorem dX7_set_7 : decode cX7_set 7 = .ok (.iload 4, 2) := by decide +kernel
theorem dX7_set_9 : decode cX7_set 9 = .ok (.iconst (-1), 1) := by decide +kernel
theorem dX7_set_10 : decode cX7_set 10 = .ok (.if_icmp .ne 4, 3) := by decide +kernel
theorem dX7_set_13 : decode cX7_set 13 = .ok (.return_, 1) := by decide +kernel
theorem dX7_set_14 : decode cX7_set 14 = .ok (.aload_n 0, 1) := by decide +kernel
theorem dX7_set_15 : decode cX7_set 15 = .ok (.getfield 9, 3) := by decide +kernel
theorem dX7_set_18 : decode cX7_set 18 = .ok (.iload 4, 2) := by decide +kernel
theorem dX7_set_20 : decode cX7_set 20 = .ok (.iaload, 1) := by decide +kernel
theorem dX7_set_21 : decode cX7_set 21 = .ok (.ifCond .ne 13, 3) := by decide +kernel
theorem dX7_set_24 : decode cX7_set 24 = .ok (.aload_n 0, 1) := by decide +kernel
theorem dX7_set_25 : decode cX7_set 25 = .ok (.dup, 1) := by decide +kernel
theorem dX7_set_26 : decode cX7_set 26 = .ok (.getfield 19, 3) := by decide +kernel
theorem dX7_set_29 : decode cX7_set 29 = .ok (.iconst 1, 1) := by decide +kernel
theorem dX7_set_30 : decode cX7_set 30 = .ok (.iadd, 1) := by decide +kernel
theorem dX7_set_31 : decode cX7_set 31 = .ok (.putfield 19, 3) := by decide +kernel
theorem dX7_set_34 : decode cX7_set 34 = .ok (.aload_n 0, 1) := by decide +kernel
theorem dX7_set_35 : decode cX7_set 35 = .ok (.getfield 9, 3) := by decide +kernel
theorem dX7_set_38 : decode cX7_set 38 = .ok (.iload 4, 2) := by decide +kernel
theorem dX7_set_40 : decode cX7_set 40 = .ok (.iload_n 3, 1) := by decide +kernel
theorem dX7_set_41 : decode cX7_set 41 = .ok (.iconst 1, 1) := by decide +kernel
theorem dX7_set_42 : decode cX7_set 42 = .ok (.iadd, 1) := by decide +kernel
theorem dX7_set_43 : decode cX7_set 43 = .ok (.iastore, 1) := by decide +kernel
theorem dX7_set_44 : decode cX7_set 44 = .ok (.return_, 1) := by decide +kernel
theorem dX8_findTouched_0 : decode cX8_findTouched 0 = .ok (.iconst 0, 1) := by decide +kernel
theorem dX8_findTouched_1 : decode cX8_findTouched 1 = .ok (.istore_n 2, 1) := by decide +kernel
theorem dX8_findTouched_2 : decode cX8_findTouched 2 = .ok (.iload_n 2, 1) := by decide +kernel
theorem dX8_findTouched_3 : decode cX8_findTouched 3 = .ok (.aload_n 0, 1) := by decide +kernel
theorem dX8_findTouched_4 : decode cX8_findTouched 4 = .ok (.getfield 12, 3) := by decide +kernel
theorem dX8_findTouched_7 : decode cX8_findTouched 7 = .ok (.getfield 29, 3) := by decide +kernel
theorem dX8_findTouched_10 : decode cX8_findTouched 10 = .ok (.if_icmp .ge 16, 3) := by decide +kernel
theorem dX8_findTouched_13 : decode cX8_findTouched 13 = .ok (.aload_n 0, 1) := by decide +kernel
theorem dX8_findTouched_14 : decode cX8_findTouched 14 = .ok (.getfield 22, 3) := by decide +kernel
theorem dX8_findTouched_17 : decode cX8_findTouched 17 = .ok (.iload_n 2, 1) := by decide +kernel
theorem dX8_findTouched_18 : decode cX8_findTouched 18 = .ok (.iconst 0, 1) := by decide +kernel
theorem dX8_findTouched_19 : decode cX8_findTouched 19 = .ok (.iastore, 1) := by decide +kernel
theorem dX8_findTouched_20 : decode cX8_findTouched 20 = .ok (.iinc 2 1, 3) := by decide +kernel
theorem dX8_findTouched_23 : decode cX8_findTouched 23 = .ok (.goto (-21), 3) := by decide +kernel
theorem dX8_findTouched_26 : decode cX8_findTouched 26 = .ok (.aload_n 0, 1) := by decide +kernel
theorem dX8_findTouched_27 : decode cX8_findTouched 27 = .ok (.getfield 12, 3) := by decide +kernel
theorem dX8_findTouched_30 : decode cX8_findTouched 30 = .ok (.getfield 29, 3) := by decide +kernel
theorem dX8_findTouched_33 : decode cX8_findTouched 33 = .ok (.iconst 1, 1) := by decide +kernel
theorem dX8_findTouched_34 : decode cX8_findTouched 34 = .ok (.isub, 1) := by decide +kernel
theorem dX8_findTouched_35 : decode cX8_findTouched 35 = .ok (.istore_n 2, 1) := by decide +kernel
theorem dX8_findTouched_36 : decode cX8_findTouched 36 = .ok (.iload_n 2, 1) := by decide +kernel
theorem dX8_findTouched_37 : decode cX8_findTouched 37 = .ok (.ifCond .lt 106, 3) := by decide +kernel
theorem dX8_findTouched_40 : decode cX8_findTouched 40 = .ok (.aload_n 0, 1) := by decide +kernel
theorem dX8_findTouched_41 : decode cX8_findTouched 41 = .ok (.getfield 12, 3) := by decide +kernel
theorem dX8_findTouched_44 : decode cX8_findTouched 44 = .ok (.getfield 32, 3) := by decide +kernel
theorem dX8_findTouched_47 : decode cX8_findTouched 47 = .ok (.iload_n 2, 1) := by decide +kernel
theorem dX8_findTouched_48 : decode cX8_findTouched 48 = .ok (.iaload, 1) := by decide +kernel
theorem dX8_findTouched_49 : decode cX8_findTouched 49 = .ok (.istore_n 3, 1) := by decide +kernel
theorem dX8_findTouched_50 : decode cX8_findTouched 50 = .ok (.aload_n 1, 1) := by decide +kernel
theorem dX8_findTouched_51 : decode cX8_findTouched 51 = .ok (.iload_n 3, 1) := by decide +kernel
theorem dX8_findTouched_52 : decode cX8_findTouched 52 = .ok (.invokevirtual 49, 3) := by decide +kernel
theorem dX8_findTouched_55 : decode cX8_findTouched 55 = .ok (.ifCond .eq 38, 3) := by decide +kernel
theorem dX8_findTouched_58 : decode cX8_findTouched 58 = .ok (.aload_n 1, 1) := by decide +kernel
theorem dX8_findTouched_59 : decode cX8_findTouched 59 = .ok (.iload_n 3, 1) := by decide +kernel
theorem dX8_findTouched_60 : decode cX8_findTouched 60 = .ok (.invokevirtual 53, 3) := by decide +kernel
theorem dX8_findTouched_63 : decode cX8_findTouched 63 = .ok (.aload_n 0, 1) := by decide +kernel
theorem dX8_findTouched_64 : decode cX8_findTouched 64 = .ok (.getfield 12, 3) := by decide +kernel
theorem dX8_findTouched_67 : decode cX8_findTouched 67 = .ok (.getfield 42, 3) := by decide +kernel
theorem dX8_findTouched_70 : decode cX8_findTouched 70 = .ok (.iload_n 2, 1) := by decide +kernel
theorem dX8_findTouched_71 : decode cX8_findTouched 71 = .ok (.laload, 1) := by decide +kernel
theorem dX8_findTouched_72 : decode cX8_findTouched 72 = .ok (.lcmp, 1) := by decide +kernel
theorem dX8_findTouched_73 : decode cX8_findTouched 73 = .ok (.ifCond .ne 20, 3) := by decide +kernel
theorem dX8_findTouched_76 : decode cX8_findTouched 76 = .ok (.aload_n 1, 1) := by decide +kernel
theorem dX8_findTouched_77 : decode cX8_findTouched 77 = .ok (.iload_n 3, 1) := by decide +kernel
theorem dX8_findTouched_78 : decode cX8_findTouched 78 = .ok (.invokevirtual 57, 3) := by decide +kernel
theorem dX8_findTouched_81 : decode cX8_findTouched 81 = .ok (.aload_n 0, 1) := by decide +kernel
theorem dX8_findTouched_82 : decode cX8_findTouched 82 = .ok (.getfield 12, 3) := by decide +kernel
theorem dX8_findTouched_85 : decode cX8_findTouched 85 = .ok (.getfield 46, 3) := by decide +kernel
theorem dX8_findTouched_88 : decode cX8_findTouched 88 = .ok (.iload_n 2, 1) := by decide +kernel
theorem dX8_findTouched_89 : decode cX8_findTouched 89 = .ok (.iaload, 1) := by decide +kernel
theorem dX8_findTouched_90 : decode cX8_findTouched 90 = .ok (.if_icmp .eq 10, 3) := by decide +kernel
theorem dX8_findTouched_93 : decode cX8_findTouched 93 = .ok (.aload_n 0, 1) := by decide +kernel
theorem dX8_findTouched_94 : decode cX8_findTouched 94 = .ok (.getfield 22, 3) := by decide +kernel
theorem dX8_findTouched_97 : decode cX8_findTouched 97 = .ok (.iload_n 2, 1) := by decide +kernel
theorem dX8_findTouched_98 : decode cX8_findTouched 98 = .ok (.iconst 1, 1) := by decide +kernel
theorem dX8_findTouched_99 : decode cX8_findTouched 99 = .ok (.iastore, 1) := by decide +kernel
theorem dX8_findTouched_100 : decode cX8_findTouched 100 = .ok (.aload_n 0, 1) := by decide +kernel
theorem dX8_findTouched_101 : decode cX8_findTouched 101 = .ok (.getfield 22, 3) := by decide +kernel
theorem dX8_findTouched_104 : decode cX8_findTouched 104 = .ok (.iload_n 2, 1) := by decide +kernel
theorem dX8_findTouched_105 : decode cX8_findTouched 105 = .ok (.iaload, 1) := by decide +kernel
theorem dX8_findTouched_106 : decode cX8_findTouched 106 = .ok (.iconst 1, 1) := by decide +kernel
theorem dX8_findTouched_107 : decode cX8_findTouched 107 = .ok (.if_icmp .ne 30, 3) := by decide +kernel
theorem dX8_findTouched_110 : decode cX8_findTouched 110 = .ok (.aload_n 0, 1) := by decide +kernel
theorem dX8_findTouched_111 : decode cX8_findTouched 111 = .ok (.getfield 12, 3) := by decide +kernel
theorem dX8_findTouched_114 : decode cX8_findTouched 114 = .ok (.getfield 60, 3) := by decide +kernel
theorem dX8_findTouched_117 : decode cX8_findTouched 117 = .ok (.iload_n 2, 1) := by decide +kernel
theorem dX8_findTouched_118 : decode cX8_findTouched 118 = .ok (.iaload, 1) := by decide +kernel
theorem dX8_findTouched_119 : decode cX8_findTouched 119 = .ok (.ifCond .lt 18, 3) := by decide +kernel
theorem dX8_findTouched_122 : decode cX8_findTouched 122 = .ok (.aload_n 0, 1) := by decide +kernel
theorem dX8_findTouched_123 : decode cX8_findTouched 123 = .ok (.getfield 22, 3) := by decide +kernel
theorem dX8_findTouched_126 : decode cX8_findTouched 126 = .ok (.aload_n 0, 1) := by decide +kernel
theorem dX8_findTouched_127 : decode cX8_findTouched 127 = .ok (.getfield 12, 3) := by decide +kernel
theorem dX8_findTouched_130 : decode cX8_findTouched 130 = .ok (.getfield 60, 3) := by decide +kernel
theorem dX8_findTouched_133 : decode cX8_findTouched 133 = .ok (.iload_n 2, 1) := by decide +kernel
theorem dX8_findTouched_134 : decode cX8_findTouched 134 = .ok (.iaload, 1) := by decide +kernel
theorem dX8_findTouched_135 : decode cX8_findTouched 135 = .ok (.iconst 1, 1) := by decide +kernel
theorem dX8_findTouched_136 : decode cX8_findTouched 136 = .ok (.iastore, 1) := by decide +kernel
theorem dX8_findTouched_137 : decode cX8_findTouched 137 = .ok (.iinc 2 (-1), 3) := by decide +kernel
theorem dX8_findTouched_140 : decode cX8_findTouched 140 = .ok (.goto (-104), 3) := by decide +kernel
theorem dX8_findTouched_143 : decode cX8_findTouched 143 = .ok (.return_, 1) := by decide +kernel
theorem dX8_has_0 : decode cX8_has 0 = .ok (.iload_n 1, 1) := by decide +kernel
theorem dX8_has_1 : decode cX8_has 1 = .ok (.ifCond .lt 24, 3) := by decide +kernel
theorem dX8_has_4 : decode cX8_has 4 = .ok (.iload_n 1, 1) := by decide +kernel
theorem dX8_has_5 : decode cX8_has 5 = .ok (.sipush 150, 3) := by decide +kernel
theorem dX8_has_8 : decode cX8_has 8 = .ok (.if_icmp .ge 17, 3) := by decide +kernel
theorem dX8_has_11 : decode cX8_has 11 = .ok (.aload_n 0, 1) := by decide +kernel
theorem dX8_has_12 : decode cX8_has 12 = .ok (.getfield 18, 3) := by decide +kernel
theorem dX8_has_15 : decode cX8_has 15 = .ok (.iload_n 1, 1) := by decide +kernel
theorem dX8_has_16 : decode cX8_has 16 = .ok (.iaload, 1) := by decide +kernel
theorem dX8_has_17 : decode cX8_has 17 = .ok (.iconst (-1), 1) := by decide +kernel
theorem dX8_has_18 : decode cX8_has 18 = .ok (.if_icmp .eq 7, 3) := by decide +kernel
theorem dX8_has_21 : decode cX8_has 21 = .ok (.iconst 1, 1) := by decide +kernel
theorem dX8_has_22 : decode cX8_has 22 = .ok (.goto 4, 3) := by decide +kernel
theorem dX8_has_25 : decode cX8_has 25 = .ok (.iconst 0, 1) := by decide +kernel
theorem dX8_has_26 : decode cX8_has 26 = .ok (.ireturn, 1) := by decide +kernel
theorem dX8_isTouched_0 : decode cX8_isTouched 0 = .ok (.aload_n 0, 1) := by decide +kernel
theorem dX8_isTouched_1 : decode cX8_isTouched 1 = .ok (.iload_n 1, 1) := by decide +kernel
theorem dX8_isTouched_2 : decode cX8_isTouched 2 = .ok (.invokevirtual 35, 3) := by decide +kernel
theorem dX8_isTouched_5 : decode cX8_isTouched 5 = .ok (.istore_n 2, 1) := by decide +kernel
theorem dX8_isTouched_6 : decode cX8_isTouched 6 = .ok (.iload_n 2, 1) := by decide +kernel
theorem dX8_isTouched_7 : decode cX8_isTouched 7 = .ok (.iconst (-1), 1) := by decide +kernel
theorem dX8_isTouched_8 : decode cX8_isTouched 8 = .ok (.if_icmp .eq 17, 3) := by decide +kernel
theorem dX8_isTouched_11 : decode cX8_isTouched 11 = .ok (.aload_n 0, 1) := by decide +kernel
theorem dX8_isTouched_12 : decode cX8_isTouched 12 = .ok (.getfield 22, 3) := by decide +kernel
theorem dX8_isTouched_15 : decode cX8_isTouched 15 = .ok (.iload_n 2, 1) := by decide +kernel
theorem dX8_isTouched_16 : decode cX8_isTouched 16 = .ok (.iaload, 1) := by decide +kernel
theorem dX8_isTouched_17 : decode cX8_isTouched 17 = .ok (.iconst 1, 1) := by decide +kernel
theorem dX8_isTouched_18 : decode cX8_isTouched 18 = .ok (.if_icmp .ne 7, 3) := by decide +kernel
theorem dX8_isTouched_21 : decode cX8_isTouched 21 = .ok (.iconst 1, 1) := by decide +kernel
theorem dX8_isTouched_22 : decode cX8_isTouched 22 = .ok (.goto 4, 3) := by decide +kernel
theorem dX8_isTouched_25 : decode cX8_isTouched 25 = .ok (.iconst 0, 1) := by decide +kernel
theorem dX8_isTouched_26 : decode cX8_isTouched 26 = .ok (.ireturn, 1) := by decide +kernel
theorem dX8_kindOf_0 : decode cX8_kindOf 0 = .ok (.aload_n 0, 1) := by decide +kernel
theorem dX8_kindOf_1 : decode cX8_kindOf 1 = .ok (.iload_n 1, 1) := by decide +kernel
theorem dX8_kindOf_2 : decode cX8_kindOf 2 = .ok (.invokevirtual 35, 3) := by decide +kernel
theorem dX8_kindOf_5 : decode cX8_kindOf 5 = .ok (.istore_n 2, 1) := by decide +kernel
theorem dX8_kindOf_6 : decode cX8_kindOf 6 = .ok (.iload_n 2, 1) := by decide +kernel
theorem dX8_kindOf_7 : decode cX8_kindOf 7 = .ok (.iconst (-1), 1) := by decide +kernel
theorem dX8_kindOf_8 : decode cX8_kindOf 8 = .ok (.if_icmp .ne 7, 3) := by decide +kernel
theorem dX8_kindOf_11 : decode cX8_kindOf 11 = .ok (.iconst (-1), 1) := by decide +kernel
theorem dX8_kindOf_12 : decode cX8_kindOf 12 = .ok (.goto 12, 3) := by decide +kernel
theorem dX8_kindOf_15 : decode cX8_kindOf 15 = .ok (.aload_n 0, 1) := by decide +kernel
theorem dX8_kindOf_16 : decode cX8_kindOf 16 = .ok (.getfield 12, 3) := by decide +kernel
theorem dX8_kindOf_19 : decode cX8_kindOf 19 = .ok (.getfield 39, 3) := by decide +kernel
theorem dX8_kindOf_22 : decode cX8_kindOf 22 = .ok (.iload_n 2, 1) := by decide +kernel
theorem dX8_kindOf_23 : decode cX8_kindOf 23 = .ok (.iaload, 1) := by decide +kernel
theorem dX8_kindOf_24 : decode cX8_kindOf 24 = .ok (.ireturn, 1) := by decide +kernel
theorem dX8_load_0 : decode cX8_load 0 = .ok (.aload_n 0, 1) := by decide +kernel
theorem dX8_load_1 : decode cX8_load 1 = .ok (.aload_n 1, 1) := by decide +kernel
theorem dX8_load_2 : decode cX8_load 2 = .ok (.putfield 12, 3) := by decide +kernel
theorem dX8_load_5 : decode cX8_load 5 = .ok (.aload_n 0, 1) := by decide +kernel
theorem dX8_load_6 : decode cX8_load 6 = .ok (.iload_n 2, 1) := by decide +kernel
theorem dX8_load_7 : decode cX8_load 7 = .ok (.putfield 25, 3) := by decide +kernel
theorem dX8_load_10 : decode cX8_load 10 = .ok (.iconst 0, 1) := by decide +kernel
theorem dX8_load_11 : decode cX8_load 11 = .ok (.istore_n 3, 1) := by decide +kernel
theorem dX8_load_12 : decode cX8_load 12 = .ok (.iload_n 3, 1) := by decide +kernel
theorem dX8_load_13 : decode cX8_load 13 = .ok (.sipush 150, 3) := by decide +kernel
theorem dX8_load_16 : decode cX8_load 16 = .ok (.if_icmp .ge 16, 3) := by decide +kernel
theorem dX8_load_19 : decode cX8_load 19 = .ok (.aload_n 0, 1) := by decide +kernel
theorem dX8_load_20 : decode cX8_load 20 = .ok (.getfield 18, 3) := by decide +kernel
theorem dX8_load_23 : decode cX8_load 23 = .ok (.iload_n 3, 1) := by decide +kernel
theorem dX8_load_24 : decode cX8_load 24 = .ok (.iconst (-1), 1) := by decide +kernel
theorem dX8_load_25 : decode cX8_load 25 = .ok (.iastore, 1) := by decide +kernel
theorem dX8_load_26 : decode cX8_load 26 = .ok (.iinc 3 1, 3) := by decide +kernel
theorem dX8_load_29 : decode cX8_load 29 = .ok (.goto (-17), 3) := by decide +kernel
theorem dX8_load_32 : decode cX8_load 32 = .ok (.iconst 0, 1) := by decide +kernel
theorem dX8_load_33 : decode cX8_load 33 = .ok (.istore_n 3, 1) := by decide +kernel
theorem dX8_load_34 : decode cX8_load 34 = .ok (.iload_n 3, 1) := by decide +kernel
theorem dX8_load_35 : decode cX8_load 35 = .ok (.aload_n 0, 1) := by decide +kernel
theorem dX8_load_36 : decode cX8_load 36 = .ok (.getfield 12, 3) := by decide +kernel
theorem dX8_load_39 : decode cX8_load 39 = .ok (.getfield 29, 3) := by decide +kernel
theorem dX8_load_42 : decode cX8_load 42 = .ok (.if_icmp .ge 41, 3) := by decide +kernel
theorem dX8_load_45 : decode cX8_load 45 = .ok (.aload_n 0, 1) := by decide +kernel
theorem dX8_load_46 : decode cX8_load 46 = .ok (.getfield 12, 3) := by decide +kernel
theorem dX8_load_49 : decode cX8_load 49 = .ok (.getfield 32, 3) := by decide +kernel
theorem dX8_load_52 : decode cX8_load 52 = .ok (.iload_n 3, 1) := by decide +kernel
theorem dX8_load_53 : decode cX8_load 53 = .ok (.iaload, 1) := by decide +kernel
theorem dX8_load_54 : decode cX8_load 54 = .ok (.istore 4, 2) := by decide +kernel
theorem dX8_load_56 : decode cX8_load 56 = .ok (.iload 4, 2) := by decide +kernel
theorem dX8_load_58 : decode cX8_load 58 = .ok (.ifCond .lt 19, 3) := by decide +kernel
theorem dX8_load_61 : decode cX8_load 61 = .ok (.iload 4, 2) := by decide +kernel
theorem dX8_load_63 : decode cX8_load 63 = .ok (.sipush 150, 3) := by decide +kernel
theorem dX8_load_66 : decode cX8_load 66 = .ok (.if_icmp .ge 11, 3) := by decide +kernel
theorem dX8_load_69 : decode cX8_load 69 = .ok (.aload_n 0, 1) := by decide +kernel
theorem dX8_load_70 : decode cX8_load 70 = .ok (.getfield 18, 3) := by decide +kernel
theorem dX8_load_73 : decode cX8_load 73 = .ok (.iload 4, 2) := by decide +kernel
theorem dX8_load_75 : decode cX8_load 75 = .ok (.iload_n 3, 1) := by decide +kernel
theorem dX8_load_76 : decode cX8_load 76 = .ok (.iastore, 1) := by decide +kernel
theorem dX8_load_77 : decode cX8_load 77 = .ok (.iinc 3 1, 3) := by decide +kernel
theorem dX8_load_80 : decode cX8_load 80 = .ok (.goto (-46), 3) := by decide +kernel
theorem dX8_load_83 : decode cX8_load 83 = .ok (.return_, 1) := by decide +kernel
theorem dX8_ordering_0 : decode cX8_ordering 0 = .ok (.iload_n 2, 1) := by decide +kernel
theorem dX8_ordering_1 : decode cX8_ordering 1 = .ok (.ifCond .lt 25, 3) := by decide +kernel
theorem dX8_ordering_4 : decode cX8_ordering 4 = .ok (.iload_n 2, 1) := by decide +kernel
theorem dX8_ordering_5 : decode cX8_ordering 5 = .ok (.sipush 150, 3) := by decide +kernel
theorem dX8_ordering_8 : decode cX8_ordering 8 = .ok (.if_icmp .ge 18, 3) := by decide +kernel
theorem dX8_ordering_11 : decode cX8_ordering 11 = .ok (.iload_n 3, 1) := by decide +kernel
theorem dX8_ordering_12 : decode cX8_ordering 12 = .ok (.ifCond .lt 14, 3) := by decide +kernel
theorem dX8_ordering_15 : decode cX8_ordering 15 = .ok (.iload_n 3, 1) := by decide +kernel
theorem dX8_ordering_16 : decode cX8_ordering 16 = .ok (.sipush 150, 3) := by decide +kernel
theorem dX8_ordering_19 : decode cX8_ordering 19 = .ok (.if_icmp .ge 7, 3) := by decide +kernel
theorem dX8_ordering_22 : decode cX8_ordering 22 = .ok (.iconst 1, 1) := by decide +kernel
theorem dX8_ordering_23 : decode cX8_ordering 23 = .ok (.goto 4, 3) := by decide +kernel
theorem dX8_ordering_26 : decode cX8_ordering 26 = .ok (.iconst 0, 1) := by decide +kernel
theorem dX8_ordering_27 : decode cX8_ordering 27 = .ok (.istore 4, 2) := by decide +kernel
theorem dX8_ordering_29 : decode cX8_ordering 29 = .ok (.iload 4, 2) := by decide +kernel
theorem dX8_ordering_31 : decode cX8_ordering 31 = .ok (.ifCond .eq 12, 3) := by decide +kernel
theorem dX8_ordering_34 : decode cX8_ordering 34 = .ok (.aload_n 0, 1) := by decide +kernel
theorem dX8_ordering_35 : decode cX8_ordering 35 = .ok (.getfield 18, 3) := by decide +kernel
theorem dX8_ordering_38 : decode cX8_ordering 38 = .ok (.iload_n 2, 1) := by decide +kernel
theorem dX8_ordering_39 : decode cX8_ordering 39 = .ok (.iaload, 1) := by decide +kernel
theorem dX8_ordering_40 : decode cX8_ordering 40 = .ok (.goto 4, 3) := by decide +kernel
theorem dX8_ordering_43 : decode cX8_ordering 43 = .ok (.iconst (-1), 1) := by decide +kernel
theorem dX8_ordering_44 : decode cX8_ordering 44 = .ok (.istore 5, 2) := by decide +kernel
theorem dX8_ordering_46 : decode cX8_ordering 46 = .ok (.iload 4, 2) := by decide +kernel
theorem dX8_ordering_48 : decode cX8_ordering 48 = .ok (.ifCond .eq 12, 3) := by decide +kernel
theorem dX8_ordering_51 : decode cX8_ordering 51 = .ok (.aload_n 0, 1) := by decide +kernel
theorem dX8_ordering_52 : decode cX8_ordering 52 = .ok (.getfield 18, 3) := by decide +kernel
theorem dX8_ordering_55 : decode cX8_ordering 55 = .ok (.iload_n 3, 1) := by decide +kernel
theorem dX8_ordering_56 : decode cX8_ordering 56 = .ok (.iaload, 1) := by decide +kernel
theorem dX8_ordering_57 : decode cX8_ordering 57 = .ok (.goto 4, 3) := by decide +kernel
theorem dX8_ordering_60 : decode cX8_ordering 60 = .ok (.iconst (-1), 1) := by decide +kernel
theorem dX8_ordering_61 : decode cX8_ordering 61 = .ok (.istore 6, 2) := by decide +kernel
theorem dX8_ordering_63 : decode cX8_ordering 63 = .ok (.iload 5, 2) := by decide +kernel
theorem dX8_ordering_65 : decode cX8_ordering 65 = .ok (.iconst (-1), 1) := by decide +kernel
theorem dX8_ordering_66 : decode cX8_ordering 66 = .ok (.if_icmp .eq 37, 3) := by decide +kernel
theorem dX8_ordering_69 : decode cX8_ordering 69 = .ok (.iload 6, 2) := by decide +kernel
theorem dX8_ordering_71 : decode cX8_ordering 71 = .ok (.iconst (-1), 1) := by decide +kernel
theorem dX8_ordering_72 : decode cX8_ordering 72 = .ok (.if_icmp .eq 31, 3) := by decide +kernel
theorem dX8_ordering_75 : decode cX8_ordering 75 = .ok (.aload_n 0, 1) := by decide +kernel
theorem dX8_ordering_76 : decode cX8_ordering 76 = .ok (.getfield 12, 3) := by decide +kernel
theorem dX8_ordering_79 : decode cX8_ordering 79 = .ok (.getfield 46, 3) := by decide +kernel
theorem dX8_ordering_82 : decode cX8_ordering 82 = .ok (.iload 5, 2) := by decide +kernel
theorem dX8_ordering_84 : decode cX8_ordering 84 = .ok (.iaload, 1) := by decide +kernel
theorem dX8_ordering_85 : decode cX8_ordering 85 = .ok (.iload_n 1, 1) := by decide +kernel
theorem dX8_ordering_86 : decode cX8_ordering 86 = .ok (.if_icmp .ne 17, 3) := by decide +kernel
theorem dX8_ordering_89 : decode cX8_ordering 89 = .ok (.aload_n 0, 1) := by decide +kernel
theorem dX8_ordering_90 : decode cX8_ordering 90 = .ok (.getfield 12, 3) := by decide +kernel
theorem dX8_ordering_93 : decode cX8_ordering 93 = .ok (.getfield 46, 3) := by decide +kernel
theorem dX8_ordering_96 : decode cX8_ordering 96 = .ok (.iload 6, 2) := by decide +kernel
theorem dX8_ordering_98 : decode cX8_ordering 98 = .ok (.iaload, 1) := by decide +kernel
theorem dX8_ordering_99 : decode cX8_ordering 99 = .ok (.iload_n 1, 1) := by decide +kernel
theorem dX8_ordering_100 : decode cX8_ordering 100 = .ok (.if_icmp .eq 5, 3) := by decide +kernel
theorem dX8_ordering_103 : decode cX8_ordering 103 = .ok (.iconst 0, 1) := by decide +kernel
theorem dX8_ordering_104 : decode cX8_ordering 104 = .ok (.ireturn, 1) := by decide +kernel
theorem dX8_ordering_105 : decode cX8_ordering 105 = .ok (.iload 5, 2) := by decide +kernel
theorem dX8_ordering_107 : decode cX8_ordering 107 = .ok (.iload 6, 2) := by decide +kernel
theorem dX8_ordering_109 : decode cX8_ordering 109 = .ok (.if_icmp .ge 7, 3) := by decide +kernel
theorem dX8_ordering_112 : decode cX8_ordering 112 = .ok (.iconst 1, 1) := by decide +kernel
theorem dX8_ordering_113 : decode cX8_ordering 113 = .ok (.goto 4, 3) := by decide +kernel
theorem dX8_ordering_116 : decode cX8_ordering 116 = .ok (.iconst (-1), 1) := by decide +kernel
theorem dX8_ordering_117 : decode cX8_ordering 117 = .ok (.ireturn, 1) := by decide +kernel
theorem dX8_outermost_0 : decode cX8_outermost 0 = .ok (.aload_n 0, 1) := by decide +kernel
theorem dX8_outermost_1 : decode cX8_outermost 1 = .ok (.getfield 12, 3) := by decide +kernel
theorem dX8_outermost_4 : decode cX8_outermost 4 = .ok (.getfield 29, 3) := by decide +kernel
theorem dX8_outermost_7 : decode cX8_outermost 7 = .ok (.ifCond .le 15, 3) := by decide +kernel
theorem dX8_outermost_10 : decode cX8_outermost 10 = .ok (.aload_n 0, 1) := by decide +kernel
theorem dX8_outermost_11 : decode cX8_outermost 11 = .ok (.getfield 12, 3) := by decide +kernel
theorem dX8_outermost_14 : decode cX8_outermost 14 = .ok (.getfield 32, 3) := by decide +kernel
theorem dX8_outermost_17 : decode cX8_outermost 17 = .ok (.iconst 0, 1) := by decide +kernel
theorem dX8_outermost_18 : decode cX8_outermost 18 = .ok (.iaload, 1) := by decide +kernel
theorem dX8_outermost_19 : decode cX8_outermost 19 = .ok (.goto 4, 3) := by decide +kernel
theorem dX8_outermost_22 : decode cX8_outermost 22 = .ok (.iconst (-1), 1) := by decide +kernel
theorem dX8_outermost_23 : decode cX8_outermost 23 = .ok (.ireturn, 1) := by decide +kernel
theorem dX8_placeOf_0 : decode cX8_placeOf 0 = .ok (.iload_n 1, 1) := by decide +kernel
theorem dX8_placeOf_1 : decode cX8_placeOf 1 = .ok (.ifCond .lt 19, 3) := by decide +kernel
theorem dX8_placeOf_4 : decode cX8_placeOf 4 = .ok (.iload_n 1, 1) := by decide +kernel
theorem dX8_placeOf_5 : decode cX8_placeOf 5 = .ok (.sipush 150, 3) := by decide +kernel
theorem dX8_placeOf_8 : decode cX8_placeOf 8 = .ok (.if_icmp .ge 12, 3) := by decide +kernel
theorem dX8_placeOf_11 : decode cX8_placeOf 11 = .ok (.aload_n 0, 1) := by decide +kernel
theorem dX8_placeOf_12 : decode cX8_placeOf 12 = .ok (.getfield 18, 3) := by decide +kernel
theorem dX8_placeOf_15 : decode cX8_placeOf 15 = .ok (.iload_n 1, 1) := by decide +kernel
theorem dX8_placeOf_16 : decode cX8_placeOf 16 = .ok (.iaload, 1) := by decide +kernel
theorem dX8_placeOf_17 : decode cX8_placeOf 17 = .ok (.goto 4, 3) := by decide +kernel
theorem dX8_placeOf_20 : decode cX8_placeOf 20 = .ok (.iconst (-1), 1) := by decide +kernel
theorem dX8_placeOf_21 : decode cX8_placeOf 21 = .ok (.ireturn, 1) := by decide +kernel
theorem dX8_upOf_0 : decode cX8_upOf 0 = .ok (.aload_n 0, 1) := by decide +kernel
theorem dX8_upOf_1 : decode cX8_upOf 1 = .ok (.iload_n 1, 1) := by decide +kernel
theorem dX8_upOf_2 : decode cX8_upOf 2 = .ok (.invokevirtual 35, 3) := by decide +kernel
theorem dX8_upOf_5 : decode cX8_upOf 5 = .ok (.istore_n 2, 1) := by decide +kernel
theorem dX8_upOf_6 : decode cX8_upOf 6 = .ok (.iload_n 2, 1) := by decide +kernel
theorem dX8_upOf_7 : decode cX8_upOf 7 = .ok (.iconst (-1), 1) := by decide +kernel
theorem dX8_upOf_8 : decode cX8_upOf 8 = .ok (.if_icmp .ne 7, 3) := by decide +kernel
theorem dX8_upOf_11 : decode cX8_upOf 11 = .ok (.iconst (-1), 1) := by decide +kernel
theorem dX8_upOf_12 : decode cX8_upOf 12 = .ok (.goto 12, 3) := by decide +kernel
theorem dX8_upOf_15 : decode cX8_upOf 15 = .ok (.aload_n 0, 1) := by decide +kernel
theorem dX8_upOf_16 : decode cX8_upOf 16 = .ok (.getfield 12, 3) := by decide +kernel
theorem dX8_upOf_19 : decode cX8_upOf 19 = .ok (.getfield 46, 3) := by decide +kernel
theorem dX8_upOf_22 : decode cX8_upOf 22 = .ok (.iload_n 2, 1) := by decide +kernel
theorem dX8_upOf_23 : decode cX8_upOf 23 = .ok (.iaload, 1) := by decide +kernel
theorem dX8_upOf_24 : decode cX8_upOf 24 = .ok (.ireturn, 1) := by decide +kernel
theorem dX8_wordOf_0 : decode cX8_wordOf 0 = .ok (.aload_n 0, 1) := by decide +kernel
theorem dX8_wordOf_1 : decode cX8_wordOf 1 = .ok (.iload_n 1, 1) := by decide +kernel
theorem dX8_wordOf_2 : decode cX8_wordOf 2 = .ok (.invokevirtual 35, 3) := by decide +kernel
theorem dX8_wordOf_5 : decode cX8_wordOf 5 = .ok (.istore_n 2, 1) := by decide +kernel
theorem dX8_wordOf_6 : decode cX8_wordOf 6 = .ok (.iload_n 2, 1) := by decide +kernel
theorem dX8_wordOf_7 : decode cX8_wordOf 7 = .ok (.iconst (-1), 1) := by decide +kernel
theorem dX8_wordOf_8 : decode cX8_wordOf 8 = .ok (.if_icmp .ne 7, 3) := by decide +kernel
theorem dX8_wordOf_11 : decode cX8_wordOf 11 = .ok (.lconst 0, 1) := by decide +kernel
theorem dX8_wordOf_12 : decode cX8_wordOf 12 = .ok (.goto 12, 3) := by decide +kernel
theorem dX8_wordOf_15 : decode cX8_wordOf 15 = .ok (.aload_n 0, 1) := by decide +kernel
theorem dX8_wordOf_16 : decode cX8_wordOf 16 = .ok (.getfield 12, 3) := by decide +kernel
theorem dX8_wordOf_19 : decode cX8_wordOf 19 = .ok (.getfield 42, 3) := by decide +kernel
theorem dX8_wordOf_22 : decode cX8_wordOf 22 = .ok (.iload_n 2, 1) := by decide +kernel
theorem dX8_wordOf_23 : decode cX8_wordOf 23 = .ok (.laload, 1) := by decide +kernel
theorem dX8_wordOf_24 : decode cX8_wordOf 24 = .ok (.lreturn, 1) := by decide +kernel
theorem dX9_advance_0 : decode cX9_advance 0 = .ok (.aload_n 0, 1) := by decide +kernel
theorem dX9_advance_1 : decode cX9_advance 1 = .ok (.aload_n 0, 1) := by decide +kernel
theorem dX9_advance_2 : decode cX9_advance 2 = .ok (.getfield 19, 3) := by decide +kernel
theorem dX9_advance_5 : decode cX9_advance 5 = .ok (.putfield 22, 3) := by decide +kernel
theorem dX9_advance_8 : decode cX9_advance 8 = .ok (.aload_n 0, 1) := by decide +kernel
theorem dX9_advance_9 : decode cX9_advance 9 = .ok (.getfield 22, 3) := by decide +kernel
theorem dX9_advance_12 : decode cX9_advance 12 = .ok (.aload_n 0, 1) := by decide +kernel
theorem dX9_advance_13 : decode cX9_advance 13 = .ok (.getfield 15, 3) := by decide +kernel
theorem dX9_advance_16 : decode cX9_advance 16 = .ok (.if_icmp .ge 44, 3) := by decide +kernel
theorem dX9_advance_19 : decode cX9_advance 19 = .ok (.aload_n 0, 1) := by decide +kernel
theorem dX9_advance_20 : decode cX9_advance 20 = .ok (.getfield 9, 3) := by decide +kernel
theorem dX9_advance_23 : decode cX9_advance 23 = .ok (.aload_n 0, 1) := by decide +kernel
theorem dX9_advance_24 : decode cX9_advance 24 = .ok (.getfield 22, 3) := by decide +kernel
theorem dX9_advance_27 : decode cX9_advance 27 = .ok (.iaload, 1) := by decide +kernel
theorem dX9_advance_28 : decode cX9_advance 28 = .ok (.bipush 32, 2) := by decide +kernel
theorem dX9_advance_30 : decode cX9_advance 30 = .ok (.if_icmp .eq 17, 3) := by decide +kernel
theorem dX9_advance_33 : decode cX9_advance 33 = .ok (.aload_n 0, 1) := by decide +kernel
theorem dX9_advance_34 : decode cX9_advance 34 = .ok (.getfield 9, 3) := by decide +kernel
theorem dX9_advance_37 : decode cX9_advance 37 = .ok (.aload_n 0, 1) := by decide +kernel
theorem dX9_advance_38 : decode cX9_advance 38 = .ok (.getfield 22, 3) := by decide +kernel
theorem dX9_advance_41 : decode cX9_advance 41 = .ok (.iaload, 1) := by decide +kernel
theorem dX9_advance_42 : decode cX9_advance 42 = .ok (.bipush 10, 2) := by decide +kernel
theorem dX9_advance_44 : decode cX9_advance 44 = .ok (.if_icmp .ne 16, 3) := by decide +kernel
theorem dX9_advance_47 : decode cX9_advance 47 = .ok (.aload_n 0, 1) := by decide +kernel
theorem dX9_advance_48 : decode cX9_advance 48 = .ok (.dup, 1) := by decide +kernel
theorem dX9_advance_49 : decode cX9_advance 49 = .ok (.getfield 22, 3) := by decide +kernel
theorem dX9_advance_52 : decode cX9_advance 52 = .ok (.iconst 1, 1) := by decide +kernel
theorem dX9_advance_53 : decode cX9_advance 53 = .ok (.iadd, 1) := by decide +kernel
theorem dX9_advance_54 : decode cX9_advance 54 = .ok (.putfield 22, 3) := by decide +kernel
theorem dX9_advance_57 : decode cX9_advance 57 = .ok (.goto (-49), 3) := by decide +kernel
theorem dX9_advance_60 : decode cX9_advance 60 = .ok (.aload_n 0, 1) := by decide +kernel
theorem dX9_advance_61 : decode cX9_advance 61 = .ok (.aload_n 0, 1) := by decide +kernel
theorem dX9_advance_62 : decode cX9_advance 62 = .ok (.getfield 22, 3) := by decide +kernel
theorem dX9_advance_65 : decode cX9_advance 65 = .ok (.putfield 19, 3) := by decide +kernel
theorem dX9_advance_68 : decode cX9_advance 68 = .ok (.aload_n 0, 1) := by decide +kernel
theorem dX9_advance_69 : decode cX9_advance 69 = .ok (.getfield 22, 3) := by decide +kernel
theorem dX9_advance_72 : decode cX9_advance 72 = .ok (.aload_n 0, 1) := by decide +kernel
theorem dX9_advance_73 : decode cX9_advance 73 = .ok (.getfield 15, 3) := by decide +kernel
theorem dX9_advance_76 : decode cX9_advance 76 = .ok (.if_icmp .lt 11, 3) := by decide +kernel
theorem dX9_advance_79 : decode cX9_advance 79 = .ok (.aload_n 0, 1) := by decide +kernel
theorem dX9_advance_80 : decode cX9_advance 80 = .ok (.iconst 0, 1) := by decide +kernel
theorem dX9_advance_81 : decode cX9_advance 81 = .ok (.putfield 25, 3) := by decide +kernel
theorem dX9_advance_84 : decode cX9_advance 84 = .ok (.goto 89, 3) := by decide +kernel
theorem dX9_advance_87 : decode cX9_advance 87 = .ok (.aload_n 0, 1) := by decide +kernel
theorem dX9_advance_88 : decode cX9_advance 88 = .ok (.getfield 9, 3) := by decide +kernel
theorem dX9_advance_91 : decode cX9_advance 91 = .ok (.aload_n 0, 1) := by decide +kernel
theorem dX9_advance_92 : decode cX9_advance 92 = .ok (.getfield 22, 3) := by decide +kernel
theorem dX9_advance_95 : decode cX9_advance 95 = .ok (.iaload, 1) := by decide +kernel
theorem dX9_advance_96 : decode cX9_advance 96 = .ok (.invokestatic 28, 3) := by decide +kernel
theorem dX9_advance_99 : decode cX9_advance 99 = .ok (.ifCond .eq 10, 3) := by decide +kernel
theorem dX9_advance_102 : decode cX9_advance 102 = .ok (.aload_n 0, 1) := by decide +kernel
theorem dX9_advance_103 : decode cX9_advance 103 = .ok (.invokevirtual 32, 3) := by decide +kernel
theorem dX9_advance_106 : decode cX9_advance 106 = .ok (.goto 67, 3) := by decide +kernel
theorem dX9_advance_109 : decode cX9_advance 109 = .ok (.aload_n 0, 1) := by decide +kernel
theorem dX9_advance_110 : decode cX9_advance 110 = .ok (.getfield 9, 3) := by decide +kernel
theorem dX9_advance_113 : decode cX9_advance 113 = .ok (.aload_n 0, 1) := by decide +kernel
theorem dX9_advance_114 : decode cX9_advance 114 = .ok (.getfield 22, 3) := by decide +kernel
theorem dX9_advance_117 : decode cX9_advance 117 = .ok (.iaload, 1) := by decide +kernel
theorem dX9_advance_118 : decode cX9_advance 118 = .ok (.bipush 123, 2) := by decide +kernel
theorem dX9_advance_120 : decode cX9_advance 120 = .ok (.if_icmp .ne 10, 3) := by decide +kernel
theorem dX9_advance_123 : decode cX9_advance 123 = .ok (.aload_n 0, 1) := by decide +kernel
theorem dX9_advance_124 : decode cX9_advance 124 = .ok (.invokevirtual 35, 3) := by decide +kernel
theorem dX9_advance_127 : decode cX9_advance 127 = .ok (.goto 46, 3) := by decide +kernel
theorem dX9_advance_130 : decode cX9_advance 130 = .ok (.aload_n 0, 1) := by decide +kernel
theorem dX9_advance_131 : decode cX9_advance 131 = .ok (.aload_n 0, 1) := by decide +kernel
theorem dX9_advance_132 : decode cX9_advance 132 = .ok (.getfield 9, 3) := by decide +kernel
theorem dX9_advance_135 : decode cX9_advance 135 = .ok (.aload_n 0, 1) := by decide +kernel
theorem dX9_advance_136 : decode cX9_advance 136 = .ok (.getfield 22, 3) := by decide +kernel
theorem dX9_advance_139 : decode cX9_advance 139 = .ok (.iaload, 1) := by decide +kernel
theorem dX9_advance_140 : decode cX9_advance 140 = .ok (.invokestatic 38, 3) := by decide +kernel
theorem dX9_advance_143 : decode cX9_advance 143 = .ok (.ifCond .eq 15, 3) := by decide +kernel
theorem dX9_advance_146 : decode cX9_advance 146 = .ok (.aload_n 0, 1) := by decide +kernel
theorem dX9_advance_147 : decode cX9_advance 147 = .ok (.getfield 9, 3) := by decide +kernel
theorem dX9_advance_150 : decode cX9_advance 150 = .ok (.aload_n 0, 1) := by decide +kernel
theorem dX9_advance_151 : decode cX9_advance 151 = .ok (.getfield 22, 3) := by decide +kernel
theorem dX9_advance_154 : decode cX9_advance 154 = .ok (.iaload, 1) := by decide +kernel
theorem dX9_advance_155 : decode cX9_advance 155 = .ok (.goto 5, 3) := by decide +kernel
theorem dX9_advance_158 : decode cX9_advance 158 = .ok (.bipush 6, 2) := by decide +kernel
theorem dX9_advance_160 : decode cX9_advance 160 = .ok (.putfield 25, 3) := by decide +kernel
theorem dX9_advance_163 : decode cX9_advance 163 = .ok (.aload_n 0, 1) := by decide +kernel
theorem dX9_advance_164 : decode cX9_advance 164 = .ok (.aload_n 0, 1) := by decide +kernel
theorem dX9_advance_165 : decode cX9_advance 165 = .ok (.getfield 22, 3) := by decide +kernel
theorem dX9_advance_168 : decode cX9_advance 168 = .ok (.iconst 1, 1) := by decide +kernel
theorem dX9_advance_169 : decode cX9_advance 169 = .ok (.iadd, 1) := by decide +kernel
theorem dX9_advance_170 : decode cX9_advance 170 = .ok (.putfield 19, 3) := by decide +kernel
theorem dX9_advance_173 : decode cX9_advance 173 = .ok (.return_, 1) := by decide +kernel
theorem dX9_append_0 : decode cX9_append 0 = .ok (.bipush 24, 2) := by decide +kernel
theorem dX9_append_2 : decode cX9_append 2 = .ok (.istore_n 2, 1) := by decide +kernel
theorem dX9_append_3 : decode cX9_append 3 = .ok (.iload_n 2, 1) := by decide +kernel
theorem dX9_append_4 : decode cX9_append 4 = .ok (.ifCond .lt 45, 3) := by decide +kernel
theorem dX9_append_7 : decode cX9_append 7 = .ok (.aload_n 0, 1) := by decide +kernel
theorem dX9_append_8 : decode cX9_append 8 = .ok (.getfield 15, 3) := by decide +kernel
theorem dX9_append_11 : decode cX9_append 11 = .ok (.sipush 500, 3) := by decide +kernel
theorem dX9_append_14 : decode cX9_append 14 = .ok (.if_icmp .ge 29, 3) := by decide +kernel
theorem dX9_append_17 : decode cX9_append 17 = .ok (.aload_n 0, 1) := by decide +kernel
theorem dX9_append_18 : decode cX9_append 18 = .ok (.getfield 9, 3) := by decide +kernel
theorem dX9_append_21 : decode cX9_append 21 = .ok (.aload_n 0, 1) := by decide +kernel
theorem dX9_append_22 : decode cX9_append 22 = .ok (.getfield 15, 3) := by decide +kernel
theorem dX9_append_25 : decode cX9_append 25 = .ok (.iload_n 1, 1) := by decide +kernel
theorem dX9_append_26 : decode cX9_append 26 = .ok (.iload_n 2, 1) := by decide +kernel
theorem dX9_append_27 : decode cX9_append 27 = .ok (.iushr, 1) := by decide +kernel
theorem dX9_append_28 : decode cX9_append 28 = .ok (.sipush 255, 3) := by decide +kernel
theorem dX9_append_31 : decode cX9_append 31 = .ok (.iand, 1) := by decide +kernel
theorem dX9_append_32 : decode cX9_append 32 = .ok (.iastore, 1) := by decide +kernel
theorem dX9_append_33 : decode cX9_append 33 = .ok (.aload_n 0, 1) := by decide +kernel
theorem dX9_append_34 : decode cX9_append 34 = .ok (.dup, 1) := by decide +kernel
theorem dX9_append_35 : decode cX9_append 35 = .ok (.getfield 15, 3) := by decide +kernel
theorem dX9_append_38 : decode cX9_append 38 = .ok (.iconst 1, 1) := by decide +kernel
theorem dX9_append_39 : decode cX9_append 39 = .ok (.iadd, 1) := by decide +kernel
theorem dX9_append_40 : decode cX9_append 40 = .ok (.putfield 15, 3) := by decide +kernel
theorem dX9_append_43 : decode cX9_append 43 = .ok (.iinc 2 (-8), 3) := by decide +kernel
theorem dX9_append_46 : decode cX9_append 46 = .ok (.goto (-43), 3) := by decide +kernel
theorem dX9_append_49 : decode cX9_append 49 = .ok (.return_, 1) := by decide +kernel
theorem dX9_cutName_0 : decode cX9_cutName 0 = .ok (.aload_n 0, 1) := by decide +kernel
theorem dX9_cutName_1 : decode cX9_cutName 1 = .ok (.getfield 19, 3) := by decide +kernel
theorem dX9_cutName_4 : decode cX9_cutName 4 = .ok (.aload_n 0, 1) := by decide +kernel
theorem dX9_cutName_5 : decode cX9_cutName 5 = .ok (.getfield 15, 3) := by decide +kernel
theorem dX9_cutName_8 : decode cX9_cutName 8 = .ok (.if_icmp .ge 31, 3) := by decide +kernel
theorem dX9_cutName_11 : decode cX9_cutName 11 = .ok (.aload_n 0, 1) := by decide +kernel
theorem dX9_cutName_12 : decode cX9_cutName 12 = .ok (.getfield 9, 3) := by decide +kernel
theorem dX9_cutName_15 : decode cX9_cutName 15 = .ok (.aload_n 0, 1) := by decide +kernel
theorem dX9_cutName_16 : decode cX9_cutName 16 = .ok (.getfield 19, 3) := by decide +kernel
theorem dX9_cutName_19 : decode cX9_cutName 19 = .ok (.iaload, 1) := by decide +kernel
theorem dX9_cutName_20 : decode cX9_cutName 20 = .ok (.invokestatic 28, 3) := by decide +kernel
theorem dX9_cutName_23 : decode cX9_cutName 23 = .ok (.ifCond .eq 16, 3) := by decide +kernel
theorem dX9_cutName_26 : decode cX9_cutName 26 = .ok (.aload_n 0, 1) := by decide +kernel
theorem dX9_cutName_27 : decode cX9_cutName 27 = .ok (.dup, 1) := by decide +kernel
theorem dX9_cutName_28 : decode cX9_cutName 28 = .ok (.getfield 19, 3) := by decide +kernel
theorem dX9_cutName_31 : decode cX9_cutName 31 = .ok (.iconst 1, 1) := by decide +kernel
theorem dX9_cutName_32 : decode cX9_cutName 32 = .ok (.iadd, 1) := by decide +kernel
theorem dX9_cutName_33 : decode cX9_cutName 33 = .ok (.putfield 19, 3) := by decide +kernel
theorem dX9_cutName_36 : decode cX9_cutName 36 = .ok (.goto (-36), 3) := by decide +kernel
theorem dX9_cutName_39 : decode cX9_cutName 39 = .ok (.aload_n 0, 1) := by decide +kernel
theorem dX9_cutName_40 : decode cX9_cutName 40 = .ok (.iconst 1, 1) := by decide +kernel
theorem dX9_cutName_41 : decode cX9_cutName 41 = .ok (.putfield 25, 3) := by decide +kernel
theorem dX9_cutName_44 : decode cX9_cutName 44 = .ok (.aload_n 0, 1) := by decide +kernel
theorem dX9_cutName_45 : decode cX9_cutName 45 = .ok (.ldc 41, 2) := by decide +kernel
theorem dX9_cutName_47 : decode cX9_cutName 47 = .ok (.invokevirtual 43, 3) := by decide +kernel
theorem dX9_cutName_50 : decode cX9_cutName 50 = .ok (.ifCond .eq 11, 3) := by decide +kernel
theorem dX9_cutName_53 : decode cX9_cutName 53 = .ok (.aload_n 0, 1) := by decide +kernel
theorem dX9_cutName_54 : decode cX9_cutName 54 = .ok (.iconst 2, 1) := by decide +kernel
theorem dX9_cutName_55 : decode cX9_cutName 55 = .ok (.putfield 25, 3) := by decide +kernel
theorem dX9_cutName_58 : decode cX9_cutName 58 = .ok (.goto 17, 3) := by decide +kernel
theorem dX9_cutName_61 : decode cX9_cutName 61 = .ok (.aload_n 0, 1) := by decide +kernel
theorem dX9_cutName_62 : decode cX9_cutName 62 = .ok (.ldc 47, 2) := by decide +kernel
theorem dX9_cutName_64 : decode cX9_cutName 64 = .ok (.invokevirtual 43, 3) := by decide +kernel
theorem dX9_cutName_67 : decode cX9_cutName 67 = .ok (.ifCond .eq 8, 3) := by decide +kernel
theorem dX9_cutName_70 : decode cX9_cutName 70 = .ok (.aload_n 0, 1) := by decide +kernel
theorem dX9_cutName_71 : decode cX9_cutName 71 = .ok (.iconst 3, 1) := by decide +kernel
theorem dX9_cutName_72 : decode cX9_cutName 72 = .ok (.putfield 25, 3) := by decide +kernel
theorem dX9_cutName_75 : decode cX9_cutName 75 = .ok (.return_, 1) := by decide +kernel
theorem dX9_cutWord_0 : decode cX9_cutWord 0 = .ok (.aload_n 0, 1) := by decide +kernel
theorem dX9_cutWord_1 : decode cX9_cutWord 1 = .ok (.aload_n 0, 1) := by decide +kernel
theorem dX9_cutWord_2 : decode cX9_cutWord 2 = .ok (.getfield 22, 3) := by decide +kernel
theorem dX9_cutWord_5 : decode cX9_cutWord 5 = .ok (.iconst 1, 1) := by decide +kernel
theorem dX9_cutWord_6 : decode cX9_cutWord 6 = .ok (.iadd, 1) := by decide +kernel
theorem dX9_cutWord_7 : decode cX9_cutWord 7 = .ok (.putfield 19, 3) := by decide +kernel
theorem dX9_cutWord_10 : decode cX9_cutWord 10 = .ok (.aload_n 0, 1) := by decide +kernel
theorem dX9_cutWord_11 : decode cX9_cutWord 11 = .ok (.getfield 19, 3) := by decide +kernel
theorem dX9_cutWord_14 : decode cX9_cutWord 14 = .ok (.aload_n 0, 1) := by decide +kernel
theorem dX9_cutWord_15 : decode cX9_cutWord 15 = .ok (.getfield 15, 3) := by decide +kernel
theorem dX9_cutWord_18 : decode cX9_cutWord 18 = .ok (.if_icmp .ge 45, 3) := by decide +kernel
theorem dX9_cutWord_21 : decode cX9_cutWord 21 = .ok (.aload_n 0, 1) := by decide +kernel
theorem dX9_cutWord_22 : decode cX9_cutWord 22 = .ok (.getfield 19, 3) := by decide +kernel
theorem dX9_cutWord_25 : decode cX9_cutWord 25 = .ok (.aload_n 0, 1) := by decide +kernel
theorem dX9_cutWord_26 : decode cX9_cutWord 26 = .ok (.getfield 22, 3) := by decide +kernel
theorem dX9_cutWord_29 : decode cX9_cutWord 29 = .ok (.isub, 1) := by decide +kernel
theorem dX9_cutWord_30 : decode cX9_cutWord 30 = .ok (.bipush 8, 2) := by decide +kernel
theorem dX9_cutWord_32 : decode cX9_cutWord 32 = .ok (.if_icmp .gt 31, 3) := by decide +kernel
theorem dX9_cutWord_35 : decode cX9_cutWord 35 = .ok (.aload_n 0, 1) := by decide +kernel
theorem dX9_cutWord_36 : decode cX9_cutWord 36 = .ok (.getfield 9, 3) := by decide +kernel
theorem dX9_cutWord_39 : decode cX9_cutWord 39 = .ok (.aload_n 0, 1) := by decide +kernel
theorem dX9_cutWord_40 : decode cX9_cutWord 40 = .ok (.getfield 19, 3) := by decide +kernel
theorem dX9_cutWord_43 : decode cX9_cutWord 43 = .ok (.iaload, 1) := by decide +kernel
theorem dX9_cutWord_44 : decode cX9_cutWord 44 = .ok (.invokestatic 49, 3) := by decide +kernel
theorem dX9_cutWord_47 : decode cX9_cutWord 47 = .ok (.ifCond .eq 16, 3) := by decide +kernel
theorem dX9_cutWord_50 : decode cX9_cutWord 50 = .ok (.aload_n 0, 1) := by decide +kernel
theorem dX9_cutWord_51 : decode cX9_cutWord 51 = .ok (.dup, 1) := by decide +kernel
theorem dX9_cutWord_52 : decode cX9_cutWord 52 = .ok (.getfield 19, 3) := by decide +kernel
theorem dX9_cutWord_55 : decode cX9_cutWord 55 = .ok (.iconst 1, 1) := by decide +kernel
theorem dX9_cutWord_56 : decode cX9_cutWord 56 = .ok (.iadd, 1) := by decide +kernel
theorem dX9_cutWord_57 : decode cX9_cutWord 57 = .ok (.putfield 19, 3) := by decide +kernel
theorem dX9_cutWord_60 : decode cX9_cutWord 60 = .ok (.goto (-50), 3) := by decide +kernel
theorem dX9_cutWord_63 : decode cX9_cutWord 63 = .ok (.aload_n 0, 1) := by decide +kernel
theorem dX9_cutWord_64 : decode cX9_cutWord 64 = .ok (.getfield 19, 3) := by decide +kernel
theorem dX9_cutWord_67 : decode cX9_cutWord 67 = .ok (.aload_n 0, 1) := by decide +kernel
theorem dX9_cutWord_68 : decode cX9_cutWord 68 = .ok (.getfield 15, 3) := by decide +kernel
theorem dX9_cutWord_71 : decode cX9_cutWord 71 = .ok (.if_icmp .lt 11, 3) := by decide +kernel
theorem dX9_cutWord_74 : decode cX9_cutWord 74 = .ok (.aload_n 0, 1) := by decide +kernel
theorem dX9_cutWord_75 : decode cX9_cutWord 75 = .ok (.iconst 5, 1) := by decide +kernel
theorem dX9_cutWord_76 : decode cX9_cutWord 76 = .ok (.putfield 25, 3) := by decide +kernel
theorem dX9_cutWord_79 : decode cX9_cutWord 79 = .ok (.goto 54, 3) := by decide +kernel
theorem dX9_cutWord_82 : decode cX9_cutWord 82 = .ok (.aload_n 0, 1) := by decide +kernel
theorem dX9_cutWord_83 : decode cX9_cutWord 83 = .ok (.getfield 9, 3) := by decide +kernel
theorem dX9_cutWord_86 : decode cX9_cutWord 86 = .ok (.aload_n 0, 1) := by decide +kernel
theorem dX9_cutWord_87 : decode cX9_cutWord 87 = .ok (.getfield 19, 3) := by decide +kernel
theorem dX9_cutWord_90 : decode cX9_cutWord 90 = .ok (.iaload, 1) := by decide +kernel
theorem dX9_cutWord_91 : decode cX9_cutWord 91 = .ok (.bipush 125, 2) := by decide +kernel
theorem dX9_cutWord_93 : decode cX9_cutWord 93 = .ok (.if_icmp .ne 34, 3) := by decide +kernel
theorem dX9_cutWord_96 : decode cX9_cutWord 96 = .ok (.aload_n 0, 1) := by decide +kernel
theorem dX9_cutWord_97 : decode cX9_cutWord 97 = .ok (.getfield 19, 3) := by decide +kernel
theorem dX9_cutWord_100 : decode cX9_cutWord 100 = .ok (.aload_n 0, 1) := by decide +kernel
theorem dX9_cutWord_101 : decode cX9_cutWord 101 = .ok (.getfield 22, 3) := by decide +kernel
theorem dX9_cutWord_104 : decode cX9_cutWord 104 = .ok (.isub, 1) := by decide +kernel
theorem dX9_cutWord_105 : decode cX9_cutWord 105 = .ok (.iconst 1, 1) := by decide +kernel
theorem dX9_cutWord_106 : decode cX9_cutWord 106 = .ok (.if_icmp .le 21, 3) := by decide +kernel
theorem dX9_cutWord_109 : decode cX9_cutWord 109 = .ok (.aload_n 0, 1) := by decide +kernel
theorem dX9_cutWord_110 : decode cX9_cutWord 110 = .ok (.iconst 4, 1) := by decide +kernel
theorem dX9_cutWord_111 : decode cX9_cutWord 111 = .ok (.putfield 25, 3) := by decide +kernel
theorem dX9_cutWord_114 : decode cX9_cutWord 114 = .ok (.aload_n 0, 1) := by decide +kernel
theorem dX9_cutWord_115 : decode cX9_cutWord 115 = .ok (.dup, 1) := by decide +kernel
theorem dX9_cutWord_116 : decode cX9_cutWord 116 = .ok (.getfield 19, 3) := by decide +kernel
theorem dX9_cutWord_119 : decode cX9_cutWord 119 = .ok (.iconst 1, 1) := by decide +kernel
theorem dX9_cutWord_120 : decode cX9_cutWord 120 = .ok (.iadd, 1) := by decide +kernel
theorem dX9_cutWord_121 : decode cX9_cutWord 121 = .ok (.putfield 19, 3) := by decide +kernel
theorem dX9_cutWord_124 : decode cX9_cutWord 124 = .ok (.goto 9, 3) := by decide +kernel
theorem dX9_cutWord_127 : decode cX9_cutWord 127 = .ok (.aload_n 0, 1) := by decide +kernel
theorem dX9_cutWord_128 : decode cX9_cutWord 128 = .ok (.bipush 6, 2) := by decide +kernel
theorem dX9_cutWord_130 : decode cX9_cutWord 130 = .ok (.putfield 25, 3) := by decide +kernel
theorem dX9_cutWord_133 : decode cX9_cutWord 133 = .ok (.return_, 1) := by decide +kernel
theorem dX9_hasRoom_0 : decode cX9_hasRoom 0 = .ok (.aload_n 0, 1) := by decide +kernel
theorem dX9_hasRoom_1 : decode cX9_hasRoom 1 = .ok (.getfield 15, 3) := by decide +kernel
theorem dX9_hasRoom_4 : decode cX9_hasRoom 4 = .ok (.iload_n 1, 1) := by decide +kernel
theorem dX9_hasRoom_5 : decode cX9_hasRoom 5 = .ok (.iadd, 1) := by decide +kernel
theorem dX9_hasRoom_6 : decode cX9_hasRoom 6 = .ok (.sipush 500, 3) := by decide +kernel
theorem dX9_hasRoom_9 : decode cX9_hasRoom 9 = .ok (.if_icmp .gt 7, 3) := by decide +kernel
theorem dX9_hasRoom_12 : decode cX9_hasRoom 12 = .ok (.iconst 1, 1) := by decide +kernel
theorem dX9_hasRoom_13 : decode cX9_hasRoom 13 = .ok (.goto 4, 3) := by decide +kernel
theorem dX9_hasRoom_16 : decode cX9_hasRoom 16 = .ok (.iconst 0, 1) := by decide +kernel
theorem dX9_hasRoom_17 : decode cX9_hasRoom 17 = .ok (.ireturn, 1) := by decide +kernel
theorem dX9_isSign_0 : decode cX9_isSign 0 = .ok (.iload_n 0, 1) := by decide +kernel
theorem dX9_isSign_1 : decode cX9_isSign 1 = .ok (.bipush 61, 2) := by decide +kernel
theorem dX9_isSign_3 : decode cX9_isSign 3 = .ok (.if_icmp .eq 33, 3) := by decide +kernel
theorem dX9_isSign_6 : decode cX9_isSign 6 = .ok (.iload_n 0, 1) := by decide +kernel
theorem dX9_isSign_7 : decode cX9_isSign 7 = .ok (.bipush 59, 2) := by decide +kernel
theorem dX9_isSign_9 : decode cX9_isSign 9 = .ok (.if_icmp .eq 27, 3) := by decide +kernel
theorem dX9_isSign_12 : decode cX9_isSign 12 = .ok (.iload_n 0, 1) := by decide +kernel
theorem dX9_isSign_13 : decode cX9_isSign 13 = .ok (.bipush 42, 2) := by decide +kernel
theorem dX9_isSign_15 : decode cX9_isSign 15 = .ok (.if_icmp .eq 21, 3) := by decide +kernel
theorem dX9_isSign_18 : decode cX9_isSign 18 = .ok (.iload_n 0, 1) := by decide +kernel
theorem dX9_isSign_19 : decode cX9_isSign 19 = .ok (.bipush 63, 2) := by decide +kernel
theorem dX9_isSign_21 : decode cX9_isSign 21 = .ok (.if_icmp .eq 15, 3) := by decide +kernel
theorem dX9_isSign_24 : decode cX9_isSign 24 = .ok (.iload_n 0, 1) := by decide +kernel
theorem dX9_isSign_25 : decode cX9_isSign 25 = .ok (.bipush 40, 2) := by decide +kernel
theorem dX9_isSign_27 : decode cX9_isSign 27 = .ok (.if_icmp .eq 9, 3) := by decide +kernel
theorem dX9_isSign_30 : decode cX9_isSign 30 = .ok (.iload_n 0, 1) := by decide +kernel
theorem dX9_isSign_31 : decode cX9_isSign 31 = .ok (.bipush 41, 2) := by decide +kernel
theorem dX9_isSign_33 : decode cX9_isSign 33 = .ok (.if_icmp .ne 7, 3) := by decide +kernel
theorem dX9_isSign_36 : decode cX9_isSign 36 = .ok (.iconst 1, 1) := by decide +kernel
theorem dX9_isSign_37 : decode cX9_isSign 37 = .ok (.goto 4, 3) := by decide +kernel
theorem dX9_isSign_40 : decode cX9_isSign 40 = .ok (.iconst 0, 1) := by decide +kernel
theorem dX9_isSign_41 : decode cX9_isSign 41 = .ok (.ireturn, 1) := by decide +kernel
theorem dX9_rewind_0 : decode cX9_rewind 0 = .ok (.aload_n 0, 1) := by decide +kernel
theorem dX9_rewind_1 : decode cX9_rewind 1 = .ok (.iconst 0, 1) := by decide +kernel
theorem dX9_rewind_2 : decode cX9_rewind 2 = .ok (.putfield 19, 3) := by decide +kernel
theorem dX9_rewind_5 : decode cX9_rewind 5 = .ok (.return_, 1) := by decide +kernel
theorem dX9_spells_0 : decode cX9_spells 0 = .ok (.aload_n 0, 1) := by decide +kernel
theorem dX9_spells_1 : decode cX9_spells 1 = .ok (.getfield 19, 3) := by decide +kernel
theorem dX9_spells_4 : decode cX9_spells 4 = .ok (.aload_n 0, 1) := by decide +kernel
theorem dX9_spells_5 : decode cX9_spells 5 = .ok (.getfield 22, 3) := by decide +kernel
theorem dX9_spells_8 : decode cX9_spells 8 = .ok (.isub, 1) := by decide +kernel
theorem dX9_spells_9 : decode cX9_spells 9 = .ok (.aload_n 1, 1) := by decide +kernel
theorem dX9_spells_10 : decode cX9_spells 10 = .ok (.invokevirtual 52, 3) := by decide +kernel
theorem dX9_spells_13 : decode cX9_spells 13 = .ok (.if_icmp .eq 5, 3) := by decide +kernel
theorem dX9_spells_16 : decode cX9_spells 16 = .ok (.iconst 0, 1) := by decide +kernel
theorem dX9_spells_17 : decode cX9_spells 17 = .ok (.ireturn, 1) := by decide +kernel
theorem dX9_spells_18 : decode cX9_spells 18 = .ok (.iconst 0, 1) := by decide +kernel
theorem dX9_spells_19 : decode cX9_spells 19 = .ok (.istore_n 2, 1) := by decide +kernel
theorem dX9_spells_20 : decode cX9_spells 20 = .ok (.iload_n 2, 1) := by decide +kernel
theorem dX9_spells_21 : decode cX9_spells 21 = .ok (.aload_n 1, 1) := by decide +kernel
theorem dX9_spells_22 : decode cX9_spells 22 = .ok (.invokevirtual 52, 3) := by decide +kernel
theorem dX9_spells_25 : decode cX9_spells 25 = .ok (.if_icmp .ge 30, 3) := by decide +kernel
theorem dX9_spells_28 : decode cX9_spells 28 = .ok (.aload_n 0, 1) := by decide +kernel
theorem dX9_spells_29 : decode cX9_spells 29 = .ok (.getfield 9, 3) := by decide +kernel
theorem dX9_spells_32 : decode cX9_spells 32 = .ok (.aload_n 0, 1) := by decide +kernel
theorem dX9_spells_33 : decode cX9_spells 33 = .ok (.getfield 22, 3) := by decide +kernel
theorem dX9_spells_36 : decode cX9_spells 36 = .ok (.iload_n 2, 1) := by decide +kernel
theorem dX9_spells_37 : decode cX9_spells 37 = .ok (.iadd, 1) := by decide +kernel
theorem dX9_spells_38 : decode cX9_spells 38 = .ok (.iaload, 1) := by decide +kernel
theorem dX9_spells_39 : decode cX9_spells 39 = .ok (.aload_n 1, 1) := by decide +kernel
theorem dX9_spells_40 : decode cX9_spells 40 = .ok (.iload_n 2, 1) := by decide +kernel
theorem dX9_spells_41 : decode cX9_spells 41 = .ok (.invokevirtual 57, 3) := by decide +kernel
theorem dX9_spells_44 : decode cX9_spells 44 = .ok (.if_icmp .eq 5, 3) := by decide +kernel
theorem dX9_spells_47 : decode cX9_spells 47 = .ok (.iconst 0, 1) := by decide +kernel
theorem dX9_spells_48 : decode cX9_spells 48 = .ok (.ireturn, 1) := by decide +kernel
theorem dX9_spells_49 : decode cX9_spells 49 = .ok (.iinc 2 1, 3) := by decide +kernel
theorem dX9_spells_52 : decode cX9_spells 52 = .ok (.goto (-32), 3) := by decide +kernel
theorem dX9_spells_55 : decode cX9_spells 55 = .ok (.iconst 1, 1) := by decide +kernel
theorem dX9_spells_56 : decode cX9_spells 56 = .ok (.ireturn, 1) := by decide +kernel
theorem dX9_wordHere_0 : decode cX9_wordHere 0 = .ok (.lconst 0, 1) := by decide +kernel
theorem dX9_wordHere_1 : decode cX9_wordHere 1 = .ok (.lstore_n 1, 1) := by decide +kernel
theorem dX9_wordHere_2 : decode cX9_wordHere 2 = .ok (.bipush 56, 2) := by decide +kernel
theorem dX9_wordHere_4 : decode cX9_wordHere 4 = .ok (.istore_n 3, 1) := by decide +kernel
theorem dX9_wordHere_5 : decode cX9_wordHere 5 = .ok (.aload_n 0, 1) := by decide +kernel
theorem dX9_wordHere_6 : decode cX9_wordHere 6 = .ok (.getfield 22, 3) := by decide +kernel
theorem dX9_wordHere_9 : decode cX9_wordHere 9 = .ok (.iconst 1, 1) := by decide +kernel
theorem dX9_wordHere_10 : decode cX9_wordHere 10 = .ok (.iadd, 1) := by decide +kernel
theorem dX9_wordHere_11 : decode cX9_wordHere 11 = .ok (.istore 4, 2) := by decide +kernel
theorem dX9_wordHere_13 : decode cX9_wordHere 13 = .ok (.iload 4, 2) := by decide +kernel
theorem dX9_wordHere_15 : decode cX9_wordHere 15 = .ok (.aload_n 0, 1) := by decide +kernel
theorem dX9_wordHere_16 : decode cX9_wordHere 16 = .ok (.getfield 19, 3) := by decide +kernel
theorem dX9_wordHere_19 : decode cX9_wordHere 19 = .ok (.iconst 1, 1) := by decide +kernel
theorem dX9_wordHere_20 : decode cX9_wordHere 20 = .ok (.isub, 1) := by decide +kernel
theorem dX9_wordHere_21 : decode cX9_wordHere 21 = .ok (.if_icmp .ge 29, 3) := by decide +kernel
theorem dX9_wordHere_24 : decode cX9_wordHere 24 = .ok (.iload_n 3, 1) := by decide +kernel
theorem dX9_wordHere_25 : decode cX9_wordHere 25 = .ok (.ifCond .lt 25, 3) := by decide +kernel
theorem dX9_wordHere_28 : decode cX9_wordHere 28 = .ok (.lload_n 1, 1) := by decide +kernel
theorem dX9_wordHere_29 : decode cX9_wordHere 29 = .ok (.aload_n 0, 1) := by decide +kernel
theorem dX9_wordHere_30 : decode cX9_wordHere 30 = .ok (.getfield 9, 3) := by decide +kernel
theorem dX9_wordHere_33 : decode cX9_wordHere 33 = .ok (.iload 4, 2) := by decide +kernel
theorem dX9_wordHere_35 : decode cX9_wordHere 35 = .ok (.iaload, 1) := by decide +kernel
theorem dX9_wordHere_36 : decode cX9_wordHere 36 = .ok (.i2l, 1) := by decide +kernel
theorem dX9_wordHere_37 : decode cX9_wordHere 37 = .ok (.iload_n 3, 1) := by decide +kernel
theorem dX9_wordHere_38 : decode cX9_wordHere 38 = .ok (.lshl, 1) := by decide +kernel
theorem dX9_wordHere_39 : decode cX9_wordHere 39 = .ok (.lor, 1) := by decide +kernel
theorem dX9_wordHere_40 : decode cX9_wordHere 40 = .ok (.lstore_n 1, 1) := by decide +kernel
theorem dX9_wordHere_41 : decode cX9_wordHere 41 = .ok (.iinc 3 (-8), 3) := by decide +kernel
theorem dX9_wordHere_44 : decode cX9_wordHere 44 = .ok (.iinc 4 1, 3) := by decide +kernel
theorem dX9_wordHere_47 : decode cX9_wordHere 47 = .ok (.goto (-34), 3) := by decide +kernel
theorem dX9_wordHere_50 : decode cX9_wordHere 50 = .ok (.lload_n 1, 1) := by decide +kernel
theorem dX9_wordHere_51 : decode cX9_wordHere 51 = .ok (.lreturn, 1) := by decide +kernel
theorem cw_0 : Cond.initialized "TreeMergeLaw" ∈ cx_big := cx_tb 0 (by decide +kernel) (by decide +kernel)
theorem cw_1 : Cond.initialized "TreeMerge" ∈ cx_big := cx_tb 1 (by decide +kernel) (by decide +kernel)
theorem cw_13 : Cond.initialized "TreeMergeModel" ∈ cx_big := cx_tb 13 (by decide +kernel) (by decide +kernel)
theorem cw_14 : Cond.initialized "java/lang/String" ∈ cx_big := cx_tb 14 (by decide +kernel) (by decide +kernel)
theorem cw_15 : Cond.initialized "java/lang/StringLatin1" ∈ cx_big := cx_tb 15 (by decide +kernel) (by decide +kernel)
theorem cw_16 : Cond.initialized "jdk/internal/util/Preconditions" ∈ cx_big := cx_tb 16 (by decide +kernel) (by decide +kernel)
theorem cw_17 : Cond.initialized "java/lang/StringUTF16" ∈ cx_big := cx_tb 17 (by decide +kernel) (by decide +kernel)
theorem cw_18 : Cond.initialized "java/lang/System" ∈ cx_big := cx_tb 18 (by decide +kernel) (by decide +kernel)
theorem cw_19 : Cond.initialized "java/lang/Math" ∈ cx_big := cx_tb 19 (by decide +kernel) (by decide +kernel)
theorem cw_20 : Cond.classLink "TreeMergeLaw" 7 "TreeMerge" ∈ cx_big := cx_tb 20 (by decide +kernel) (by decide +kernel)
theorem cw_21 : Cond.instantiable "TreeMerge" 19 ∈ cx_big := cx_tb 21 (by decide +kernel) (by decide +kernel)
theorem cw_22 : Cond.methodLink "TreeMergeLaw" 9 yX11_init ∈ cx_big := cx_tb 22 (by decide +kernel) (by decide +kernel)
theorem cw_23 : Cond.instanceMethod yX11_init ∈ cx_big := cx_tb 23 (by decide +kernel) (by decide +kernel)
theorem cw_24 : Cond.code yX11_init cX11_init 1 none ∈ cx_big := cx_tb 24 (by decide +kernel) (by decide +kernel)
theorem cw_35 : Cond.fieldLink "TreeMerge$Grammar" 55 "TreeMerge$Text" "bytes" "[I" ∈ cx_big := cx_tb 35 (by decide +kernel) (by decide +kernel)
theorem cw_36 : Cond.fieldLink "TreeMerge$Text" 15 "TreeMerge$Text" "length" "I" ∈ cx_big := cx_tb 36 (by decide +kernel) (by decide +kernel)
theorem cw_37 : Cond.fieldLink "TreeMerge" 109 "TreeMerge$Text" "length" "I" ∈ cx_big := cx_tb 37 (by decide +kernel) (by decide +kernel)
theorem cw_38 : Cond.fieldLink "TreeMerge$Grammar" 56 "TreeMerge$Text" "length" "I" ∈ cx_big := cx_tb 38 (by decide +kernel) (by decide +kernel)
theorem cw_39 : Cond.fieldLink "TreeMerge$Tree" 69 "TreeMerge$Text" "length" "I" ∈ cx_big := cx_tb 39 (by decide +kernel) (by decide +kernel)
theorem cw_40 : Cond.fieldLink "TreeMerge$Grammar" 78 "TreeMerge$Text" "type" "I" ∈ cx_big := cx_tb 40 (by decide +kernel) (by decide +kernel)
theorem cw_41 : Cond.fieldLink "TreeMerge$Text" 25 "TreeMerge$Text" "type" "I" ∈ cx_big := cx_tb 41 (by decide +kernel) (by decide +kernel)
theorem cw_42 : Cond.fieldLink "TreeMerge$Tree" 59 "TreeMerge$Text" "type" "I" ∈ cx_big := cx_tb 42 (by decide +kernel) (by decide +kernel)
theorem cw_43 : Cond.fieldLink "TreeMerge$Text" 22 "TreeMerge$Text" "start" "I" ∈ cx_big := cx_tb 43 (by decide +kernel) (by decide +kernel)
theorem cw_44 : Cond.fieldLink "TreeMerge$Grammar" 88 "TreeMerge$Text" "start" "I" ∈ cx_big := cx_tb 44 (by decide +kernel) (by decide +kernel)
theorem cw_45 : Cond.fieldLink "TreeMerge$Tree" 62 "TreeMerge$Text" "start" "I" ∈ cx_big := cx_tb 45 (by decide +kernel) (by decide +kernel)
theorem cw_46 : Cond.fieldLink "TreeMerge$Text" 19 "TreeMerge$Text" "stop" "I" ∈ cx_big := cx_tb 46 (by decide +kernel) (by decide +kernel)
theorem cw_47 : Cond.fieldLink "TreeMerge$Grammar" 91 "TreeMerge$Text" "stop" "I" ∈ cx_big := cx_tb 47 (by decide +kernel) (by decide +kernel)
theorem cw_67 : Cond.fieldLink "TreeMerge$Printer" 65 "TreeMerge$Grammar" "bytes" "[I" ∈ cx_big := cx_tb 67 (by decide +kernel) (by decide +kernel)
theorem cw_68 : Cond.fieldLink "TreeMerge$Grammar" 45 "TreeMerge$Grammar" "kinds" "I" ∈ cx_big := cx_tb 68 (by decide +kernel) (by decide +kernel)
theorem cw_69 : Cond.fieldLink "TreeMerge" 121 "TreeMerge$Grammar" "kinds" "I" ∈ cx_big := cx_tb 69 (by decide +kernel) (by decide +kernel)
theorem cw_71 : Cond.fieldLink "TreeMerge$Printer" 59 "TreeMerge$Grammar" "nameStarts" "[I" ∈ cx_big := cx_tb 71 (by decide +kernel) (by decide +kernel)
theorem cw_73 : Cond.fieldLink "TreeMerge$Printer" 62 "TreeMerge$Grammar" "nameStops" "[I" ∈ cx_big := cx_tb 73 (by decide +kernel) (by decide +kernel)
theorem cw_77 : Cond.fieldLink "TreeMerge$Grammar" 65 "TreeMerge$Grammar" "items" "I" ∈ cx_big := cx_tb 77 (by decide +kernel) (by decide +kernel)
theorem cw_116 : Cond.fieldLink "TreeMerge$Tree" 34 "TreeMerge$Tree" "size" "I" ∈ cx_big := cx_tb 116 (by decide +kernel) (by decide +kernel)
theorem cw_117 : Cond.fieldLink "TreeMerge$Side" 29 "TreeMerge$Tree" "size" "I" ∈ cx_big := cx_tb 117 (by decide +kernel) (by decide +kernel)
theorem cw_118 : Cond.fieldLink "TreeMerge$Matcher" 38 "TreeMerge$Tree" "size" "I" ∈ cx_big := cx_tb 118 (by decide +kernel) (by decide +kernel)
theorem cw_119 : Cond.fieldLink "TreeMerge$Printer" 25 "TreeMerge$Tree" "size" "I" ∈ cx_big := cx_tb 119 (by decide +kernel) (by decide +kernel)
theorem cw_120 : Cond.fieldLink "TreeMerge$Editions" 44 "TreeMerge$Tree" "size" "I" ∈ cx_big := cx_tb 120 (by decide +kernel) (by decide +kernel)
theorem cw_121 : Cond.fieldLink "TreeMerge" 172 "TreeMerge$Tree" "size" "I" ∈ cx_big := cx_tb 121 (by decide +kernel) (by decide +kernel)
theorem cw_123 : Cond.fieldLink "TreeMerge$Side" 32 "TreeMerge$Tree" "ids" "[I" ∈ cx_big := cx_tb 123 (by decide +kernel) (by decide +kernel)
theorem cw_124 : Cond.fieldLink "TreeMerge$Editions" 45 "TreeMerge$Tree" "ids" "[I" ∈ cx_big := cx_tb 124 (by decide +kernel) (by decide +kernel)
theorem cw_125 : Cond.fieldLink "TreeMerge" 192 "TreeMerge$Tree" "ids" "[I" ∈ cx_big := cx_tb 125 (by decide +kernel) (by decide +kernel)
theorem cw_126 : Cond.fieldLink "TreeMerge$Matcher" 114 "TreeMerge$Tree" "ids" "[I" ∈ cx_big := cx_tb 126 (by decide +kernel) (by decide +kernel)
theorem cw_128 : Cond.fieldLink "TreeMerge$Side" 46 "TreeMerge$Tree" "ups" "[I" ∈ cx_big := cx_tb 128 (by decide +kernel) (by decide +kernel)
theorem cw_129 : Cond.fieldLink "TreeMerge" 198 "TreeMerge$Tree" "ups" "[I" ∈ cx_big := cx_tb 129 (by decide +kernel) (by decide +kernel)
theorem cw_131 : Cond.fieldLink "TreeMerge$Draft" 42 "TreeMerge$Tree" "tops" "[I" ∈ cx_big := cx_tb 131 (by decide +kernel) (by decide +kernel)
theorem cw_132 : Cond.fieldLink "TreeMerge$Matcher" 76 "TreeMerge$Tree" "tops" "[I" ∈ cx_big := cx_tb 132 (by decide +kernel) (by decide +kernel)
theorem cw_133 : Cond.fieldLink "TreeMerge$Side" 60 "TreeMerge$Tree" "tops" "[I" ∈ cx_big := cx_tb 133 (by decide +kernel) (by decide +kernel)
theorem cw_134 : Cond.fieldLink "TreeMerge" 201 "TreeMerge$Tree" "tops" "[I" ∈ cx_big := cx_tb 134 (by decide +kernel) (by decide +kernel)
theorem cw_136 : Cond.fieldLink "TreeMerge$Printer" 30 "TreeMerge$Tree" "deeps" "[I" ∈ cx_big := cx_tb 136 (by decide +kernel) (by decide +kernel)
theorem cw_137 : Cond.fieldLink "TreeMerge" 334 "TreeMerge$Tree" "deeps" "[I" ∈ cx_big := cx_tb 137 (by decide +kernel) (by decide +kernel)
theorem cw_139 : Cond.fieldLink "TreeMerge$Draft" 29 "TreeMerge$Tree" "kinds" "[I" ∈ cx_big := cx_tb 139 (by decide +kernel) (by decide +kernel)
theorem cw_140 : Cond.fieldLink "TreeMerge$Side" 39 "TreeMerge$Tree" "kinds" "[I" ∈ cx_big := cx_tb 140 (by decide +kernel) (by decide +kernel)
theorem cw_141 : Cond.fieldLink "TreeMerge$Printer" 38 "TreeMerge$Tree" "kinds" "[I" ∈ cx_big := cx_tb 141 (by decide +kernel) (by decide +kernel)
theorem cw_142 : Cond.fieldLink "TreeMerge$Matcher" 91 "TreeMerge$Tree" "kinds" "[I" ∈ cx_big := cx_tb 142 (by decide +kernel) (by decide +kernel)
theorem cw_143 : Cond.fieldLink "TreeMerge" 175 "TreeMerge$Tree" "kinds" "[I" ∈ cx_big := cx_tb 143 (by decide +kernel) (by decide +kernel)
theorem cw_145 : Cond.fieldLink "TreeMerge$Matcher" 68 "TreeMerge$Tree" "words" "[J" ∈ cx_big := cx_tb 145 (by decide +kernel) (by decide +kernel)
theorem cw_146 : Cond.fieldLink "TreeMerge$Editions" 48 "TreeMerge$Tree" "words" "[J" ∈ cx_big := cx_tb 146 (by decide +kernel) (by decide +kernel)
theorem cw_147 : Cond.fieldLink "TreeMerge$Printer" 45 "TreeMerge$Tree" "words" "[J" ∈ cx_big := cx_tb 147 (by decide +kernel) (by decide +kernel)
theorem cw_148 : Cond.fieldLink "TreeMerge$Side" 42 "TreeMerge$Tree" "words" "[J" ∈ cx_big := cx_tb 148 (by decide +kernel) (by decide +kernel)
theorem cw_149 : Cond.fieldLink "TreeMerge" 251 "TreeMerge$Tree" "words" "[J" ∈ cx_big := cx_tb 149 (by decide +kernel) (by decide +kernel)
theorem cw_151 : Cond.fieldLink "TreeMerge$Editions" 56 "TreeMerge$Tree" "writers" "[I" ∈ cx_big := cx_tb 151 (by decide +kernel) (by decide +kernel)
theorem cw_152 : Cond.fieldLink "TreeMerge" 331 "TreeMerge$Tree" "writers" "[I" ∈ cx_big := cx_tb 152 (by decide +kernel) (by decide +kernel)
theorem cw_177 : Cond.fieldLink "TreeMerge$Kids" 19 "TreeMerge$Kids" "size" "I" ∈ cx_big := cx_tb 177 (by decide +kernel) (by decide +kernel)
theorem cw_178 : Cond.fieldLink "TreeMerge$Grammar" 106 "TreeMerge$Kids" "size" "I" ∈ cx_big := cx_tb 178 (by decide +kernel) (by decide +kernel)
theorem cw_180 : Cond.fieldLink "TreeMerge$Grammar" 118 "TreeMerge$Kids" "kinds" "[I" ∈ cx_big := cx_tb 180 (by decide +kernel) (by decide +kernel)
theorem cw_202 : Cond.fieldLink "TreeMerge$Matcher" 46 "TreeMerge$Matcher" "cost" "I" ∈ cx_big := cx_tb 202 (by decide +kernel) (by decide +kernel)
theorem cw_203 : Cond.fieldLink "TreeMerge" 152 "TreeMerge$Matcher" "cost" "I" ∈ cx_big := cx_tb 203 (by decide +kernel) (by decide +kernel)
theorem cw_204 : Cond.fieldLink "TreeMerge$Matcher" 42 "TreeMerge$Matcher" "exact" "Z" ∈ cx_big := cx_tb 204 (by decide +kernel) (by decide +kernel)
theorem cw_205 : Cond.fieldLink "TreeMerge" 155 "TreeMerge$Matcher" "exact" "Z" ∈ cx_big := cx_tb 205 (by decide +kernel) (by decide +kernel)
theorem cw_229 : Cond.fieldLink "TreeMerge$Editions" 27 "TreeMerge$Editions" "size" "I" ∈ cx_big := cx_tb 229 (by decide +kernel) (by decide +kernel)
theorem cw_230 : Cond.fieldLink "TreeMerge" 187 "TreeMerge$Editions" "size" "I" ∈ cx_big := cx_tb 230 (by decide +kernel) (by decide +kernel)
theorem cw_233 : Cond.fieldLink "TreeMerge" 361 "TreeMerge$Editions" "firsts" "[I" ∈ cx_big := cx_tb 233 (by decide +kernel) (by decide +kernel)
theorem cw_235 : Cond.fieldLink "TreeMerge" 364 "TreeMerge$Editions" "seconds" "[I" ∈ cx_big := cx_tb 235 (by decide +kernel) (by decide +kernel)
theorem cw_256 : Cond.fieldLink "TreeMerge$Draft" 21 "TreeMerge$Draft" "open" "Z" ∈ cx_big := cx_tb 256 (by decide +kernel) (by decide +kernel)
theorem cw_257 : Cond.fieldLink "TreeMerge" 208 "TreeMerge$Draft" "open" "Z" ∈ cx_big := cx_tb 257 (by decide +kernel) (by decide +kernel)
theorem cw_258 : Cond.fieldLink "TreeMerge" 211 "TreeMerge$Draft" "edition" "I" ∈ cx_big := cx_tb 258 (by decide +kernel) (by decide +kernel)
theorem cw_260 : Cond.fieldLink "TreeMerge" 214 "TreeMerge$Draft" "tree" "LTreeMerge$Tree;" ∈ cx_big := cx_tb 260 (by decide +kernel) (by decide +kernel)
theorem cw_277 : Cond.fieldLink "TreeMerge$Settled" 19 "TreeMerge$Settled" "size" "I" ∈ cx_big := cx_tb 277 (by decide +kernel) (by decide +kernel)
theorem cw_278 : Cond.fieldLink "TreeMerge" 316 "TreeMerge$Settled" "size" "I" ∈ cx_big := cx_tb 278 (by decide +kernel) (by decide +kernel)
theorem cw_300 : Cond.fieldLink "TreeMerge$Side" 25 "TreeMerge$Side" "edition" "I" ∈ cx_big := cx_tb 300 (by decide +kernel) (by decide +kernel)
theorem cw_301 : Cond.fieldLink "TreeMerge$Merging" 112 "TreeMerge$Side" "edition" "I" ∈ cx_big := cx_tb 301 (by decide +kernel) (by decide +kernel)
theorem cw_316 : Cond.fieldLink "TreeMerge" 285 "TreeMerge$Merging" "one" "LTreeMerge$Side;" ∈ cx_big := cx_tb 316 (by decide +kernel) (by decide +kernel)
theorem cw_318 : Cond.fieldLink "TreeMerge" 295 "TreeMerge$Merging" "other" "LTreeMerge$Side;" ∈ cx_big := cx_tb 318 (by decide +kernel) (by decide +kernel)
theorem cw_320 : Cond.fieldLink "TreeMerge" 298 "TreeMerge$Merging" "base" "LTreeMerge$Side;" ∈ cx_big := cx_tb 320 (by decide +kernel) (by decide +kernel)
theorem cw_322 : Cond.fieldLink "TreeMerge" 282 "TreeMerge$Merging" "result" "LTreeMerge$Tree;" ∈ cx_big := cx_tb 322 (by decide +kernel) (by decide +kernel)
theorem cw_329 : Cond.fieldLink "TreeMerge$Merging" 60 "TreeMerge$Merging" "quarrelled" "Z" ∈ cx_big := cx_tb 329 (by decide +kernel) (by decide +kernel)
theorem cw_331 : Cond.fieldLink "TreeMerge$Merging" 156 "TreeMerge$Merging" "childrenSize" "I" ∈ cx_big := cx_tb 331 (by decide +kernel) (by decide +kernel)
theorem cw_371 : Cond.fieldLink "TreeMerge$Printer" 9 "TreeMerge$Printer" "wanted" "I" ∈ cx_big := cx_tb 371 (by decide +kernel) (by decide +kernel)
theorem cw_372 : Cond.fieldLink "TreeMerge$Printer" 15 "TreeMerge$Printer" "written" "I" ∈ cx_big := cx_tb 372 (by decide +kernel) (by decide +kernel)
theorem cw_373 : Cond.fieldLink "TreeMerge" 355 "TreeMerge$Printer" "written" "I" ∈ cx_big := cx_tb 373 (by decide +kernel) (by decide +kernel)
theorem cw_374 : Cond.fieldLink "TreeMerge$Printer" 18 "TreeMerge$Printer" "found" "I" ∈ cx_big := cx_tb 374 (by decide +kernel) (by decide +kernel)
theorem cw_375 : Cond.fieldLink "TreeMerge" 358 "TreeMerge$Printer" "found" "I" ∈ cx_big := cx_tb 375 (by decide +kernel) (by decide +kernel)
theorem cw_398 : Cond.fieldLink "TreeMerge" 181 "TreeMerge" "numbers" "I" ∈ cx_big := cx_tb 398 (by decide +kernel) (by decide +kernel)
theorem cw_400 : Cond.fieldLink "TreeMerge" 309 "TreeMerge" "toldSize" "I" ∈ cx_big := cx_tb 400 (by decide +kernel) (by decide +kernel)
theorem cw_441 : Cond.methodLink "TreeMergeLaw" 13 yX11_feed ∈ cx_big := cx_tb 441 (by decide +kernel) (by decide +kernel)
theorem cw_442 : Cond.instanceMethod yX11_feed ∈ cx_big := cx_tb 442 (by decide +kernel) (by decide +kernel)
theorem cw_443 : Cond.selects "TreeMerge" yX11_feed yX11_feed ∈ cx_big := cx_tb 443 (by decide +kernel) (by decide +kernel)
theorem cw_444 : Cond.code yX11_feed cX11_feed 6 (some .int) ∈ cx_big := cx_tb 444 (by decide +kernel) (by decide +kernel)
theorem cw_445 : Cond.methodLink "TreeMerge" 101 yX9_hasRoom ∈ cx_big := cx_tb 445 (by decide +kernel) (by decide +kernel)
theorem cw_446 : Cond.instanceMethod yX9_hasRoom ∈ cx_big := cx_tb 446 (by decide +kernel) (by decide +kernel)
theorem cw_447 : Cond.selects "TreeMerge$Text" yX9_hasRoom yX9_hasRoom ∈ cx_big := cx_tb 447 (by decide +kernel) (by decide +kernel)
theorem cw_448 : Cond.code yX9_hasRoom cX9_hasRoom 2 (some .boolean) ∈ cx_big := cx_tb 448 (by decide +kernel) (by decide +kernel)
theorem cw_449 : Cond.methodLink "TreeMerge" 105 yX9_append ∈ cx_big := cx_tb 449 (by decide +kernel) (by decide +kernel)
theorem cw_450 : Cond.instanceMethod yX9_append ∈ cx_big := cx_tb 450 (by decide +kernel) (by decide +kernel)
theorem cw_451 : Cond.selects "TreeMerge$Text" yX9_append yX9_append ∈ cx_big := cx_tb 451 (by decide +kernel) (by decide +kernel)
theorem cw_452 : Cond.code yX9_append cX9_append 3 none ∈ cx_big := cx_tb 452 (by decide +kernel) (by decide +kernel)
theorem cw_453 : Cond.methodLink "TreeMergeLaw" 18 yX11_end ∈ cx_big := cx_tb 453 (by decide +kernel) (by decide +kernel)
theorem cw_454 : Cond.instanceMethod yX11_end ∈ cx_big := cx_tb 454 (by decide +kernel) (by decide +kernel)
theorem cw_455 : Cond.selects "TreeMerge" yX11_end yX11_end ∈ cx_big := cx_tb 455 (by decide +kernel) (by decide +kernel)
theorem cw_456 : Cond.code yX11_end cX11_end 2 (some .boolean) ∈ cx_big := cx_tb 456 (by decide +kernel) (by decide +kernel)
theorem cw_457 : Cond.methodLink "TreeMergeLaw" 23 yX11_fault ∈ cx_big := cx_tb 457 (by decide +kernel) (by decide +kernel)
theorem cw_458 : Cond.instanceMethod yX11_fault ∈ cx_big := cx_tb 458 (by decide +kernel) (by decide +kernel)
theorem cw_459 : Cond.selects "TreeMerge" yX11_fault yX11_fault ∈ cx_big := cx_tb 459 (by decide +kernel) (by decide +kernel)
theorem cw_460 : Cond.code yX11_fault cX11_fault 2 (some .int) ∈ cx_big := cx_tb 460 (by decide +kernel) (by decide +kernel)
theorem cw_461 : Cond.methodLink "TreeMerge" 113 yX11_readTree ∈ cx_big := cx_tb 461 (by decide +kernel) (by decide +kernel)
theorem cw_463 : Cond.instanceMethod yX11_readTree ∈ cx_big := cx_tb 463 (by decide +kernel) (by decide +kernel)
theorem cw_464 : Cond.code yX11_readTree cX11_readTree 2 (some .int) ∈ cx_big := cx_tb 464 (by decide +kernel) (by decide +kernel)
theorem cw_465 : Cond.methodLink "TreeMerge" 128 yX10_readFrom ∈ cx_big := cx_tb 465 (by decide +kernel) (by decide +kernel)
theorem cw_466 : Cond.instanceMethod yX10_readFrom ∈ cx_big := cx_tb 466 (by decide +kernel) (by decide +kernel)
theorem cw_467 : Cond.selects "TreeMerge$Tree" yX10_readFrom yX10_readFrom ∈ cx_big := cx_tb 467 (by decide +kernel) (by decide +kernel)
theorem cw_468 : Cond.code yX10_readFrom cX10_readFrom 7 (some .int) ∈ cx_big := cx_tb 468 (by decide +kernel) (by decide +kernel)
theorem cw_469 : Cond.methodLink "TreeMerge$Tree" 42 yX10_clear ∈ cx_big := cx_tb 469 (by decide +kernel) (by decide +kernel)
theorem cw_470 : Cond.instanceMethod yX10_clear ∈ cx_big := cx_tb 470 (by decide +kernel) (by decide +kernel)
theorem cw_471 : Cond.selects "TreeMerge$Tree" yX10_clear yX10_clear ∈ cx_big := cx_tb 471 (by decide +kernel) (by decide +kernel)
theorem cw_472 : Cond.code yX10_clear cX10_clear 1 none ∈ cx_big := cx_tb 472 (by decide +kernel) (by decide +kernel)
theorem cw_473 : Cond.methodLink "TreeMerge$Tree" 45 yX9_rewind ∈ cx_big := cx_tb 473 (by decide +kernel) (by decide +kernel)
theorem cw_474 : Cond.instanceMethod yX9_rewind ∈ cx_big := cx_tb 474 (by decide +kernel) (by decide +kernel)
theorem cw_475 : Cond.selects "TreeMerge$Text" yX9_rewind yX9_rewind ∈ cx_big := cx_tb 475 (by decide +kernel) (by decide +kernel)
theorem cw_476 : Cond.code yX9_rewind cX9_rewind 1 none ∈ cx_big := cx_tb 476 (by decide +kernel) (by decide +kernel)
theorem cw_477 : Cond.methodLink "TreeMerge$Tree" 50 yX9_advance ∈ cx_big := cx_tb 477 (by decide +kernel) (by decide +kernel)
theorem cw_478 : Cond.instanceMethod yX9_advance ∈ cx_big := cx_tb 478 (by decide +kernel) (by decide +kernel)
theorem cw_479 : Cond.selects "TreeMerge$Text" yX9_advance yX9_advance ∈ cx_big := cx_tb 479 (by decide +kernel) (by decide +kernel)
theorem cw_480 : Cond.code yX9_advance cX9_advance 1 none ∈ cx_big := cx_tb 480 (by decide +kernel) (by decide +kernel)
theorem cw_482 : Cond.static yX11_isLetter ∈ cx_big := cx_tb 482 (by decide +kernel) (by decide +kernel)
theorem cw_483 : Cond.code yX11_isLetter cX11_isLetter 1 (some .boolean) ∈ cx_big := cx_tb 483 (by decide +kernel) (by decide +kernel)
theorem cw_484 : Cond.methodLink "TreeMerge$Text" 32 yX9_cutName ∈ cx_big := cx_tb 484 (by decide +kernel) (by decide +kernel)
theorem cw_486 : Cond.instanceMethod yX9_cutName ∈ cx_big := cx_tb 486 (by decide +kernel) (by decide +kernel)
theorem cw_487 : Cond.code yX9_cutName cX9_cutName 1 none ∈ cx_big := cx_tb 487 (by decide +kernel) (by decide +kernel)
theorem cw_489 : Cond.methodLink "TreeMerge$Text" 43 yX9_spells ∈ cx_big := cx_tb 489 (by decide +kernel) (by decide +kernel)
theorem cw_491 : Cond.instanceMethod yX9_spells ∈ cx_big := cx_tb 491 (by decide +kernel) (by decide +kernel)
theorem cw_492 : Cond.code yX9_spells cX9_spells 3 (some .boolean) ∈ cx_big := cx_tb 492 (by decide +kernel) (by decide +kernel)
theorem cw_493 : Cond.methodLink "TreeMerge$Text" 52 ⟨"java/lang/String", "length", "()I"⟩ ∈ cx_big := cx_tb 493 (by decide +kernel) (by decide +kernel)
theorem cw_494 : Cond.instanceMethod ⟨"java/lang/String", "length", "()I"⟩ ∈ cx_big := cx_tb 494 (by decide +kernel) (by decide +kernel)
theorem cw_495 : Cond.selects "java/lang/String" ⟨"java/lang/String", "length", "()I"⟩ ⟨"java/lang/String", "length", "()I"⟩ ∈ cx_big := cx_tb 495 (by decide +kernel) (by decide +kernel)
theorem cw_497 : Cond.methodLink "java/lang/String" 335 ⟨"java/lang/String", "coder", "()B"⟩ ∈ cx_big := cx_tb 497 (by decide +kernel) (by decide +kernel)
theorem cw_498 : Cond.instanceMethod ⟨"java/lang/String", "coder", "()B"⟩ ∈ cx_big := cx_tb 498 (by decide +kernel) (by decide +kernel)
theorem cw_499 : Cond.selects "java/lang/String" ⟨"java/lang/String", "coder", "()B"⟩ ⟨"java/lang/String", "coder", "()B"⟩ ∈ cx_big := cx_tb 499 (by decide +kernel) (by decide +kernel)
theorem cw_501 : Cond.fieldLink "java/lang/String" 38 "java/lang/String" "COMPACT_STRINGS" "Z" ∈ cx_big := cx_tb 501 (by decide +kernel) (by decide +kernel)
theorem cw_503 : Cond.methodLink "TreeMerge$Text" 57 ⟨"java/lang/String", "charAt", "(I)C"⟩ ∈ cx_big := cx_tb 503 (by decide +kernel) (by decide +kernel)
theorem cw_504 : Cond.instanceMethod ⟨"java/lang/String", "charAt", "(I)C"⟩ ∈ cx_big := cx_tb 504 (by decide +kernel) (by decide +kernel)
theorem cw_505 : Cond.selects "java/lang/String" ⟨"java/lang/String", "charAt", "(I)C"⟩ ⟨"java/lang/String", "charAt", "(I)C"⟩ ∈ cx_big := cx_tb 505 (by decide +kernel) (by decide +kernel)
theorem cw_507 : Cond.methodLink "java/lang/String" 492 ⟨"java/lang/String", "isLatin1", "()Z"⟩ ∈ cx_big := cx_tb 507 (by decide +kernel) (by decide +kernel)
theorem cw_508 : Cond.instanceMethod ⟨"java/lang/String", "isLatin1", "()Z"⟩ ∈ cx_big := cx_tb 508 (by decide +kernel) (by decide +kernel)
theorem cw_509 : Cond.selects "java/lang/String" ⟨"java/lang/String", "isLatin1", "()Z"⟩ ⟨"java/lang/String", "isLatin1", "()Z"⟩ ∈ cx_big := cx_tb 509 (by decide +kernel) (by decide +kernel)
theorem cw_511 : Cond.methodLink "java/lang/String" 495 ⟨"java/lang/StringLatin1", "charAt", "([BI)C"⟩ ∈ cx_big := cx_tb 511 (by decide +kernel) (by decide +kernel)
theorem cw_512 : Cond.static ⟨"java/lang/StringLatin1", "charAt", "([BI)C"⟩ ∈ cx_big := cx_tb 512 (by decide +kernel) (by decide +kernel)
theorem cw_514 : Cond.methodLink "java/lang/StringLatin1" 9 ⟨"java/lang/String", "checkIndex", "(II)V"⟩ ∈ cx_big := cx_tb 514 (by decide +kernel) (by decide +kernel)
theorem cw_515 : Cond.static ⟨"java/lang/String", "checkIndex", "(II)V"⟩ ∈ cx_big := cx_tb 515 (by decide +kernel) (by decide +kernel)
theorem cw_517 : Cond.fieldLink "java/lang/String" 1053 "jdk/internal/util/Preconditions" "SIOOBE_FORMATTER" "Ljava/util/function/BiFunction;" ∈ cx_big := cx_tb 517 (by decide +kernel) (by decide +kernel)
theorem cw_519 : Cond.methodLink "java/lang/String" 1059 ⟨"jdk/internal/util/Preconditions", "checkIndex", "(IILjava/util/function/BiFunction;)I"⟩ ∈ cx_big := cx_tb 519 (by decide +kernel) (by decide +kernel)
theorem cw_520 : Cond.static ⟨"jdk/internal/util/Preconditions", "checkIndex", "(IILjava/util/function/BiFunction;)I"⟩ ∈ cx_big := cx_tb 520 (by decide +kernel) (by decide +kernel)
theorem cw_522 : Cond.methodLink "java/lang/String" 498 ⟨"java/lang/StringUTF16", "charAt", "([BI)C"⟩ ∈ cx_big := cx_tb 522 (by decide +kernel) (by decide +kernel)
theorem cw_523 : Cond.static ⟨"java/lang/StringUTF16", "charAt", "([BI)C"⟩ ∈ cx_big := cx_tb 523 (by decide +kernel) (by decide +kernel)
theorem cw_525 : Cond.methodLink "java/lang/StringUTF16" 67 ⟨"java/lang/StringUTF16", "checkIndex", "(I[B)V"⟩ ∈ cx_big := cx_tb 525 (by decide +kernel) (by decide +kernel)
theorem cw_526 : Cond.static ⟨"java/lang/StringUTF16", "checkIndex", "(I[B)V"⟩ ∈ cx_big := cx_tb 526 (by decide +kernel) (by decide +kernel)
theorem cw_528 : Cond.methodLink "java/lang/StringUTF16" 48 ⟨"java/lang/StringUTF16", "length", "([B)I"⟩ ∈ cx_big := cx_tb 528 (by decide +kernel) (by decide +kernel)
theorem cw_529 : Cond.static ⟨"java/lang/StringUTF16", "length", "([B)I"⟩ ∈ cx_big := cx_tb 529 (by decide +kernel) (by decide +kernel)
theorem cw_531 : Cond.methodLink "java/lang/StringUTF16" 414 ⟨"java/lang/String", "checkIndex", "(II)V"⟩ ∈ cx_big := cx_tb 531 (by decide +kernel) (by decide +kernel)
theorem cw_532 : Cond.methodLink "java/lang/StringUTF16" 71 ⟨"java/lang/StringUTF16", "getChar", "([BI)C"⟩ ∈ cx_big := cx_tb 532 (by decide +kernel) (by decide +kernel)
theorem cw_533 : Cond.static ⟨"java/lang/StringUTF16", "getChar", "([BI)C"⟩ ∈ cx_big := cx_tb 533 (by decide +kernel) (by decide +kernel)
theorem cw_535 : Cond.fieldLink "java/lang/StringUTF16" 44 "java/lang/StringUTF16" "$assertionsDisabled" "Z" ∈ cx_big := cx_tb 535 (by decide +kernel) (by decide +kernel)
theorem cw_537 : Cond.fieldLink "java/lang/StringUTF16" 59 "java/lang/StringUTF16" "HI_BYTE_SHIFT" "I" ∈ cx_big := cx_tb 537 (by decide +kernel) (by decide +kernel)
theorem cw_539 : Cond.fieldLink "java/lang/StringUTF16" 63 "java/lang/StringUTF16" "LO_BYTE_SHIFT" "I" ∈ cx_big := cx_tb 539 (by decide +kernel) (by decide +kernel)
theorem cw_542 : Cond.methodLink "TreeMerge$Text" 35 yX9_cutWord ∈ cx_big := cx_tb 542 (by decide +kernel) (by decide +kernel)
theorem cw_544 : Cond.instanceMethod yX9_cutWord ∈ cx_big := cx_tb 544 (by decide +kernel) (by decide +kernel)
theorem cw_545 : Cond.code yX9_cutWord cX9_cutWord 1 none ∈ cx_big := cx_tb 545 (by decide +kernel) (by decide +kernel)
theorem cw_547 : Cond.static yX11_isWordByte ∈ cx_big := cx_tb 547 (by decide +kernel) (by decide +kernel)
theorem cw_548 : Cond.code yX11_isWordByte cX11_isWordByte 1 (some .boolean) ∈ cx_big := cx_tb 548 (by decide +kernel) (by decide +kernel)
theorem cw_549 : Cond.methodLink "TreeMerge" 367 yX11_isLetter ∈ cx_big := cx_tb 549 (by decide +kernel) (by decide +kernel)
theorem cw_550 : Cond.methodLink "TreeMerge$Text" 38 yX9_isSign ∈ cx_big := cx_tb 550 (by decide +kernel) (by decide +kernel)
theorem cw_551 : Cond.static yX9_isSign ∈ cx_big := cx_tb 551 (by decide +kernel) (by decide +kernel)
theorem cw_552 : Cond.code yX9_isSign cX9_isSign 1 (some .boolean) ∈ cx_big := cx_tb 552 (by decide +kernel) (by decide +kernel)
theorem cw_553 : Cond.methodLink "TreeMerge$Tree" 53 yX2_kindAt ∈ cx_big := cx_tb 553 (by decide +kernel) (by decide +kernel)
theorem cw_554 : Cond.instanceMethod yX2_kindAt ∈ cx_big := cx_tb 554 (by decide +kernel) (by decide +kernel)
theorem cw_555 : Cond.selects "TreeMerge$Grammar" yX2_kindAt yX2_kindAt ∈ cx_big := cx_tb 555 (by decide +kernel) (by decide +kernel)
theorem cw_556 : Cond.code yX2_kindAt cX2_kindAt 2 (some .int) ∈ cx_big := cx_tb 556 (by decide +kernel) (by decide +kernel)
theorem cw_557 : Cond.methodLink "TreeMerge$Grammar" 98 yX2_kindOf ∈ cx_big := cx_tb 557 (by decide +kernel) (by decide +kernel)
theorem cw_559 : Cond.instanceMethod yX2_kindOf ∈ cx_big := cx_tb 559 (by decide +kernel) (by decide +kernel)
theorem cw_560 : Cond.code yX2_kindOf cX2_kindOf 5 (some .int) ∈ cx_big := cx_tb 560 (by decide +kernel) (by decide +kernel)
theorem cw_561 : Cond.methodLink "TreeMerge$Grammar" 102 yX2_isNamed ∈ cx_big := cx_tb 561 (by decide +kernel) (by decide +kernel)
theorem cw_563 : Cond.instanceMethod yX2_isNamed ∈ cx_big := cx_tb 563 (by decide +kernel) (by decide +kernel)
theorem cw_564 : Cond.code yX2_isNamed cX2_isNamed 7 (some .boolean) ∈ cx_big := cx_tb 564 (by decide +kernel) (by decide +kernel)
theorem cw_565 : Cond.methodLink "TreeMerge$Tree" 65 yX10_add ∈ cx_big := cx_tb 565 (by decide +kernel) (by decide +kernel)
theorem cw_566 : Cond.instanceMethod yX10_add ∈ cx_big := cx_tb 566 (by decide +kernel) (by decide +kernel)
theorem cw_567 : Cond.selects "TreeMerge$Tree" yX10_add yX10_add ∈ cx_big := cx_tb 567 (by decide +kernel) (by decide +kernel)
theorem cw_568 : Cond.code yX10_add cX10_add 6 none ∈ cx_big := cx_tb 568 (by decide +kernel) (by decide +kernel)
theorem cw_569 : Cond.methodLink "TreeMerge$Tree" 72 yX9_wordHere ∈ cx_big := cx_tb 569 (by decide +kernel) (by decide +kernel)
theorem cw_570 : Cond.instanceMethod yX9_wordHere ∈ cx_big := cx_tb 570 (by decide +kernel) (by decide +kernel)
theorem cw_571 : Cond.selects "TreeMerge$Text" yX9_wordHere yX9_wordHere ∈ cx_big := cx_tb 571 (by decide +kernel) (by decide +kernel)
theorem cw_572 : Cond.code yX9_wordHere cX9_wordHere 5 (some .long) ∈ cx_big := cx_tb 572 (by decide +kernel) (by decide +kernel)
theorem cw_573 : Cond.methodLink "TreeMerge" 131 yX10_arrange ∈ cx_big := cx_tb 573 (by decide +kernel) (by decide +kernel)
theorem cw_574 : Cond.instanceMethod yX10_arrange ∈ cx_big := cx_tb 574 (by decide +kernel) (by decide +kernel)
theorem cw_575 : Cond.selects "TreeMerge$Tree" yX10_arrange yX10_arrange ∈ cx_big := cx_tb 575 (by decide +kernel) (by decide +kernel)
theorem cw_576 : Cond.code yX10_arrange cX10_arrange 6 none ∈ cx_big := cx_tb 576 (by decide +kernel) (by decide +kernel)
theorem cw_577 : Cond.methodLink "TreeMerge$Tree" 76 yX10_childIndex ∈ cx_big := cx_tb 577 (by decide +kernel) (by decide +kernel)
theorem cw_578 : Cond.instanceMethod yX10_childIndex ∈ cx_big := cx_tb 578 (by decide +kernel) (by decide +kernel)
theorem cw_579 : Cond.selects "TreeMerge$Tree" yX10_childIndex yX10_childIndex ∈ cx_big := cx_tb 579 (by decide +kernel) (by decide +kernel)
theorem cw_580 : Cond.code yX10_childIndex cX10_childIndex 5 (some .int) ∈ cx_big := cx_tb 580 (by decide +kernel) (by decide +kernel)
theorem cw_581 : Cond.methodLink "TreeMerge$Tree" 80 yX10_takeFrom ∈ cx_big := cx_tb 581 (by decide +kernel) (by decide +kernel)
theorem cw_583 : Cond.instanceMethod yX10_takeFrom ∈ cx_big := cx_tb 583 (by decide +kernel) (by decide +kernel)
theorem cw_584 : Cond.code yX10_takeFrom cX10_takeFrom 4 (some .int) ∈ cx_big := cx_tb 584 (by decide +kernel) (by decide +kernel)
theorem cw_585 : Cond.methodLink "TreeMerge$Tree" 84 yX2_isSet ∈ cx_big := cx_tb 585 (by decide +kernel) (by decide +kernel)
theorem cw_586 : Cond.instanceMethod yX2_isSet ∈ cx_big := cx_tb 586 (by decide +kernel) (by decide +kernel)
theorem cw_587 : Cond.selects "TreeMerge$Grammar" yX2_isSet yX2_isSet ∈ cx_big := cx_tb 587 (by decide +kernel) (by decide +kernel)
theorem cw_588 : Cond.code yX2_isSet cX2_isSet 2 (some .boolean) ∈ cx_big := cx_tb 588 (by decide +kernel) (by decide +kernel)
theorem cw_589 : Cond.methodLink "TreeMerge$Grammar" 49 yX2_hasKind ∈ cx_big := cx_tb 589 (by decide +kernel) (by decide +kernel)
theorem cw_590 : Cond.instanceMethod yX2_hasKind ∈ cx_big := cx_tb 590 (by decide +kernel) (by decide +kernel)
theorem cw_591 : Cond.selects "TreeMerge$Grammar" yX2_hasKind yX2_hasKind ∈ cx_big := cx_tb 591 (by decide +kernel) (by decide +kernel)
theorem cw_592 : Cond.code yX2_hasKind cX2_hasKind 2 (some .boolean) ∈ cx_big := cx_tb 592 (by decide +kernel) (by decide +kernel)
theorem cw_593 : Cond.methodLink "TreeMerge$Tree" 88 yX10_nextWaiting ∈ cx_big := cx_tb 593 (by decide +kernel) (by decide +kernel)
theorem cw_595 : Cond.instanceMethod yX10_nextWaiting ∈ cx_big := cx_tb 595 (by decide +kernel) (by decide +kernel)
theorem cw_596 : Cond.code yX10_nextWaiting cX10_nextWaiting 5 (some .int) ∈ cx_big := cx_tb 596 (by decide +kernel) (by decide +kernel)
theorem cw_598 : Cond.static yX11_isAhead ∈ cx_big := cx_tb 598 (by decide +kernel) (by decide +kernel)
theorem cw_599 : Cond.code yX11_isAhead cX11_isAhead 8 (some .boolean) ∈ cx_big := cx_tb 599 (by decide +kernel) (by decide +kernel)
theorem cw_600 : Cond.methodLink "TreeMerge" 117 yX2_readFrom ∈ cx_big := cx_tb 600 (by decide +kernel) (by decide +kernel)
theorem cw_601 : Cond.instanceMethod yX2_readFrom ∈ cx_big := cx_tb 601 (by decide +kernel) (by decide +kernel)
theorem cw_602 : Cond.selects "TreeMerge$Grammar" yX2_readFrom yX2_readFrom ∈ cx_big := cx_tb 602 (by decide +kernel) (by decide +kernel)
theorem cw_603 : Cond.code yX2_readFrom cX2_readFrom 4 (some .int) ∈ cx_big := cx_tb 603 (by decide +kernel) (by decide +kernel)
theorem cw_604 : Cond.methodLink "TreeMerge$Grammar" 59 ⟨"java/lang/System", "arraycopy", "(Ljava/lang/Object;ILjava/lang/Object;II)V"⟩ ∈ cx_big := cx_tb 604 (by decide +kernel) (by decide +kernel)
theorem cw_605 : Cond.static ⟨"java/lang/System", "arraycopy", "(Ljava/lang/Object;ILjava/lang/Object;II)V"⟩ ∈ cx_big := cx_tb 605 (by decide +kernel) (by decide +kernel)
theorem cw_606 : Cond.native ⟨"java/lang/System", "arraycopy", "(Ljava/lang/Object;ILjava/lang/Object;II)V"⟩ ∈ cx_big := cx_tb 606 (by decide +kernel) (by decide +kernel)
theorem cw_607 : Cond.methodLink "TreeMerge$Grammar" 68 yX9_rewind ∈ cx_big := cx_tb 607 (by decide +kernel) (by decide +kernel)
theorem cw_608 : Cond.methodLink "TreeMerge$Grammar" 71 yX9_advance ∈ cx_big := cx_tb 608 (by decide +kernel) (by decide +kernel)
theorem cw_609 : Cond.methodLink "TreeMerge$Grammar" 74 yX2_readRule ∈ cx_big := cx_tb 609 (by decide +kernel) (by decide +kernel)
theorem cw_611 : Cond.instanceMethod yX2_readRule ∈ cx_big := cx_tb 611 (by decide +kernel) (by decide +kernel)
theorem cw_612 : Cond.code yX2_readRule cX2_readRule 3 (some .int) ∈ cx_big := cx_tb 612 (by decide +kernel) (by decide +kernel)
theorem cw_613 : Cond.methodLink "TreeMerge$Grammar" 85 yX2_kindAt ∈ cx_big := cx_tb 613 (by decide +kernel) (by decide +kernel)
theorem cw_614 : Cond.methodLink "TreeMerge$Grammar" 94 yX2_readItems ∈ cx_big := cx_tb 614 (by decide +kernel) (by decide +kernel)
theorem cw_616 : Cond.instanceMethod yX2_readItems ∈ cx_big := cx_tb 616 (by decide +kernel) (by decide +kernel)
theorem cw_617 : Cond.code yX2_readItems cX2_readItems 3 none ∈ cx_big := cx_tb 617 (by decide +kernel) (by decide +kernel)
theorem cw_618 : Cond.methodLink "TreeMerge$Grammar" 81 yX2_resolveItems ∈ cx_big := cx_tb 618 (by decide +kernel) (by decide +kernel)
theorem cw_620 : Cond.instanceMethod yX2_resolveItems ∈ cx_big := cx_tb 620 (by decide +kernel) (by decide +kernel)
theorem cw_621 : Cond.code yX2_resolveItems cX2_resolveItems 2 (some .int) ∈ cx_big := cx_tb 621 (by decide +kernel) (by decide +kernel)
theorem cw_623 : Cond.methodLink "TreeMergeLaw" 28 yX11_grammar ∈ cx_big := cx_tb 623 (by decide +kernel) (by decide +kernel)
theorem cw_624 : Cond.instanceMethod yX11_grammar ∈ cx_big := cx_tb 624 (by decide +kernel) (by decide +kernel)
theorem cw_625 : Cond.selects "TreeMerge" yX11_grammar yX11_grammar ∈ cx_big := cx_tb 625 (by decide +kernel) (by decide +kernel)
theorem cw_626 : Cond.code yX11_grammar cX11_grammar 2 (some .int) ∈ cx_big := cx_tb 626 (by decide +kernel) (by decide +kernel)
theorem cw_627 : Cond.methodLink "TreeMergeLaw" 33 yX11_breaks ∈ cx_big := cx_tb 627 (by decide +kernel) (by decide +kernel)
theorem cw_628 : Cond.instanceMethod yX11_breaks ∈ cx_big := cx_tb 628 (by decide +kernel) (by decide +kernel)
theorem cw_629 : Cond.selects "TreeMerge" yX11_breaks yX11_breaks ∈ cx_big := cx_tb 629 (by decide +kernel) (by decide +kernel)
theorem cw_630 : Cond.code yX11_breaks cX11_breaks 1 (some .int) ∈ cx_big := cx_tb 630 (by decide +kernel) (by decide +kernel)
theorem cw_631 : Cond.methodLink "TreeMerge" 124 yX10_firstBreak ∈ cx_big := cx_tb 631 (by decide +kernel) (by decide +kernel)
theorem cw_632 : Cond.instanceMethod yX10_firstBreak ∈ cx_big := cx_tb 632 (by decide +kernel) (by decide +kernel)
theorem cw_633 : Cond.selects "TreeMerge$Tree" yX10_firstBreak yX10_firstBreak ∈ cx_big := cx_tb 633 (by decide +kernel) (by decide +kernel)
theorem cw_634 : Cond.code yX10_firstBreak cX10_firstBreak 5 (some .int) ∈ cx_big := cx_tb 634 (by decide +kernel) (by decide +kernel)
theorem cw_635 : Cond.methodLink "TreeMerge$Tree" 100 yX3_clear ∈ cx_big := cx_tb 635 (by decide +kernel) (by decide +kernel)
theorem cw_636 : Cond.instanceMethod yX3_clear ∈ cx_big := cx_tb 636 (by decide +kernel) (by decide +kernel)
theorem cw_637 : Cond.selects "TreeMerge$Kids" yX3_clear yX3_clear ∈ cx_big := cx_tb 637 (by decide +kernel) (by decide +kernel)
theorem cw_638 : Cond.code yX3_clear cX3_clear 1 none ∈ cx_big := cx_tb 638 (by decide +kernel) (by decide +kernel)
theorem cw_639 : Cond.methodLink "TreeMerge$Tree" 103 yX3_add ∈ cx_big := cx_tb 639 (by decide +kernel) (by decide +kernel)
theorem cw_640 : Cond.instanceMethod yX3_add ∈ cx_big := cx_tb 640 (by decide +kernel) (by decide +kernel)
theorem cw_641 : Cond.selects "TreeMerge$Kids" yX3_add yX3_add ∈ cx_big := cx_tb 641 (by decide +kernel) (by decide +kernel)
theorem cw_642 : Cond.code yX3_add cX3_add 4 none ∈ cx_big := cx_tb 642 (by decide +kernel) (by decide +kernel)
theorem cw_643 : Cond.methodLink "TreeMerge$Tree" 106 yX2_allows ∈ cx_big := cx_tb 643 (by decide +kernel) (by decide +kernel)
theorem cw_644 : Cond.instanceMethod yX2_allows ∈ cx_big := cx_tb 644 (by decide +kernel) (by decide +kernel)
theorem cw_645 : Cond.selects "TreeMerge$Grammar" yX2_allows yX2_allows ∈ cx_big := cx_tb 645 (by decide +kernel) (by decide +kernel)
theorem cw_646 : Cond.code yX2_allows cX2_allows 3 (some .boolean) ∈ cx_big := cx_tb 646 (by decide +kernel) (by decide +kernel)
theorem cw_647 : Cond.methodLink "TreeMerge$Grammar" 111 yX2_namesAll ∈ cx_big := cx_tb 647 (by decide +kernel) (by decide +kernel)
theorem cw_649 : Cond.instanceMethod yX2_namesAll ∈ cx_big := cx_tb 649 (by decide +kernel) (by decide +kernel)
theorem cw_650 : Cond.code yX2_namesAll cX2_namesAll 6 (some .boolean) ∈ cx_big := cx_tb 650 (by decide +kernel) (by decide +kernel)
theorem cw_651 : Cond.methodLink "TreeMerge$Grammar" 115 yX2_saysItems ∈ cx_big := cx_tb 651 (by decide +kernel) (by decide +kernel)
theorem cw_653 : Cond.instanceMethod yX2_saysItems ∈ cx_big := cx_tb 653 (by decide +kernel) (by decide +kernel)
theorem cw_654 : Cond.code yX2_saysItems cX2_saysItems 6 (some .boolean) ∈ cx_big := cx_tb 654 (by decide +kernel) (by decide +kernel)
theorem cw_655 : Cond.methodLink "TreeMerge$Grammar" 120 yX2_passOver ∈ cx_big := cx_tb 655 (by decide +kernel) (by decide +kernel)
theorem cw_657 : Cond.instanceMethod yX2_passOver ∈ cx_big := cx_tb 657 (by decide +kernel) (by decide +kernel)
theorem cw_658 : Cond.code yX2_passOver cX2_passOver 4 none ∈ cx_big := cx_tb 658 (by decide +kernel) (by decide +kernel)
theorem cw_659 : Cond.methodLink "TreeMerge$Grammar" 124 yX2_step ∈ cx_big := cx_tb 659 (by decide +kernel) (by decide +kernel)
theorem cw_661 : Cond.instanceMethod yX2_step ∈ cx_big := cx_tb 661 (by decide +kernel) (by decide +kernel)
theorem cw_662 : Cond.code yX2_step cX2_step 7 none ∈ cx_big := cx_tb 662 (by decide +kernel) (by decide +kernel)
theorem cw_663 : Cond.methodLink "TreeMerge$Tree" 110 yX3_hasLikes ∈ cx_big := cx_tb 663 (by decide +kernel) (by decide +kernel)
theorem cw_664 : Cond.instanceMethod yX3_hasLikes ∈ cx_big := cx_tb 664 (by decide +kernel) (by decide +kernel)
theorem cw_665 : Cond.selects "TreeMerge$Kids" yX3_hasLikes yX3_hasLikes ∈ cx_big := cx_tb 665 (by decide +kernel) (by decide +kernel)
theorem cw_666 : Cond.code yX3_hasLikes cX3_hasLikes 3 (some .boolean) ∈ cx_big := cx_tb 666 (by decide +kernel) (by decide +kernel)
theorem cw_667 : Cond.methodLink "TreeMergeLaw" 37 yX11_first ∈ cx_big := cx_tb 667 (by decide +kernel) (by decide +kernel)
theorem cw_668 : Cond.instanceMethod yX11_first ∈ cx_big := cx_tb 668 (by decide +kernel) (by decide +kernel)
theorem cw_669 : Cond.selects "TreeMerge" yX11_first yX11_first ∈ cx_big := cx_tb 669 (by decide +kernel) (by decide +kernel)
theorem cw_670 : Cond.code yX11_first cX11_first 1 (some .int) ∈ cx_big := cx_tb 670 (by decide +kernel) (by decide +kernel)
theorem cw_671 : Cond.methodLink "TreeMerge" 135 yX1_isFull ∈ cx_big := cx_tb 671 (by decide +kernel) (by decide +kernel)
theorem cw_672 : Cond.instanceMethod yX1_isFull ∈ cx_big := cx_tb 672 (by decide +kernel) (by decide +kernel)
theorem cw_673 : Cond.selects "TreeMerge$Editions" yX1_isFull yX1_isFull ∈ cx_big := cx_tb 673 (by decide +kernel) (by decide +kernel)
theorem cw_674 : Cond.code yX1_isFull cX1_isFull 1 (some .boolean) ∈ cx_big := cx_tb 674 (by decide +kernel) (by decide +kernel)
theorem cw_675 : Cond.methodLink "TreeMerge" 139 yX11_readsAndFits ∈ cx_big := cx_tb 675 (by decide +kernel) (by decide +kernel)
theorem cw_677 : Cond.instanceMethod yX11_readsAndFits ∈ cx_big := cx_tb 677 (by decide +kernel) (by decide +kernel)
theorem cw_678 : Cond.code yX11_readsAndFits cX11_readsAndFits 1 (some .boolean) ∈ cx_big := cx_tb 678 (by decide +kernel) (by decide +kernel)
theorem cw_679 : Cond.methodLink "TreeMerge" 142 yX4_pairNothing ∈ cx_big := cx_tb 679 (by decide +kernel) (by decide +kernel)
theorem cw_680 : Cond.instanceMethod yX4_pairNothing ∈ cx_big := cx_tb 680 (by decide +kernel) (by decide +kernel)
theorem cw_681 : Cond.selects "TreeMerge$Matcher" yX4_pairNothing yX4_pairNothing ∈ cx_big := cx_tb 681 (by decide +kernel) (by decide +kernel)
theorem cw_682 : Cond.code yX4_pairNothing cX4_pairNothing 2 none ∈ cx_big := cx_tb 682 (by decide +kernel) (by decide +kernel)
theorem cw_683 : Cond.methodLink "TreeMerge" 145 yX11_comeOfText ∈ cx_big := cx_tb 683 (by decide +kernel) (by decide +kernel)
theorem cw_685 : Cond.instanceMethod yX11_comeOfText ∈ cx_big := cx_tb 685 (by decide +kernel) (by decide +kernel)
theorem cw_686 : Cond.code yX11_comeOfText cX11_comeOfText 5 (some .int) ∈ cx_big := cx_tb 686 (by decide +kernel) (by decide +kernel)
theorem cw_687 : Cond.methodLink "TreeMerge" 184 yX4_pairs ∈ cx_big := cx_tb 687 (by decide +kernel) (by decide +kernel)
theorem cw_688 : Cond.instanceMethod yX4_pairs ∈ cx_big := cx_tb 688 (by decide +kernel) (by decide +kernel)
theorem cw_689 : Cond.selects "TreeMerge$Matcher" yX4_pairs yX4_pairs ∈ cx_big := cx_tb 689 (by decide +kernel) (by decide +kernel)
theorem cw_690 : Cond.code yX4_pairs cX4_pairs 3 (some .int) ∈ cx_big := cx_tb 690 (by decide +kernel) (by decide +kernel)
theorem cw_691 : Cond.methodLink "TreeMerge" 188 yX10_copy ∈ cx_big := cx_tb 691 (by decide +kernel) (by decide +kernel)
theorem cw_692 : Cond.instanceMethod yX10_copy ∈ cx_big := cx_tb 692 (by decide +kernel) (by decide +kernel)
theorem cw_693 : Cond.selects "TreeMerge$Tree" yX10_copy yX10_copy ∈ cx_big := cx_tb 693 (by decide +kernel) (by decide +kernel)
theorem cw_694 : Cond.code yX10_copy cX10_copy 3 none ∈ cx_big := cx_tb 694 (by decide +kernel) (by decide +kernel)
theorem cw_695 : Cond.methodLink "TreeMerge" 162 yX4_numberFor ∈ cx_big := cx_tb 695 (by decide +kernel) (by decide +kernel)
theorem cw_696 : Cond.instanceMethod yX4_numberFor ∈ cx_big := cx_tb 696 (by decide +kernel) (by decide +kernel)
theorem cw_697 : Cond.selects "TreeMerge$Matcher" yX4_numberFor yX4_numberFor ∈ cx_big := cx_tb 697 (by decide +kernel) (by decide +kernel)
theorem cw_698 : Cond.code yX4_numberFor cX4_numberFor 2 (some .int) ∈ cx_big := cx_tb 698 (by decide +kernel) (by decide +kernel)
theorem cw_699 : Cond.methodLink "TreeMerge" 195 yX11_newNumber ∈ cx_big := cx_tb 699 (by decide +kernel) (by decide +kernel)
theorem cw_701 : Cond.instanceMethod yX11_newNumber ∈ cx_big := cx_tb 701 (by decide +kernel) (by decide +kernel)
theorem cw_702 : Cond.code yX11_newNumber cX11_newNumber 2 (some .int) ∈ cx_big := cx_tb 702 (by decide +kernel) (by decide +kernel)
theorem cw_703 : Cond.methodLink "TreeMerge" 204 yX1_add ∈ cx_big := cx_tb 703 (by decide +kernel) (by decide +kernel)
theorem cw_704 : Cond.instanceMethod yX1_add ∈ cx_big := cx_tb 704 (by decide +kernel) (by decide +kernel)
theorem cw_705 : Cond.selects "TreeMerge$Editions" yX1_add yX1_add ∈ cx_big := cx_tb 705 (by decide +kernel) (by decide +kernel)
theorem cw_706 : Cond.code yX1_add cX1_add 8 (some .int) ∈ cx_big := cx_tb 706 (by decide +kernel) (by decide +kernel)
theorem cw_707 : Cond.methodLink "TreeMerge$Editions" 35 yX1_isFull ∈ cx_big := cx_tb 707 (by decide +kernel) (by decide +kernel)
theorem cw_709 : Cond.methodLink "TreeMerge$Editions" 40 yX10_copy ∈ cx_big := cx_tb 709 (by decide +kernel) (by decide +kernel)
theorem cw_710 : Cond.methodLink "TreeMerge$Editions" 52 yX1_writerIn ∈ cx_big := cx_tb 710 (by decide +kernel) (by decide +kernel)
theorem cw_712 : Cond.instanceMethod yX1_writerIn ∈ cx_big := cx_tb 712 (by decide +kernel) (by decide +kernel)
theorem cw_713 : Cond.code yX1_writerIn cX1_writerIn 7 (some .int) ∈ cx_big := cx_tb 713 (by decide +kernel) (by decide +kernel)
theorem cw_714 : Cond.methodLink "TreeMerge$Editions" 63 yX1_treeOf ∈ cx_big := cx_tb 714 (by decide +kernel) (by decide +kernel)
theorem cw_715 : Cond.instanceMethod yX1_treeOf ∈ cx_big := cx_tb 715 (by decide +kernel) (by decide +kernel)
theorem cw_716 : Cond.selects "TreeMerge$Editions" yX1_treeOf yX1_treeOf ∈ cx_big := cx_tb 716 (by decide +kernel) (by decide +kernel)
theorem cw_717 : Cond.code yX1_treeOf cX1_treeOf 2 (some (.object "TreeMerge$Tree")) ∈ cx_big := cx_tb 717 (by decide +kernel) (by decide +kernel)
theorem cw_718 : Cond.methodLink "TreeMerge$Editions" 31 yX1_has ∈ cx_big := cx_tb 718 (by decide +kernel) (by decide +kernel)
theorem cw_719 : Cond.instanceMethod yX1_has ∈ cx_big := cx_tb 719 (by decide +kernel) (by decide +kernel)
theorem cw_720 : Cond.selects "TreeMerge$Editions" yX1_has yX1_has ∈ cx_big := cx_tb 720 (by decide +kernel) (by decide +kernel)
theorem cw_721 : Cond.code yX1_has cX1_has 2 (some .boolean) ∈ cx_big := cx_tb 721 (by decide +kernel) (by decide +kernel)
theorem cw_722 : Cond.methodLink "TreeMerge$Editions" 67 yX10_find ∈ cx_big := cx_tb 722 (by decide +kernel) (by decide +kernel)
theorem cw_723 : Cond.instanceMethod yX10_find ∈ cx_big := cx_tb 723 (by decide +kernel) (by decide +kernel)
theorem cw_724 : Cond.selects "TreeMerge$Tree" yX10_find yX10_find ∈ cx_big := cx_tb 724 (by decide +kernel) (by decide +kernel)
theorem cw_725 : Cond.code yX10_find cX10_find 3 (some .int) ∈ cx_big := cx_tb 725 (by decide +kernel) (by decide +kernel)
theorem cw_726 : Cond.methodLink "TreeMerge$Editions" 59 yX1_fromsOf ∈ cx_big := cx_tb 726 (by decide +kernel) (by decide +kernel)
theorem cw_728 : Cond.instanceMethod yX1_fromsOf ∈ cx_big := cx_tb 728 (by decide +kernel) (by decide +kernel)
theorem cw_729 : Cond.code yX1_fromsOf cX1_fromsOf 2 (some .int) ∈ cx_big := cx_tb 729 (by decide +kernel) (by decide +kernel)
theorem cw_730 : Cond.methodLink "TreeMergeLaw" 41 yX11_match ∈ cx_big := cx_tb 730 (by decide +kernel) (by decide +kernel)
theorem cw_731 : Cond.instanceMethod yX11_match ∈ cx_big := cx_tb 731 (by decide +kernel) (by decide +kernel)
theorem cw_732 : Cond.selects "TreeMerge" yX11_match yX11_match ∈ cx_big := cx_tb 732 (by decide +kernel) (by decide +kernel)
theorem cw_733 : Cond.code yX11_match cX11_match 3 (some .int) ∈ cx_big := cx_tb 733 (by decide +kernel) (by decide +kernel)
theorem cw_734 : Cond.methodLink "TreeMerge" 149 yX11_matchText ∈ cx_big := cx_tb 734 (by decide +kernel) (by decide +kernel)
theorem cw_736 : Cond.instanceMethod yX11_matchText ∈ cx_big := cx_tb 736 (by decide +kernel) (by decide +kernel)
theorem cw_737 : Cond.code yX11_matchText cX11_matchText 3 (some .boolean) ∈ cx_big := cx_tb 737 (by decide +kernel) (by decide +kernel)
theorem cw_738 : Cond.methodLink "TreeMerge" 168 yX1_treeOf ∈ cx_big := cx_tb 738 (by decide +kernel) (by decide +kernel)
theorem cw_739 : Cond.methodLink "TreeMerge" 177 yX4_pairUp ∈ cx_big := cx_tb 739 (by decide +kernel) (by decide +kernel)
theorem cw_740 : Cond.instanceMethod yX4_pairUp ∈ cx_big := cx_tb 740 (by decide +kernel) (by decide +kernel)
theorem cw_741 : Cond.selects "TreeMerge$Matcher" yX4_pairUp yX4_pairUp ∈ cx_big := cx_tb 741 (by decide +kernel) (by decide +kernel)
theorem cw_742 : Cond.code yX4_pairUp cX4_pairUp 4 none ∈ cx_big := cx_tb 742 (by decide +kernel) (by decide +kernel)
theorem cw_743 : Cond.methodLink "TreeMerge$Matcher" 31 yX4_pairNothing ∈ cx_big := cx_tb 743 (by decide +kernel) (by decide +kernel)
theorem cw_744 : Cond.methodLink "TreeMerge$Matcher" 34 yX4_link ∈ cx_big := cx_tb 744 (by decide +kernel) (by decide +kernel)
theorem cw_746 : Cond.instanceMethod yX4_link ∈ cx_big := cx_tb 746 (by decide +kernel) (by decide +kernel)
theorem cw_747 : Cond.code yX4_link cX4_link 3 none ∈ cx_big := cx_tb 747 (by decide +kernel) (by decide +kernel)
theorem cw_748 : Cond.methodLink "TreeMerge$Matcher" 49 yX4_pairCost ∈ cx_big := cx_tb 748 (by decide +kernel) (by decide +kernel)
theorem cw_750 : Cond.instanceMethod yX4_pairCost ∈ cx_big := cx_tb 750 (by decide +kernel) (by decide +kernel)
theorem cw_751 : Cond.code yX4_pairCost cX4_pairCost 4 (some .int) ∈ cx_big := cx_tb 751 (by decide +kernel) (by decide +kernel)
theorem cw_752 : Cond.methodLink "TreeMerge$Matcher" 72 yX4_haveParentsPaired ∈ cx_big := cx_tb 752 (by decide +kernel) (by decide +kernel)
theorem cw_754 : Cond.instanceMethod yX4_haveParentsPaired ∈ cx_big := cx_tb 754 (by decide +kernel) (by decide +kernel)
theorem cw_755 : Cond.code yX4_haveParentsPaired cX4_haveParentsPaired 4 (some .boolean) ∈ cx_big := cx_tb 755 (by decide +kernel) (by decide +kernel)
theorem cw_756 : Cond.methodLink "TreeMerge$Matcher" 53 yX4_search ∈ cx_big := cx_tb 756 (by decide +kernel) (by decide +kernel)
theorem cw_758 : Cond.instanceMethod yX4_search ∈ cx_big := cx_tb 758 (by decide +kernel) (by decide +kernel)
theorem cw_759 : Cond.code yX4_search cX4_search 6 none ∈ cx_big := cx_tb 759 (by decide +kernel) (by decide +kernel)
theorem cw_760 : Cond.methodLink "TreeMerge$Matcher" 79 ⟨"java/lang/Math", "abs", "(I)I"⟩ ∈ cx_big := cx_tb 760 (by decide +kernel) (by decide +kernel)
theorem cw_761 : Cond.static ⟨"java/lang/Math", "abs", "(I)I"⟩ ∈ cx_big := cx_tb 761 (by decide +kernel) (by decide +kernel)
theorem cw_762 : Cond.code Lib.Math.abs.name Lib.Math.abs.code 1 (some .int) ∈ cx_big := cx_tb 762 (by decide +kernel) (by decide +kernel)
theorem cw_763 : Cond.methodLink "TreeMerge$Matcher" 85 ⟨"java/lang/System", "arraycopy", "(Ljava/lang/Object;ILjava/lang/Object;II)V"⟩ ∈ cx_big := cx_tb 763 (by decide +kernel) (by decide +kernel)
theorem cw_764 : Cond.methodLink "TreeMerge$Matcher" 57 yX4_takeBest ∈ cx_big := cx_tb 764 (by decide +kernel) (by decide +kernel)
theorem cw_766 : Cond.instanceMethod yX4_takeBest ∈ cx_big := cx_tb 766 (by decide +kernel) (by decide +kernel)
theorem cw_767 : Cond.code yX4_takeBest cX4_takeBest 2 none ∈ cx_big := cx_tb 767 (by decide +kernel) (by decide +kernel)
theorem cw_768 : Cond.methodLink "TreeMerge$Matcher" 60 yX4_goRound ∈ cx_big := cx_tb 768 (by decide +kernel) (by decide +kernel)
theorem cw_770 : Cond.instanceMethod yX4_goRound ∈ cx_big := cx_tb 770 (by decide +kernel) (by decide +kernel)
theorem cw_771 : Cond.code yX4_goRound cX4_goRound 4 none ∈ cx_big := cx_tb 771 (by decide +kernel) (by decide +kernel)
theorem cw_772 : Cond.methodLink "TreeMerge$Matcher" 94 yX4_agree ∈ cx_big := cx_tb 772 (by decide +kernel) (by decide +kernel)
theorem cw_774 : Cond.instanceMethod yX4_agree ∈ cx_big := cx_tb 774 (by decide +kernel) (by decide +kernel)
theorem cw_775 : Cond.code yX4_agree cX4_agree 4 (some .boolean) ∈ cx_big := cx_tb 775 (by decide +kernel) (by decide +kernel)
theorem cw_776 : Cond.methodLink "TreeMerge$Matcher" 104 yX10_isSameFrom ∈ cx_big := cx_tb 776 (by decide +kernel) (by decide +kernel)
theorem cw_777 : Cond.instanceMethod yX10_isSameFrom ∈ cx_big := cx_tb 777 (by decide +kernel) (by decide +kernel)
theorem cw_778 : Cond.selects "TreeMerge$Tree" yX10_isSameFrom yX10_isSameFrom ∈ cx_big := cx_tb 778 (by decide +kernel) (by decide +kernel)
theorem cw_779 : Cond.code yX10_isSameFrom cX10_isSameFrom 7 (some .boolean) ∈ cx_big := cx_tb 779 (by decide +kernel) (by decide +kernel)
theorem cw_780 : Cond.methodLink "TreeMerge$Tree" 96 yX10_extent ∈ cx_big := cx_tb 780 (by decide +kernel) (by decide +kernel)
theorem cw_781 : Cond.instanceMethod yX10_extent ∈ cx_big := cx_tb 781 (by decide +kernel) (by decide +kernel)
theorem cw_782 : Cond.selects "TreeMerge$Tree" yX10_extent yX10_extent ∈ cx_big := cx_tb 782 (by decide +kernel) (by decide +kernel)
theorem cw_783 : Cond.code yX10_extent cX10_extent 3 (some .int) ∈ cx_big := cx_tb 783 (by decide +kernel) (by decide +kernel)
theorem cw_784 : Cond.methodLink "TreeMerge$Matcher" 98 yX10_extent ∈ cx_big := cx_tb 784 (by decide +kernel) (by decide +kernel)
theorem cw_785 : Cond.methodLink "TreeMerge$Matcher" 108 yX4_areAllFree ∈ cx_big := cx_tb 785 (by decide +kernel) (by decide +kernel)
theorem cw_787 : Cond.instanceMethod yX4_areAllFree ∈ cx_big := cx_tb 787 (by decide +kernel) (by decide +kernel)
theorem cw_788 : Cond.code yX4_areAllFree cX4_areAllFree 5 (some .boolean) ∈ cx_big := cx_tb 788 (by decide +kernel) (by decide +kernel)
theorem cw_789 : Cond.methodLink "TreeMerge$Matcher" 101 yX4_linkAll ∈ cx_big := cx_tb 789 (by decide +kernel) (by decide +kernel)
theorem cw_791 : Cond.instanceMethod yX4_linkAll ∈ cx_big := cx_tb 791 (by decide +kernel) (by decide +kernel)
theorem cw_792 : Cond.code yX4_linkAll cX4_linkAll 5 none ∈ cx_big := cx_tb 792 (by decide +kernel) (by decide +kernel)
theorem cw_793 : Cond.methodLink "TreeMerge$Matcher" 64 yX4_wholeCost ∈ cx_big := cx_tb 793 (by decide +kernel) (by decide +kernel)
theorem cw_795 : Cond.instanceMethod yX4_wholeCost ∈ cx_big := cx_tb 795 (by decide +kernel) (by decide +kernel)
theorem cw_796 : Cond.code yX4_wholeCost cX4_wholeCost 3 (some .int) ∈ cx_big := cx_tb 796 (by decide +kernel) (by decide +kernel)
theorem cw_797 : Cond.methodLink "TreeMerge$Matcher" 111 yX4_pairs ∈ cx_big := cx_tb 797 (by decide +kernel) (by decide +kernel)
theorem cw_798 : Cond.methodLink "TreeMerge" 159 yX4_bound ∈ cx_big := cx_tb 798 (by decide +kernel) (by decide +kernel)
theorem cw_799 : Cond.instanceMethod yX4_bound ∈ cx_big := cx_tb 799 (by decide +kernel) (by decide +kernel)
theorem cw_800 : Cond.selects "TreeMerge$Matcher" yX4_bound yX4_bound ∈ cx_big := cx_tb 800 (by decide +kernel) (by decide +kernel)
theorem cw_801 : Cond.code yX4_bound cX4_bound 5 (some .int) ∈ cx_big := cx_tb 801 (by decide +kernel) (by decide +kernel)
theorem cw_802 : Cond.methodLink "TreeMergeLaw" 46 yX11_next ∈ cx_big := cx_tb 802 (by decide +kernel) (by decide +kernel)
theorem cw_803 : Cond.instanceMethod yX11_next ∈ cx_big := cx_tb 803 (by decide +kernel) (by decide +kernel)
theorem cw_804 : Cond.selects "TreeMerge" yX11_next yX11_next ∈ cx_big := cx_tb 804 (by decide +kernel) (by decide +kernel)
theorem cw_805 : Cond.code yX11_next cX11_next 2 (some .int) ∈ cx_big := cx_tb 805 (by decide +kernel) (by decide +kernel)
theorem cw_806 : Cond.methodLink "TreeMerge" 165 yX1_has ∈ cx_big := cx_tb 806 (by decide +kernel) (by decide +kernel)
theorem cw_807 : Cond.methodLink "TreeMergeLaw" 51 yX11_begin ∈ cx_big := cx_tb 807 (by decide +kernel) (by decide +kernel)
theorem cw_808 : Cond.instanceMethod yX11_begin ∈ cx_big := cx_tb 808 (by decide +kernel) (by decide +kernel)
theorem cw_809 : Cond.selects "TreeMerge" yX11_begin yX11_begin ∈ cx_big := cx_tb 809 (by decide +kernel) (by decide +kernel)
theorem cw_810 : Cond.code yX11_begin cX11_begin 3 (some .boolean) ∈ cx_big := cx_tb 810 (by decide +kernel) (by decide +kernel)
theorem cw_811 : Cond.methodLink "TreeMergeLaw" 55 yX11_drop ∈ cx_big := cx_tb 811 (by decide +kernel) (by decide +kernel)
theorem cw_812 : Cond.instanceMethod yX11_drop ∈ cx_big := cx_tb 812 (by decide +kernel) (by decide +kernel)
theorem cw_813 : Cond.selects "TreeMerge" yX11_drop yX11_drop ∈ cx_big := cx_tb 813 (by decide +kernel) (by decide +kernel)
theorem cw_814 : Cond.code yX11_drop cX11_drop 1 (some .boolean) ∈ cx_big := cx_tb 814 (by decide +kernel) (by decide +kernel)
theorem cw_815 : Cond.methodLink "TreeMerge" 217 yX11_endDraft ∈ cx_big := cx_tb 815 (by decide +kernel) (by decide +kernel)
theorem cw_817 : Cond.instanceMethod yX11_endDraft ∈ cx_big := cx_tb 817 (by decide +kernel) (by decide +kernel)
theorem cw_818 : Cond.code yX11_endDraft cX11_endDraft 3 none ∈ cx_big := cx_tb 818 (by decide +kernel) (by decide +kernel)
theorem cw_819 : Cond.methodLink "TreeMergeLaw" 62 yX11_put ∈ cx_big := cx_tb 819 (by decide +kernel) (by decide +kernel)
theorem cw_820 : Cond.instanceMethod yX11_put ∈ cx_big := cx_tb 820 (by decide +kernel) (by decide +kernel)
theorem cw_821 : Cond.selects "TreeMerge" yX11_put yX11_put ∈ cx_big := cx_tb 821 (by decide +kernel) (by decide +kernel)
theorem cw_822 : Cond.code yX11_put cX11_put 10 (some .int) ∈ cx_big := cx_tb 822 (by decide +kernel) (by decide +kernel)
theorem cw_823 : Cond.methodLink "TreeMerge" 220 yX0_find ∈ cx_big := cx_tb 823 (by decide +kernel) (by decide +kernel)
theorem cw_824 : Cond.instanceMethod yX0_find ∈ cx_big := cx_tb 824 (by decide +kernel) (by decide +kernel)
theorem cw_825 : Cond.selects "TreeMerge$Draft" yX0_find yX0_find ∈ cx_big := cx_tb 825 (by decide +kernel) (by decide +kernel)
theorem cw_826 : Cond.code yX0_find cX0_find 2 (some .int) ∈ cx_big := cx_tb 826 (by decide +kernel) (by decide +kernel)
theorem cw_827 : Cond.methodLink "TreeMerge$Draft" 25 yX10_find ∈ cx_big := cx_tb 827 (by decide +kernel) (by decide +kernel)
theorem cw_828 : Cond.methodLink "TreeMerge" 223 yX11_flushLeft ∈ cx_big := cx_tb 828 (by decide +kernel) (by decide +kernel)
theorem cw_829 : Cond.static yX11_flushLeft ∈ cx_big := cx_tb 829 (by decide +kernel) (by decide +kernel)
theorem cw_830 : Cond.code yX11_flushLeft cX11_flushLeft 7 (some .long) ∈ cx_big := cx_tb 830 (by decide +kernel) (by decide +kernel)
theorem cw_831 : Cond.methodLink "TreeMerge" 370 yX11_isWordByte ∈ cx_big := cx_tb 831 (by decide +kernel) (by decide +kernel)
theorem cw_832 : Cond.constantLong "TreeMerge" 373 (-1) ∈ cx_big := cx_tb 832 (by decide +kernel) (by decide +kernel)
theorem cw_833 : Cond.methodLink "TreeMerge" 227 yX2_hasKind ∈ cx_big := cx_tb 833 (by decide +kernel) (by decide +kernel)
theorem cw_834 : Cond.methodLink "TreeMerge" 230 yX0_hasPlace ∈ cx_big := cx_tb 834 (by decide +kernel) (by decide +kernel)
theorem cw_835 : Cond.instanceMethod yX0_hasPlace ∈ cx_big := cx_tb 835 (by decide +kernel) (by decide +kernel)
theorem cw_836 : Cond.selects "TreeMerge$Draft" yX0_hasPlace yX0_hasPlace ∈ cx_big := cx_tb 836 (by decide +kernel) (by decide +kernel)
theorem cw_837 : Cond.code yX0_hasPlace cX0_hasPlace 6 (some .boolean) ∈ cx_big := cx_tb 837 (by decide +kernel) (by decide +kernel)
theorem cw_838 : Cond.methodLink "TreeMerge$Draft" 33 yX2_isSet ∈ cx_big := cx_tb 838 (by decide +kernel) (by decide +kernel)
theorem cw_839 : Cond.methodLink "TreeMerge$Draft" 39 yX10_childCount ∈ cx_big := cx_tb 839 (by decide +kernel) (by decide +kernel)
theorem cw_840 : Cond.instanceMethod yX10_childCount ∈ cx_big := cx_tb 840 (by decide +kernel) (by decide +kernel)
theorem cw_841 : Cond.selects "TreeMerge$Tree" yX10_childCount yX10_childCount ∈ cx_big := cx_tb 841 (by decide +kernel) (by decide +kernel)
theorem cw_842 : Cond.code yX10_childCount cX10_childCount 4 (some .int) ∈ cx_big := cx_tb 842 (by decide +kernel) (by decide +kernel)
theorem cw_843 : Cond.methodLink "TreeMerge" 234 yX0_insert ∈ cx_big := cx_tb 843 (by decide +kernel) (by decide +kernel)
theorem cw_844 : Cond.instanceMethod yX0_insert ∈ cx_big := cx_tb 844 (by decide +kernel) (by decide +kernel)
theorem cw_845 : Cond.selects "TreeMerge$Draft" yX0_insert yX0_insert ∈ cx_big := cx_tb 845 (by decide +kernel) (by decide +kernel)
theorem cw_846 : Cond.code yX0_insert cX0_insert 7 none ∈ cx_big := cx_tb 846 (by decide +kernel) (by decide +kernel)
theorem cw_847 : Cond.methodLink "TreeMerge$Draft" 45 yX10_childIndex ∈ cx_big := cx_tb 847 (by decide +kernel) (by decide +kernel)
theorem cw_848 : Cond.methodLink "TreeMerge$Draft" 49 yX10_insert ∈ cx_big := cx_tb 848 (by decide +kernel) (by decide +kernel)
theorem cw_849 : Cond.instanceMethod yX10_insert ∈ cx_big := cx_tb 849 (by decide +kernel) (by decide +kernel)
theorem cw_850 : Cond.selects "TreeMerge$Tree" yX10_insert yX10_insert ∈ cx_big := cx_tb 850 (by decide +kernel) (by decide +kernel)
theorem cw_851 : Cond.code yX10_insert cX10_insert 8 none ∈ cx_big := cx_tb 851 (by decide +kernel) (by decide +kernel)
theorem cw_852 : Cond.methodLink "TreeMerge$Tree" 38 yX10_moveEntry ∈ cx_big := cx_tb 852 (by decide +kernel) (by decide +kernel)
theorem cw_854 : Cond.instanceMethod yX10_moveEntry ∈ cx_big := cx_tb 854 (by decide +kernel) (by decide +kernel)
theorem cw_855 : Cond.code yX10_moveEntry cX10_moveEntry 3 none ∈ cx_big := cx_tb 855 (by decide +kernel) (by decide +kernel)
theorem cw_856 : Cond.methodLink "TreeMerge" 238 yX0_arrange ∈ cx_big := cx_tb 856 (by decide +kernel) (by decide +kernel)
theorem cw_857 : Cond.instanceMethod yX0_arrange ∈ cx_big := cx_tb 857 (by decide +kernel) (by decide +kernel)
theorem cw_858 : Cond.selects "TreeMerge$Draft" yX0_arrange yX0_arrange ∈ cx_big := cx_tb 858 (by decide +kernel) (by decide +kernel)
theorem cw_859 : Cond.code yX0_arrange cX0_arrange 2 none ∈ cx_big := cx_tb 859 (by decide +kernel) (by decide +kernel)
theorem cw_860 : Cond.methodLink "TreeMerge$Draft" 57 yX10_copy ∈ cx_big := cx_tb 860 (by decide +kernel) (by decide +kernel)
theorem cw_861 : Cond.methodLink "TreeMerge$Draft" 61 yX10_arrange ∈ cx_big := cx_tb 861 (by decide +kernel) (by decide +kernel)
theorem cw_862 : Cond.methodLink "TreeMergeLaw" 67 yX11_take ∈ cx_big := cx_tb 862 (by decide +kernel) (by decide +kernel)
theorem cw_863 : Cond.instanceMethod yX11_take ∈ cx_big := cx_tb 863 (by decide +kernel) (by decide +kernel)
theorem cw_864 : Cond.selects "TreeMerge" yX11_take yX11_take ∈ cx_big := cx_tb 864 (by decide +kernel) (by decide +kernel)
theorem cw_865 : Cond.code yX11_take cX11_take 3 (some .boolean) ∈ cx_big := cx_tb 865 (by decide +kernel) (by decide +kernel)
theorem cw_866 : Cond.methodLink "TreeMerge" 241 yX10_childCount ∈ cx_big := cx_tb 866 (by decide +kernel) (by decide +kernel)
theorem cw_867 : Cond.methodLink "TreeMerge" 244 yX0_cut ∈ cx_big := cx_tb 867 (by decide +kernel) (by decide +kernel)
theorem cw_868 : Cond.instanceMethod yX0_cut ∈ cx_big := cx_tb 868 (by decide +kernel) (by decide +kernel)
theorem cw_869 : Cond.selects "TreeMerge$Draft" yX0_cut yX0_cut ∈ cx_big := cx_tb 869 (by decide +kernel) (by decide +kernel)
theorem cw_870 : Cond.code yX0_cut cX0_cut 2 none ∈ cx_big := cx_tb 870 (by decide +kernel) (by decide +kernel)
theorem cw_871 : Cond.methodLink "TreeMerge$Draft" 53 yX10_cut ∈ cx_big := cx_tb 871 (by decide +kernel) (by decide +kernel)
theorem cw_872 : Cond.instanceMethod yX10_cut ∈ cx_big := cx_tb 872 (by decide +kernel) (by decide +kernel)
theorem cw_873 : Cond.selects "TreeMerge$Tree" yX10_cut yX10_cut ∈ cx_big := cx_tb 873 (by decide +kernel) (by decide +kernel)
theorem cw_874 : Cond.code yX10_cut cX10_cut 3 none ∈ cx_big := cx_tb 874 (by decide +kernel) (by decide +kernel)
theorem cw_875 : Cond.methodLink "TreeMergeLaw" 71 yX11_move ∈ cx_big := cx_tb 875 (by decide +kernel) (by decide +kernel)
theorem cw_876 : Cond.instanceMethod yX11_move ∈ cx_big := cx_tb 876 (by decide +kernel) (by decide +kernel)
theorem cw_877 : Cond.selects "TreeMerge" yX11_move yX11_move ∈ cx_big := cx_tb 877 (by decide +kernel) (by decide +kernel)
theorem cw_878 : Cond.code yX11_move cX11_move 9 (some .boolean) ∈ cx_big := cx_tb 878 (by decide +kernel) (by decide +kernel)
theorem cw_879 : Cond.methodLink "TreeMerge" 247 yX10_isWithin ∈ cx_big := cx_tb 879 (by decide +kernel) (by decide +kernel)
theorem cw_880 : Cond.instanceMethod yX10_isWithin ∈ cx_big := cx_tb 880 (by decide +kernel) (by decide +kernel)
theorem cw_881 : Cond.selects "TreeMerge$Tree" yX10_isWithin yX10_isWithin ∈ cx_big := cx_tb 881 (by decide +kernel) (by decide +kernel)
theorem cw_882 : Cond.code yX10_isWithin cX10_isWithin 3 (some .boolean) ∈ cx_big := cx_tb 882 (by decide +kernel) (by decide +kernel)
theorem cw_883 : Cond.methodLink "TreeMergeLaw" 76 yX11_rename ∈ cx_big := cx_tb 883 (by decide +kernel) (by decide +kernel)
theorem cw_884 : Cond.instanceMethod yX11_rename ∈ cx_big := cx_tb 884 (by decide +kernel) (by decide +kernel)
theorem cw_885 : Cond.selects "TreeMerge" yX11_rename yX11_rename ∈ cx_big := cx_tb 885 (by decide +kernel) (by decide +kernel)
theorem cw_886 : Cond.code yX11_rename cX11_rename 7 (some .boolean) ∈ cx_big := cx_tb 886 (by decide +kernel) (by decide +kernel)
theorem cw_887 : Cond.methodLink "TreeMergeLaw" 81 yX11_close ∈ cx_big := cx_tb 887 (by decide +kernel) (by decide +kernel)
theorem cw_888 : Cond.instanceMethod yX11_close ∈ cx_big := cx_tb 888 (by decide +kernel) (by decide +kernel)
theorem cw_889 : Cond.selects "TreeMerge" yX11_close yX11_close ∈ cx_big := cx_tb 889 (by decide +kernel) (by decide +kernel)
theorem cw_890 : Cond.code yX11_close cX11_close 2 (some .int) ∈ cx_big := cx_tb 890 (by decide +kernel) (by decide +kernel)
theorem cw_891 : Cond.methodLink "TreeMergeLaw" 85 yX11_base ∈ cx_big := cx_tb 891 (by decide +kernel) (by decide +kernel)
theorem cw_892 : Cond.instanceMethod yX11_base ∈ cx_big := cx_tb 892 (by decide +kernel) (by decide +kernel)
theorem cw_893 : Cond.selects "TreeMerge" yX11_base yX11_base ∈ cx_big := cx_tb 893 (by decide +kernel) (by decide +kernel)
theorem cw_894 : Cond.code yX11_base cX11_base 3 (some .int) ∈ cx_big := cx_tb 894 (by decide +kernel) (by decide +kernel)
theorem cw_895 : Cond.methodLink "TreeMerge" 255 yX11_findBase ∈ cx_big := cx_tb 895 (by decide +kernel) (by decide +kernel)
theorem cw_897 : Cond.instanceMethod yX11_findBase ∈ cx_big := cx_tb 897 (by decide +kernel) (by decide +kernel)
theorem cw_898 : Cond.code yX11_findBase cX11_findBase 8 (some .int) ∈ cx_big := cx_tb 898 (by decide +kernel) (by decide +kernel)
theorem cw_899 : Cond.methodLink "TreeMerge" 269 yX1_common ∈ cx_big := cx_tb 899 (by decide +kernel) (by decide +kernel)
theorem cw_900 : Cond.instanceMethod yX1_common ∈ cx_big := cx_tb 900 (by decide +kernel) (by decide +kernel)
theorem cw_901 : Cond.selects "TreeMerge$Editions" yX1_common yX1_common ∈ cx_big := cx_tb 901 (by decide +kernel) (by decide +kernel)
theorem cw_902 : Cond.code yX1_common cX1_common 3 (some .int) ∈ cx_big := cx_tb 902 (by decide +kernel) (by decide +kernel)
theorem cw_903 : Cond.methodLink "TreeMerge" 272 yX1_latest ∈ cx_big := cx_tb 903 (by decide +kernel) (by decide +kernel)
theorem cw_904 : Cond.instanceMethod yX1_latest ∈ cx_big := cx_tb 904 (by decide +kernel) (by decide +kernel)
theorem cw_905 : Cond.selects "TreeMerge$Editions" yX1_latest yX1_latest ∈ cx_big := cx_tb 905 (by decide +kernel) (by decide +kernel)
theorem cw_906 : Cond.code yX1_latest cX1_latest 4 (some .int) ∈ cx_big := cx_tb 906 (by decide +kernel) (by decide +kernel)
theorem cw_907 : Cond.methodLink "TreeMerge" 275 yX1_leastOf ∈ cx_big := cx_tb 907 (by decide +kernel) (by decide +kernel)
theorem cw_908 : Cond.instanceMethod yX1_leastOf ∈ cx_big := cx_tb 908 (by decide +kernel) (by decide +kernel)
theorem cw_909 : Cond.selects "TreeMerge$Editions" yX1_leastOf yX1_leastOf ∈ cx_big := cx_tb 909 (by decide +kernel) (by decide +kernel)
theorem cw_910 : Cond.code yX1_leastOf cX1_leastOf 3 (some .int) ∈ cx_big := cx_tb 910 (by decide +kernel) (by decide +kernel)
theorem cw_911 : Cond.methodLink "TreeMerge" 278 yX11_runMerging ∈ cx_big := cx_tb 911 (by decide +kernel) (by decide +kernel)
theorem cw_913 : Cond.instanceMethod yX11_runMerging ∈ cx_big := cx_tb 913 (by decide +kernel) (by decide +kernel)
theorem cw_914 : Cond.code yX11_runMerging cX11_runMerging 6 (some .boolean) ∈ cx_big := cx_tb 914 (by decide +kernel) (by decide +kernel)
theorem cw_915 : Cond.methodLink "TreeMerge" 289 yX8_load ∈ cx_big := cx_tb 915 (by decide +kernel) (by decide +kernel)
theorem cw_916 : Cond.instanceMethod yX8_load ∈ cx_big := cx_tb 916 (by decide +kernel) (by decide +kernel)
theorem cw_917 : Cond.selects "TreeMerge$Side" yX8_load yX8_load ∈ cx_big := cx_tb 917 (by decide +kernel) (by decide +kernel)
theorem cw_918 : Cond.code yX8_load cX8_load 5 none ∈ cx_big := cx_tb 918 (by decide +kernel) (by decide +kernel)
theorem cw_919 : Cond.methodLink "TreeMerge" 301 yX5_run ∈ cx_big := cx_tb 919 (by decide +kernel) (by decide +kernel)
theorem cw_920 : Cond.instanceMethod yX5_run ∈ cx_big := cx_tb 920 (by decide +kernel) (by decide +kernel)
theorem cw_921 : Cond.selects "TreeMerge$Merging" yX5_run yX5_run ∈ cx_big := cx_tb 921 (by decide +kernel) (by decide +kernel)
theorem cw_922 : Cond.code yX5_run cX5_run 5 (some .boolean) ∈ cx_big := cx_tb 922 (by decide +kernel) (by decide +kernel)
theorem cw_923 : Cond.methodLink "TreeMerge$Merging" 64 yX8_findTouched ∈ cx_big := cx_tb 923 (by decide +kernel) (by decide +kernel)
theorem cw_924 : Cond.instanceMethod yX8_findTouched ∈ cx_big := cx_tb 924 (by decide +kernel) (by decide +kernel)
theorem cw_925 : Cond.selects "TreeMerge$Side" yX8_findTouched yX8_findTouched ∈ cx_big := cx_tb 925 (by decide +kernel) (by decide +kernel)
theorem cw_926 : Cond.code yX8_findTouched cX8_findTouched 4 none ∈ cx_big := cx_tb 926 (by decide +kernel) (by decide +kernel)
theorem cw_927 : Cond.methodLink "TreeMerge$Side" 49 yX8_has ∈ cx_big := cx_tb 927 (by decide +kernel) (by decide +kernel)
theorem cw_928 : Cond.instanceMethod yX8_has ∈ cx_big := cx_tb 928 (by decide +kernel) (by decide +kernel)
theorem cw_929 : Cond.selects "TreeMerge$Side" yX8_has yX8_has ∈ cx_big := cx_tb 929 (by decide +kernel) (by decide +kernel)
theorem cw_930 : Cond.code yX8_has cX8_has 2 (some .boolean) ∈ cx_big := cx_tb 930 (by decide +kernel) (by decide +kernel)
theorem cw_931 : Cond.methodLink "TreeMerge$Side" 53 yX8_wordOf ∈ cx_big := cx_tb 931 (by decide +kernel) (by decide +kernel)
theorem cw_932 : Cond.instanceMethod yX8_wordOf ∈ cx_big := cx_tb 932 (by decide +kernel) (by decide +kernel)
theorem cw_933 : Cond.selects "TreeMerge$Side" yX8_wordOf yX8_wordOf ∈ cx_big := cx_tb 933 (by decide +kernel) (by decide +kernel)
theorem cw_934 : Cond.code yX8_wordOf cX8_wordOf 3 (some .long) ∈ cx_big := cx_tb 934 (by decide +kernel) (by decide +kernel)
theorem cw_935 : Cond.methodLink "TreeMerge$Side" 35 yX8_placeOf ∈ cx_big := cx_tb 935 (by decide +kernel) (by decide +kernel)
theorem cw_937 : Cond.instanceMethod yX8_placeOf ∈ cx_big := cx_tb 937 (by decide +kernel) (by decide +kernel)
theorem cw_938 : Cond.code yX8_placeOf cX8_placeOf 2 (some .int) ∈ cx_big := cx_tb 938 (by decide +kernel) (by decide +kernel)
theorem cw_939 : Cond.methodLink "TreeMerge$Side" 57 yX8_upOf ∈ cx_big := cx_tb 939 (by decide +kernel) (by decide +kernel)
theorem cw_940 : Cond.instanceMethod yX8_upOf ∈ cx_big := cx_tb 940 (by decide +kernel) (by decide +kernel)
theorem cw_941 : Cond.selects "TreeMerge$Side" yX8_upOf yX8_upOf ∈ cx_big := cx_tb 941 (by decide +kernel) (by decide +kernel)
theorem cw_942 : Cond.code yX8_upOf cX8_upOf 3 (some .int) ∈ cx_big := cx_tb 942 (by decide +kernel) (by decide +kernel)
theorem cw_943 : Cond.methodLink "TreeMerge$Merging" 68 yX5_decide ∈ cx_big := cx_tb 943 (by decide +kernel) (by decide +kernel)
theorem cw_945 : Cond.instanceMethod yX5_decide ∈ cx_big := cx_tb 945 (by decide +kernel) (by decide +kernel)
theorem cw_946 : Cond.code yX5_decide cX5_decide 3 none ∈ cx_big := cx_tb 946 (by decide +kernel) (by decide +kernel)
theorem cw_947 : Cond.methodLink "TreeMerge$Merging" 92 yX8_has ∈ cx_big := cx_tb 947 (by decide +kernel) (by decide +kernel)
theorem cw_948 : Cond.methodLink "TreeMerge$Merging" 96 yX5_decideShared ∈ cx_big := cx_tb 948 (by decide +kernel) (by decide +kernel)
theorem cw_950 : Cond.instanceMethod yX5_decideShared ∈ cx_big := cx_tb 950 (by decide +kernel) (by decide +kernel)
theorem cw_951 : Cond.code yX5_decideShared cX5_decideShared 9 none ∈ cx_big := cx_tb 951 (by decide +kernel) (by decide +kernel)
theorem cw_952 : Cond.methodLink "TreeMerge$Merging" 103 yX7_editionFor ∈ cx_big := cx_tb 952 (by decide +kernel) (by decide +kernel)
theorem cw_953 : Cond.instanceMethod yX7_editionFor ∈ cx_big := cx_tb 953 (by decide +kernel) (by decide +kernel)
theorem cw_954 : Cond.selects "TreeMerge$Settled" yX7_editionFor yX7_editionFor ∈ cx_big := cx_tb 954 (by decide +kernel) (by decide +kernel)
theorem cw_955 : Cond.code yX7_editionFor cX7_editionFor 4 (some .int) ∈ cx_big := cx_tb 955 (by decide +kernel) (by decide +kernel)
theorem cw_956 : Cond.methodLink "TreeMerge$Settled" 15 yX7_rowOf ∈ cx_big := cx_tb 956 (by decide +kernel) (by decide +kernel)
theorem cw_957 : Cond.static yX7_rowOf ∈ cx_big := cx_tb 957 (by decide +kernel) (by decide +kernel)
theorem cw_958 : Cond.code yX7_rowOf cX7_rowOf 3 (some .int) ∈ cx_big := cx_tb 958 (by decide +kernel) (by decide +kernel)
theorem cw_959 : Cond.methodLink "TreeMerge$Merging" 124 yX8_wordOf ∈ cx_big := cx_tb 959 (by decide +kernel) (by decide +kernel)
theorem cw_960 : Cond.methodLink "TreeMerge$Merging" 135 yX5_choose ∈ cx_big := cx_tb 960 (by decide +kernel) (by decide +kernel)
theorem cw_962 : Cond.instanceMethod yX5_choose ∈ cx_big := cx_tb 962 (by decide +kernel) (by decide +kernel)
theorem cw_963 : Cond.code yX5_choose cX5_choose 11 (some .long) ∈ cx_big := cx_tb 963 (by decide +kernel) (by decide +kernel)
theorem cw_964 : Cond.methodLink "TreeMerge$Merging" 116 yX5_mark ∈ cx_big := cx_tb 964 (by decide +kernel) (by decide +kernel)
theorem cw_966 : Cond.instanceMethod yX5_mark ∈ cx_big := cx_tb 966 (by decide +kernel) (by decide +kernel)
theorem cw_967 : Cond.code yX5_mark cX5_mark 3 none ∈ cx_big := cx_tb 967 (by decide +kernel) (by decide +kernel)
theorem cw_968 : Cond.methodLink "TreeMerge$Merging" 128 yX8_upOf ∈ cx_big := cx_tb 968 (by decide +kernel) (by decide +kernel)
theorem cw_969 : Cond.methodLink "TreeMerge$Merging" 120 yX8_kindOf ∈ cx_big := cx_tb 969 (by decide +kernel) (by decide +kernel)
theorem cw_970 : Cond.instanceMethod yX8_kindOf ∈ cx_big := cx_tb 970 (by decide +kernel) (by decide +kernel)
theorem cw_971 : Cond.selects "TreeMerge$Side" yX8_kindOf yX8_kindOf ∈ cx_big := cx_tb 971 (by decide +kernel) (by decide +kernel)
theorem cw_972 : Cond.code yX8_kindOf cX8_kindOf 3 (some .int) ∈ cx_big := cx_tb 972 (by decide +kernel) (by decide +kernel)
theorem cw_973 : Cond.methodLink "TreeMerge$Merging" 131 yX5_stand ∈ cx_big := cx_tb 973 (by decide +kernel) (by decide +kernel)
theorem cw_975 : Cond.instanceMethod yX5_stand ∈ cx_big := cx_tb 975 (by decide +kernel) (by decide +kernel)
theorem cw_976 : Cond.code yX5_stand cX5_stand 6 none ∈ cx_big := cx_tb 976 (by decide +kernel) (by decide +kernel)
theorem cw_977 : Cond.methodLink "TreeMerge$Merging" 99 yX5_decideLone ∈ cx_big := cx_tb 977 (by decide +kernel) (by decide +kernel)
theorem cw_979 : Cond.instanceMethod yX5_decideLone ∈ cx_big := cx_tb 979 (by decide +kernel) (by decide +kernel)
theorem cw_980 : Cond.code yX5_decideLone cX5_decideLone 6 none ∈ cx_big := cx_tb 980 (by decide +kernel) (by decide +kernel)
theorem cw_981 : Cond.methodLink "TreeMerge$Merging" 109 yX8_isTouched ∈ cx_big := cx_tb 981 (by decide +kernel) (by decide +kernel)
theorem cw_982 : Cond.instanceMethod yX8_isTouched ∈ cx_big := cx_tb 982 (by decide +kernel) (by decide +kernel)
theorem cw_983 : Cond.selects "TreeMerge$Side" yX8_isTouched yX8_isTouched ∈ cx_big := cx_tb 983 (by decide +kernel) (by decide +kernel)
theorem cw_984 : Cond.code yX8_isTouched cX8_isTouched 3 (some .boolean) ∈ cx_big := cx_tb 984 (by decide +kernel) (by decide +kernel)
theorem cw_985 : Cond.methodLink "TreeMerge$Merging" 72 yX5_dropTheLed ∈ cx_big := cx_tb 985 (by decide +kernel) (by decide +kernel)
theorem cw_987 : Cond.instanceMethod yX5_dropTheLed ∈ cx_big := cx_tb 987 (by decide +kernel) (by decide +kernel)
theorem cw_988 : Cond.code yX5_dropTheLed cX5_dropTheLed 4 none ∈ cx_big := cx_tb 988 (by decide +kernel) (by decide +kernel)
theorem cw_989 : Cond.methodLink "TreeMerge$Merging" 139 yX5_isStanding ∈ cx_big := cx_tb 989 (by decide +kernel) (by decide +kernel)
theorem cw_991 : Cond.instanceMethod yX5_isStanding ∈ cx_big := cx_tb 991 (by decide +kernel) (by decide +kernel)
theorem cw_992 : Cond.code yX5_isStanding cX5_isStanding 2 (some .boolean) ∈ cx_big := cx_tb 992 (by decide +kernel) (by decide +kernel)
theorem cw_993 : Cond.methodLink "TreeMerge$Merging" 75 yX5_findRings ∈ cx_big := cx_tb 993 (by decide +kernel) (by decide +kernel)
theorem cw_995 : Cond.instanceMethod yX5_findRings ∈ cx_big := cx_tb 995 (by decide +kernel) (by decide +kernel)
theorem cw_996 : Cond.code yX5_findRings cX5_findRings 2 none ∈ cx_big := cx_tb 996 (by decide +kernel) (by decide +kernel)
theorem cw_997 : Cond.methodLink "TreeMerge$Merging" 142 yX5_isLeastOfRing ∈ cx_big := cx_tb 997 (by decide +kernel) (by decide +kernel)
theorem cw_999 : Cond.instanceMethod yX5_isLeastOfRing ∈ cx_big := cx_tb 999 (by decide +kernel) (by decide +kernel)
theorem cw_1000 : Cond.code yX5_isLeastOfRing cX5_isLeastOfRing 4 (some .boolean) ∈ cx_big := cx_tb 1000 (by decide +kernel) (by decide +kernel)
theorem cw_1001 : Cond.methodLink "TreeMerge$Merging" 78 yX5_findCrowd ∈ cx_big := cx_tb 1001 (by decide +kernel) (by decide +kernel)
theorem cw_1003 : Cond.instanceMethod yX5_findCrowd ∈ cx_big := cx_tb 1003 (by decide +kernel) (by decide +kernel)
theorem cw_1004 : Cond.code yX5_findCrowd cX5_findCrowd 3 none ∈ cx_big := cx_tb 1004 (by decide +kernel) (by decide +kernel)
theorem cw_1005 : Cond.methodLink "TreeMerge$Merging" 145 yX8_outermost ∈ cx_big := cx_tb 1005 (by decide +kernel) (by decide +kernel)
theorem cw_1006 : Cond.instanceMethod yX8_outermost ∈ cx_big := cx_tb 1006 (by decide +kernel) (by decide +kernel)
theorem cw_1007 : Cond.selects "TreeMerge$Side" yX8_outermost yX8_outermost ∈ cx_big := cx_tb 1007 (by decide +kernel) (by decide +kernel)
theorem cw_1008 : Cond.code yX8_outermost cX8_outermost 1 (some .int) ∈ cx_big := cx_tb 1008 (by decide +kernel) (by decide +kernel)
theorem cw_1009 : Cond.methodLink "TreeMerge$Merging" 81 yX5_listOutermost ∈ cx_big := cx_tb 1009 (by decide +kernel) (by decide +kernel)
theorem cw_1011 : Cond.instanceMethod yX5_listOutermost ∈ cx_big := cx_tb 1011 (by decide +kernel) (by decide +kernel)
theorem cw_1012 : Cond.code yX5_listOutermost cX5_listOutermost 2 none ∈ cx_big := cx_tb 1012 (by decide +kernel) (by decide +kernel)
theorem cw_1013 : Cond.methodLink "TreeMerge$Merging" 149 yX10_clear ∈ cx_big := cx_tb 1013 (by decide +kernel) (by decide +kernel)
theorem cw_1014 : Cond.methodLink "TreeMerge$Merging" 152 yX10_add ∈ cx_big := cx_tb 1014 (by decide +kernel) (by decide +kernel)
theorem cw_1015 : Cond.methodLink "TreeMerge$Merging" 84 yX5_orderChildren ∈ cx_big := cx_tb 1015 (by decide +kernel) (by decide +kernel)
theorem cw_1017 : Cond.instanceMethod yX5_orderChildren ∈ cx_big := cx_tb 1017 (by decide +kernel) (by decide +kernel)
theorem cw_1018 : Cond.code yX5_orderChildren cX5_orderChildren 5 none ∈ cx_big := cx_tb 1018 (by decide +kernel) (by decide +kernel)
theorem cw_1019 : Cond.methodLink "TreeMerge$Merging" 159 yX2_isSet ∈ cx_big := cx_tb 1019 (by decide +kernel) (by decide +kernel)
theorem cw_1020 : Cond.methodLink "TreeMerge$Merging" 164 yX3_clear ∈ cx_big := cx_tb 1020 (by decide +kernel) (by decide +kernel)
theorem cw_1021 : Cond.methodLink "TreeMerge$Merging" 167 yX5_countWaits ∈ cx_big := cx_tb 1021 (by decide +kernel) (by decide +kernel)
theorem cw_1023 : Cond.instanceMethod yX5_countWaits ∈ cx_big := cx_tb 1023 (by decide +kernel) (by decide +kernel)
theorem cw_1024 : Cond.code yX5_countWaits cX5_countWaits 6 (some .boolean) ∈ cx_big := cx_tb 1024 (by decide +kernel) (by decide +kernel)
theorem cw_1025 : Cond.methodLink "TreeMerge$Merging" 182 yX5_ordering ∈ cx_big := cx_tb 1025 (by decide +kernel) (by decide +kernel)
theorem cw_1027 : Cond.instanceMethod yX5_ordering ∈ cx_big := cx_tb 1027 (by decide +kernel) (by decide +kernel)
theorem cw_1028 : Cond.code yX5_ordering cX5_ordering 7 (some .int) ∈ cx_big := cx_tb 1028 (by decide +kernel) (by decide +kernel)
theorem cw_1029 : Cond.methodLink "TreeMerge$Merging" 186 yX8_ordering ∈ cx_big := cx_tb 1029 (by decide +kernel) (by decide +kernel)
theorem cw_1030 : Cond.instanceMethod yX8_ordering ∈ cx_big := cx_tb 1030 (by decide +kernel) (by decide +kernel)
theorem cw_1031 : Cond.selects "TreeMerge$Side" yX8_ordering yX8_ordering ∈ cx_big := cx_tb 1031 (by decide +kernel) (by decide +kernel)
theorem cw_1032 : Cond.code yX8_ordering cX8_ordering 7 (some .int) ∈ cx_big := cx_tb 1032 (by decide +kernel) (by decide +kernel)
theorem cw_1033 : Cond.methodLink "TreeMerge$Merging" 171 yX5_listInOrder ∈ cx_big := cx_tb 1033 (by decide +kernel) (by decide +kernel)
theorem cw_1035 : Cond.instanceMethod yX5_listInOrder ∈ cx_big := cx_tb 1035 (by decide +kernel) (by decide +kernel)
theorem cw_1036 : Cond.code yX5_listInOrder cX5_listInOrder 7 (some .boolean) ∈ cx_big := cx_tb 1036 (by decide +kernel) (by decide +kernel)
theorem cw_1037 : Cond.methodLink "TreeMerge$Merging" 187 yX5_nextFree ∈ cx_big := cx_tb 1037 (by decide +kernel) (by decide +kernel)
theorem cw_1039 : Cond.instanceMethod yX5_nextFree ∈ cx_big := cx_tb 1039 (by decide +kernel) (by decide +kernel)
theorem cw_1040 : Cond.code yX5_nextFree cX5_nextFree 5 (some .int) ∈ cx_big := cx_tb 1040 (by decide +kernel) (by decide +kernel)
theorem cw_1042 : Cond.methodLink "TreeMerge$Merging" 190 yX3_add ∈ cx_big := cx_tb 1042 (by decide +kernel) (by decide +kernel)
theorem cw_1043 : Cond.methodLink "TreeMerge$Merging" 175 yX2_allows ∈ cx_big := cx_tb 1043 (by decide +kernel) (by decide +kernel)
theorem cw_1044 : Cond.methodLink "TreeMerge$Merging" 178 yX3_hasLikes ∈ cx_big := cx_tb 1044 (by decide +kernel) (by decide +kernel)
theorem cw_1045 : Cond.methodLink "TreeMerge$Merging" 88 yX10_arrange ∈ cx_big := cx_tb 1045 (by decide +kernel) (by decide +kernel)
theorem cw_1046 : Cond.methodLink "TreeMergeLaw" 89 yX11_merge ∈ cx_big := cx_tb 1046 (by decide +kernel) (by decide +kernel)
theorem cw_1047 : Cond.instanceMethod yX11_merge ∈ cx_big := cx_tb 1047 (by decide +kernel) (by decide +kernel)
theorem cw_1048 : Cond.selects "TreeMerge" yX11_merge yX11_merge ∈ cx_big := cx_tb 1048 (by decide +kernel) (by decide +kernel)
theorem cw_1049 : Cond.code yX11_merge cX11_merge 5 (some .int) ∈ cx_big := cx_tb 1049 (by decide +kernel) (by decide +kernel)
theorem cw_1050 : Cond.methodLink "TreeMerge" 259 yX1_comesFrom ∈ cx_big := cx_tb 1050 (by decide +kernel) (by decide +kernel)
theorem cw_1051 : Cond.instanceMethod yX1_comesFrom ∈ cx_big := cx_tb 1051 (by decide +kernel) (by decide +kernel)
theorem cw_1052 : Cond.selects "TreeMerge$Editions" yX1_comesFrom yX1_comesFrom ∈ cx_big := cx_tb 1052 (by decide +kernel) (by decide +kernel)
theorem cw_1053 : Cond.code yX1_comesFrom cX1_comesFrom 3 (some .boolean) ∈ cx_big := cx_tb 1053 (by decide +kernel) (by decide +kernel)
theorem cw_1054 : Cond.methodLink "TreeMerge" 262 yX11_mergeOn ∈ cx_big := cx_tb 1054 (by decide +kernel) (by decide +kernel)
theorem cw_1056 : Cond.instanceMethod yX11_mergeOn ∈ cx_big := cx_tb 1056 (by decide +kernel) (by decide +kernel)
theorem cw_1057 : Cond.code yX11_mergeOn cX11_mergeOn 7 (some .int) ∈ cx_big := cx_tb 1057 (by decide +kernel) (by decide +kernel)
theorem cw_1058 : Cond.methodLink "TreeMerge" 305 yX5_tellInto ∈ cx_big := cx_tb 1058 (by decide +kernel) (by decide +kernel)
theorem cw_1059 : Cond.instanceMethod yX5_tellInto ∈ cx_big := cx_tb 1059 (by decide +kernel) (by decide +kernel)
theorem cw_1060 : Cond.selects "TreeMerge$Merging" yX5_tellInto yX5_tellInto ∈ cx_big := cx_tb 1060 (by decide +kernel) (by decide +kernel)
theorem cw_1061 : Cond.code yX5_tellInto cX5_tellInto 5 (some .int) ∈ cx_big := cx_tb 1061 (by decide +kernel) (by decide +kernel)
theorem cw_1062 : Cond.methodLink "TreeMergeLaw" 93 yX11_carry ∈ cx_big := cx_tb 1062 (by decide +kernel) (by decide +kernel)
theorem cw_1063 : Cond.instanceMethod yX11_carry ∈ cx_big := cx_tb 1063 (by decide +kernel) (by decide +kernel)
theorem cw_1064 : Cond.selects "TreeMerge" yX11_carry yX11_carry ∈ cx_big := cx_tb 1064 (by decide +kernel) (by decide +kernel)
theorem cw_1065 : Cond.code yX11_carry cX11_carry 4 (some .int) ∈ cx_big := cx_tb 1065 (by decide +kernel) (by decide +kernel)
theorem cw_1066 : Cond.methodLink "TreeMerge" 266 yX1_onlyParent ∈ cx_big := cx_tb 1066 (by decide +kernel) (by decide +kernel)
theorem cw_1067 : Cond.instanceMethod yX1_onlyParent ∈ cx_big := cx_tb 1067 (by decide +kernel) (by decide +kernel)
theorem cw_1068 : Cond.selects "TreeMerge$Editions" yX1_onlyParent yX1_onlyParent ∈ cx_big := cx_tb 1068 (by decide +kernel) (by decide +kernel)
theorem cw_1069 : Cond.code yX1_onlyParent cX1_onlyParent 2 (some .int) ∈ cx_big := cx_tb 1069 (by decide +kernel) (by decide +kernel)
theorem cw_1070 : Cond.methodLink "TreeMergeLaw" 97 yX11_back ∈ cx_big := cx_tb 1070 (by decide +kernel) (by decide +kernel)
theorem cw_1071 : Cond.instanceMethod yX11_back ∈ cx_big := cx_tb 1071 (by decide +kernel) (by decide +kernel)
theorem cw_1072 : Cond.selects "TreeMerge" yX11_back yX11_back ∈ cx_big := cx_tb 1072 (by decide +kernel) (by decide +kernel)
theorem cw_1073 : Cond.code yX11_back cX11_back 4 (some .int) ∈ cx_big := cx_tb 1073 (by decide +kernel) (by decide +kernel)
theorem cw_1074 : Cond.methodLink "TreeMergeLaw" 101 yX11_quarrel ∈ cx_big := cx_tb 1074 (by decide +kernel) (by decide +kernel)
theorem cw_1075 : Cond.instanceMethod yX11_quarrel ∈ cx_big := cx_tb 1075 (by decide +kernel) (by decide +kernel)
theorem cw_1076 : Cond.selects "TreeMerge" yX11_quarrel yX11_quarrel ∈ cx_big := cx_tb 1076 (by decide +kernel) (by decide +kernel)
theorem cw_1077 : Cond.code yX11_quarrel cX11_quarrel 2 (some .int) ∈ cx_big := cx_tb 1077 (by decide +kernel) (by decide +kernel)
theorem cw_1078 : Cond.methodLink "TreeMergeLaw" 105 yX11_settle ∈ cx_big := cx_tb 1078 (by decide +kernel) (by decide +kernel)
theorem cw_1079 : Cond.instanceMethod yX11_settle ∈ cx_big := cx_tb 1079 (by decide +kernel) (by decide +kernel)
theorem cw_1080 : Cond.selects "TreeMerge" yX11_settle yX11_settle ∈ cx_big := cx_tb 1080 (by decide +kernel) (by decide +kernel)
theorem cw_1081 : Cond.code yX11_settle cX11_settle 4 (some .boolean) ∈ cx_big := cx_tb 1081 (by decide +kernel) (by decide +kernel)
theorem cw_1082 : Cond.methodLink "TreeMerge" 312 yX7_set ∈ cx_big := cx_tb 1082 (by decide +kernel) (by decide +kernel)
theorem cw_1083 : Cond.instanceMethod yX7_set ∈ cx_big := cx_tb 1083 (by decide +kernel) (by decide +kernel)
theorem cw_1084 : Cond.selects "TreeMerge$Settled" yX7_set yX7_set ∈ cx_big := cx_tb 1084 (by decide +kernel) (by decide +kernel)
theorem cw_1085 : Cond.code yX7_set cX7_set 5 none ∈ cx_big := cx_tb 1085 (by decide +kernel) (by decide +kernel)
theorem cw_1086 : Cond.methodLink "TreeMergeLaw" 109 yX11_unsettle ∈ cx_big := cx_tb 1086 (by decide +kernel) (by decide +kernel)
theorem cw_1087 : Cond.instanceMethod yX11_unsettle ∈ cx_big := cx_tb 1087 (by decide +kernel) (by decide +kernel)
theorem cw_1088 : Cond.selects "TreeMerge" yX11_unsettle yX11_unsettle ∈ cx_big := cx_tb 1088 (by decide +kernel) (by decide +kernel)
theorem cw_1089 : Cond.code yX11_unsettle cX11_unsettle 2 (some .int) ∈ cx_big := cx_tb 1089 (by decide +kernel) (by decide +kernel)
theorem cw_1090 : Cond.methodLink "TreeMerge" 317 yX7_clear ∈ cx_big := cx_tb 1090 (by decide +kernel) (by decide +kernel)
theorem cw_1091 : Cond.instanceMethod yX7_clear ∈ cx_big := cx_tb 1091 (by decide +kernel) (by decide +kernel)
theorem cw_1092 : Cond.selects "TreeMerge$Settled" yX7_clear yX7_clear ∈ cx_big := cx_tb 1092 (by decide +kernel) (by decide +kernel)
theorem cw_1093 : Cond.code yX7_clear cX7_clear 2 none ∈ cx_big := cx_tb 1093 (by decide +kernel) (by decide +kernel)
theorem cw_1094 : Cond.methodLink "TreeMergeLaw" 113 yX11_node ∈ cx_big := cx_tb 1094 (by decide +kernel) (by decide +kernel)
theorem cw_1095 : Cond.instanceMethod yX11_node ∈ cx_big := cx_tb 1095 (by decide +kernel) (by decide +kernel)
theorem cw_1096 : Cond.selects "TreeMerge" yX11_node yX11_node ∈ cx_big := cx_tb 1096 (by decide +kernel) (by decide +kernel)
theorem cw_1097 : Cond.code yX11_node cX11_node 4 (some .int) ∈ cx_big := cx_tb 1097 (by decide +kernel) (by decide +kernel)
theorem cw_1098 : Cond.methodLink "TreeMergeLaw" 117 yX11_of ∈ cx_big := cx_tb 1098 (by decide +kernel) (by decide +kernel)
theorem cw_1099 : Cond.instanceMethod yX11_of ∈ cx_big := cx_tb 1099 (by decide +kernel) (by decide +kernel)
theorem cw_1100 : Cond.selects "TreeMerge" yX11_of yX11_of ∈ cx_big := cx_tb 1100 (by decide +kernel) (by decide +kernel)
theorem cw_1101 : Cond.code yX11_of cX11_of 6 (some .int) ∈ cx_big := cx_tb 1101 (by decide +kernel) (by decide +kernel)
theorem cw_1102 : Cond.methodLink "TreeMerge" 320 yX11_editionOrDraft ∈ cx_big := cx_tb 1102 (by decide +kernel) (by decide +kernel)
theorem cw_1104 : Cond.instanceMethod yX11_editionOrDraft ∈ cx_big := cx_tb 1104 (by decide +kernel) (by decide +kernel)
theorem cw_1105 : Cond.code yX11_editionOrDraft cX11_editionOrDraft 2 (some (.object "TreeMerge$Tree")) ∈ cx_big := cx_tb 1105 (by decide +kernel) (by decide +kernel)
theorem cw_1106 : Cond.methodLink "TreeMerge" 323 yX10_find ∈ cx_big := cx_tb 1106 (by decide +kernel) (by decide +kernel)
theorem cw_1107 : Cond.methodLink "TreeMerge" 324 yX10_placeOf ∈ cx_big := cx_tb 1107 (by decide +kernel) (by decide +kernel)
theorem cw_1108 : Cond.instanceMethod yX10_placeOf ∈ cx_big := cx_tb 1108 (by decide +kernel) (by decide +kernel)
theorem cw_1109 : Cond.selects "TreeMerge$Tree" yX10_placeOf yX10_placeOf ∈ cx_big := cx_tb 1109 (by decide +kernel) (by decide +kernel)
theorem cw_1110 : Cond.code yX10_placeOf cX10_placeOf 4 (some .int) ∈ cx_big := cx_tb 1110 (by decide +kernel) (by decide +kernel)
theorem cw_1111 : Cond.methodLink "TreeMerge" 327 yX10_nameOf ∈ cx_big := cx_tb 1111 (by decide +kernel) (by decide +kernel)
theorem cw_1112 : Cond.instanceMethod yX10_nameOf ∈ cx_big := cx_tb 1112 (by decide +kernel) (by decide +kernel)
theorem cw_1113 : Cond.selects "TreeMerge$Tree" yX10_nameOf yX10_nameOf ∈ cx_big := cx_tb 1113 (by decide +kernel) (by decide +kernel)
theorem cw_1114 : Cond.code yX10_nameOf cX10_nameOf 7 (some .int) ∈ cx_big := cx_tb 1114 (by decide +kernel) (by decide +kernel)
theorem cw_1115 : Cond.constant "TreeMerge$Tree" 114 1000003 ∈ cx_big := cx_tb 1115 (by decide +kernel) (by decide +kernel)
theorem cw_1116 : Cond.methodLink "TreeMergeLaw" 122 yX11_word ∈ cx_big := cx_tb 1116 (by decide +kernel) (by decide +kernel)
theorem cw_1117 : Cond.instanceMethod yX11_word ∈ cx_big := cx_tb 1117 (by decide +kernel) (by decide +kernel)
theorem cw_1118 : Cond.selects "TreeMerge" yX11_word yX11_word ∈ cx_big := cx_tb 1118 (by decide +kernel) (by decide +kernel)
theorem cw_1119 : Cond.code yX11_word cX11_word 5 (some .long) ∈ cx_big := cx_tb 1119 (by decide +kernel) (by decide +kernel)
theorem cw_1120 : Cond.methodLink "TreeMerge" 337 yX11_flushRight ∈ cx_big := cx_tb 1120 (by decide +kernel) (by decide +kernel)
theorem cw_1121 : Cond.static yX11_flushRight ∈ cx_big := cx_tb 1121 (by decide +kernel) (by decide +kernel)
theorem cw_1122 : Cond.code yX11_flushRight cX11_flushRight 7 (some .long) ∈ cx_big := cx_tb 1122 (by decide +kernel) (by decide +kernel)
theorem cw_1123 : Cond.constantLong "TreeMerge" 375 255 ∈ cx_big := cx_tb 1123 (by decide +kernel) (by decide +kernel)
theorem cw_1124 : Cond.methodLink "TreeMergeLaw" 127 yX11_writer ∈ cx_big := cx_tb 1124 (by decide +kernel) (by decide +kernel)
theorem cw_1125 : Cond.instanceMethod yX11_writer ∈ cx_big := cx_tb 1125 (by decide +kernel) (by decide +kernel)
theorem cw_1126 : Cond.selects "TreeMerge" yX11_writer yX11_writer ∈ cx_big := cx_tb 1126 (by decide +kernel) (by decide +kernel)
theorem cw_1127 : Cond.code yX11_writer cX11_writer 2 (some .int) ∈ cx_big := cx_tb 1127 (by decide +kernel) (by decide +kernel)
theorem cw_1128 : Cond.methodLink "TreeMerge" 340 ⟨"java/lang/Math", "max", "(II)I"⟩ ∈ cx_big := cx_tb 1128 (by decide +kernel) (by decide +kernel)
theorem cw_1129 : Cond.static ⟨"java/lang/Math", "max", "(II)I"⟩ ∈ cx_big := cx_tb 1129 (by decide +kernel) (by decide +kernel)
theorem cw_1130 : Cond.code Lib.Math.max.name Lib.Math.max.code 2 (some .int) ∈ cx_big := cx_tb 1130 (by decide +kernel) (by decide +kernel)
theorem cw_1131 : Cond.methodLink "TreeMergeLaw" 131 yX11_name ∈ cx_big := cx_tb 1131 (by decide +kernel) (by decide +kernel)
theorem cw_1132 : Cond.instanceMethod yX11_name ∈ cx_big := cx_tb 1132 (by decide +kernel) (by decide +kernel)
theorem cw_1133 : Cond.selects "TreeMerge" yX11_name yX11_name ∈ cx_big := cx_tb 1133 (by decide +kernel) (by decide +kernel)
theorem cw_1134 : Cond.code yX11_name cX11_name 3 (some .int) ∈ cx_big := cx_tb 1134 (by decide +kernel) (by decide +kernel)
theorem cw_1135 : Cond.methodLink "TreeMergeLaw" 135 yX11_same ∈ cx_big := cx_tb 1135 (by decide +kernel) (by decide +kernel)
theorem cw_1136 : Cond.instanceMethod yX11_same ∈ cx_big := cx_tb 1136 (by decide +kernel) (by decide +kernel)
theorem cw_1137 : Cond.selects "TreeMerge" yX11_same yX11_same ∈ cx_big := cx_tb 1137 (by decide +kernel) (by decide +kernel)
theorem cw_1138 : Cond.code yX11_same cX11_same 5 (some .boolean) ∈ cx_big := cx_tb 1138 (by decide +kernel) (by decide +kernel)
theorem cw_1139 : Cond.methodLink "TreeMerge" 345 yX10_isSameFrom ∈ cx_big := cx_tb 1139 (by decide +kernel) (by decide +kernel)
theorem cw_1140 : Cond.methodLink "TreeMergeLaw" 140 yX11_print ∈ cx_big := cx_tb 1140 (by decide +kernel) (by decide +kernel)
theorem cw_1141 : Cond.instanceMethod yX11_print ∈ cx_big := cx_tb 1141 (by decide +kernel) (by decide +kernel)
theorem cw_1142 : Cond.selects "TreeMerge" yX11_print yX11_print ∈ cx_big := cx_tb 1142 (by decide +kernel) (by decide +kernel)
theorem cw_1143 : Cond.code yX11_print cX11_print 4 (some .int) ∈ cx_big := cx_tb 1143 (by decide +kernel) (by decide +kernel)
theorem cw_1144 : Cond.methodLink "TreeMerge" 349 yX6_start ∈ cx_big := cx_tb 1144 (by decide +kernel) (by decide +kernel)
theorem cw_1145 : Cond.instanceMethod yX6_start ∈ cx_big := cx_tb 1145 (by decide +kernel) (by decide +kernel)
theorem cw_1146 : Cond.selects "TreeMerge$Printer" yX6_start yX6_start ∈ cx_big := cx_tb 1146 (by decide +kernel) (by decide +kernel)
theorem cw_1147 : Cond.code yX6_start cX6_start 2 none ∈ cx_big := cx_tb 1147 (by decide +kernel) (by decide +kernel)
theorem cw_1148 : Cond.methodLink "TreeMerge" 352 yX6_addTree ∈ cx_big := cx_tb 1148 (by decide +kernel) (by decide +kernel)
theorem cw_1149 : Cond.instanceMethod yX6_addTree ∈ cx_big := cx_tb 1149 (by decide +kernel) (by decide +kernel)
theorem cw_1150 : Cond.selects "TreeMerge$Printer" yX6_addTree yX6_addTree ∈ cx_big := cx_tb 1150 (by decide +kernel) (by decide +kernel)
theorem cw_1151 : Cond.code yX6_addTree cX6_addTree 5 none ∈ cx_big := cx_tb 1151 (by decide +kernel) (by decide +kernel)
theorem cw_1152 : Cond.methodLink "TreeMerge$Printer" 34 yX6_addSigns ∈ cx_big := cx_tb 1152 (by decide +kernel) (by decide +kernel)
theorem cw_1154 : Cond.instanceMethod yX6_addSigns ∈ cx_big := cx_tb 1154 (by decide +kernel) (by decide +kernel)
theorem cw_1155 : Cond.code yX6_addSigns cX6_addSigns 4 none ∈ cx_big := cx_tb 1155 (by decide +kernel) (by decide +kernel)
theorem cw_1156 : Cond.methodLink "TreeMerge$Printer" 21 yX6_addSign ∈ cx_big := cx_tb 1156 (by decide +kernel) (by decide +kernel)
theorem cw_1158 : Cond.instanceMethod yX6_addSign ∈ cx_big := cx_tb 1158 (by decide +kernel) (by decide +kernel)
theorem cw_1159 : Cond.code yX6_addSign cX6_addSign 2 none ∈ cx_big := cx_tb 1159 (by decide +kernel) (by decide +kernel)
theorem cw_1160 : Cond.methodLink "TreeMerge$Printer" 41 yX6_addName ∈ cx_big := cx_tb 1160 (by decide +kernel) (by decide +kernel)
theorem cw_1162 : Cond.instanceMethod yX6_addName ∈ cx_big := cx_tb 1162 (by decide +kernel) (by decide +kernel)
theorem cw_1163 : Cond.code yX6_addName cX6_addName 5 none ∈ cx_big := cx_tb 1163 (by decide +kernel) (by decide +kernel)
theorem cw_1164 : Cond.methodLink "TreeMerge$Printer" 53 yX2_hasKind ∈ cx_big := cx_tb 1164 (by decide +kernel) (by decide +kernel)
theorem cw_1165 : Cond.methodLink "TreeMerge$Printer" 49 yX6_addWord ∈ cx_big := cx_tb 1165 (by decide +kernel) (by decide +kernel)
theorem cw_1167 : Cond.instanceMethod yX6_addWord ∈ cx_big := cx_tb 1167 (by decide +kernel) (by decide +kernel)
theorem cw_1168 : Cond.code yX6_addWord cX6_addWord 5 none ∈ cx_big := cx_tb 1168 (by decide +kernel) (by decide +kernel)
theorem cw_1169 : Cond.methodLink "TreeMergeLaw" 144 yX11_parent ∈ cx_big := cx_tb 1169 (by decide +kernel) (by decide +kernel)
theorem cw_1170 : Cond.instanceMethod yX11_parent ∈ cx_big := cx_tb 1170 (by decide +kernel) (by decide +kernel)
theorem cw_1171 : Cond.selects "TreeMerge" yX11_parent yX11_parent ∈ cx_big := cx_tb 1171 (by decide +kernel) (by decide +kernel)
theorem cw_1172 : Cond.code yX11_parent cX11_parent 3 (some .int) ∈ cx_big := cx_tb 1172 (by decide +kernel) (by decide +kernel)
theorem cw_1173 : Cond.methodLink "TreeMergeLaw" 148 yX11_from ∈ cx_big := cx_tb 1173 (by decide +kernel) (by decide +kernel)
theorem cw_1174 : Cond.instanceMethod yX11_from ∈ cx_big := cx_tb 1174 (by decide +kernel) (by decide +kernel)
theorem cw_1175 : Cond.selects "TreeMerge" yX11_from yX11_from ∈ cx_big := cx_tb 1175 (by decide +kernel) (by decide +kernel)
theorem cw_1176 : Cond.code yX11_from cX11_from 3 (some .boolean) ∈ cx_big := cx_tb 1176 (by decide +kernel) (by decide +kernel)
theorem cw_1177 : Cond.methodLink "TreeMergeLaw" 152 yX11_count ∈ cx_big := cx_tb 1177 (by decide +kernel) (by decide +kernel)
theorem cw_1178 : Cond.instanceMethod yX11_count ∈ cx_big := cx_tb 1178 (by decide +kernel) (by decide +kernel)
theorem cw_1179 : Cond.selects "TreeMerge" yX11_count yX11_count ∈ cx_big := cx_tb 1179 (by decide +kernel) (by decide +kernel)
theorem cw_1180 : Cond.code yX11_count cX11_count 2 (some .int) ∈ cx_big := cx_tb 1180 (by decide +kernel) (by decide +kernel)
theorem cw_1181 : Cond.classLink "TreeMergeLaw" 10 "TreeMergeModel" ∈ cx_big := cx_tb 1181 (by decide +kernel) (by decide +kernel)
theorem cw_1182 : Cond.instantiable "TreeMergeModel" 64 ∈ cx_big := cx_tb 1182 (by decide +kernel) (by decide +kernel)
theorem cw_1183 : Cond.methodLink "TreeMergeLaw" 12 yX12_init ∈ cx_big := cx_tb 1183 (by decide +kernel) (by decide +kernel)
theorem cw_1184 : Cond.instanceMethod yX12_init ∈ cx_big := cx_tb 1184 (by decide +kernel) (by decide +kernel)
theorem cw_1185 : Cond.code yX12_init cX12_init 1 none ∈ cx_big := cx_tb 1185 (by decide +kernel) (by decide +kernel)
theorem cw_1194 : Cond.fieldLink "TreeMergeModel" 163 "TreeMergeModel" "textMany" "I" ∈ cx_big := cx_tb 1194 (by decide +kernel) (by decide +kernel)
theorem cw_1195 : Cond.fieldLink "TreeMergeModel" 179 "TreeMergeModel" "at" "I" ∈ cx_big := cx_tb 1195 (by decide +kernel) (by decide +kernel)
theorem cw_1196 : Cond.fieldLink "TreeMergeModel" 182 "TreeMergeModel" "end0" "I" ∈ cx_big := cx_tb 1196 (by decide +kernel) (by decide +kernel)
theorem cw_1197 : Cond.fieldLink "TreeMergeModel" 193 "TreeMergeModel" "faultAt" "I" ∈ cx_big := cx_tb 1197 (by decide +kernel) (by decide +kernel)
theorem cw_1207 : Cond.fieldLink "TreeMergeModel" 251 "TreeMergeModel" "kinds" "I" ∈ cx_big := cx_tb 1207 (by decide +kernel) (by decide +kernel)
theorem cw_1208 : Cond.fieldLink "TreeMergeModel" 227 "TreeMergeModel" "readKinds" "I" ∈ cx_big := cx_tb 1208 (by decide +kernel) (by decide +kernel)
theorem cw_1219 : Cond.fieldLink "TreeMergeModel" 336 "TreeMergeModel" "nodes" "I" ∈ cx_big := cx_tb 1219 (by decide +kernel) (by decide +kernel)
theorem cw_1220 : Cond.fieldLink "TreeMergeModel" 339 "TreeMergeModel" "editions" "I" ∈ cx_big := cx_tb 1220 (by decide +kernel) (by decide +kernel)
theorem cw_1221 : Cond.fieldLink "TreeMergeModel" 258 "TreeMergeModel" "treeMany" "I" ∈ cx_big := cx_tb 1221 (by decide +kernel) (by decide +kernel)
theorem cw_1222 : Cond.fieldLink "TreeMergeModel" 407 "TreeMergeModel" "isDraft" "Z" ∈ cx_big := cx_tb 1222 (by decide +kernel) (by decide +kernel)
theorem cw_1243 : Cond.fieldLink "TreeMergeModel" 354 "TreeMergeModel" "seqMany" "I" ∈ cx_big := cx_tb 1243 (by decide +kernel) (by decide +kernel)
theorem cw_1244 : Cond.fieldLink "TreeMergeModel" 366 "TreeMergeModel" "leastCost" "I" ∈ cx_big := cx_tb 1244 (by decide +kernel) (by decide +kernel)
theorem cw_1245 : Cond.fieldLink "TreeMergeModel" 414 "TreeMergeModel" "draftOf" "I" ∈ cx_big := cx_tb 1245 (by decide +kernel) (by decide +kernel)
theorem cw_1250 : Cond.fieldLink "TreeMergeModel" 455 "TreeMergeModel" "quarrelMany" "I" ∈ cx_big := cx_tb 1250 (by decide +kernel) (by decide +kernel)
theorem cw_1251 : Cond.fieldLink "TreeMergeModel" 447 "TreeMergeModel" "settled" "I" ∈ cx_big := cx_tb 1251 (by decide +kernel) (by decide +kernel)
theorem cw_1256 : Cond.fieldLink "TreeMergeModel" 560 "TreeMergeModel" "printMany" "I" ∈ cx_big := cx_tb 1256 (by decide +kernel) (by decide +kernel)
theorem cw_1387 : Cond.methodLink "TreeMergeLaw" 17 yX12_feed ∈ cx_big := cx_tb 1387 (by decide +kernel) (by decide +kernel)
theorem cw_1388 : Cond.instanceMethod yX12_feed ∈ cx_big := cx_tb 1388 (by decide +kernel) (by decide +kernel)
theorem cw_1389 : Cond.selects "TreeMergeModel" yX12_feed yX12_feed ∈ cx_big := cx_tb 1389 (by decide +kernel) (by decide +kernel)
theorem cw_1390 : Cond.code yX12_feed cX12_feed 6 (some .int) ∈ cx_big := cx_tb 1390 (by decide +kernel) (by decide +kernel)
theorem cw_1391 : Cond.methodLink "TreeMergeModel" 167 yX12_feeds ∈ cx_big := cx_tb 1391 (by decide +kernel) (by decide +kernel)
theorem cw_1393 : Cond.instanceMethod yX12_feeds ∈ cx_big := cx_tb 1393 (by decide +kernel) (by decide +kernel)
theorem cw_1394 : Cond.code yX12_feeds cX12_feeds 3 none ∈ cx_big := cx_tb 1394 (by decide +kernel) (by decide +kernel)
theorem cw_1395 : Cond.methodLink "TreeMergeLaw" 22 yX12_end ∈ cx_big := cx_tb 1395 (by decide +kernel) (by decide +kernel)
theorem cw_1396 : Cond.instanceMethod yX12_end ∈ cx_big := cx_tb 1396 (by decide +kernel) (by decide +kernel)
theorem cw_1397 : Cond.selects "TreeMergeModel" yX12_end yX12_end ∈ cx_big := cx_tb 1397 (by decide +kernel) (by decide +kernel)
theorem cw_1398 : Cond.code yX12_end cX12_end 2 (some .boolean) ∈ cx_big := cx_tb 1398 (by decide +kernel) (by decide +kernel)
theorem cw_1399 : Cond.methodLink "TreeMergeModel" 171 yX12_in ∈ cx_big := cx_tb 1399 (by decide +kernel) (by decide +kernel)
theorem cw_1400 : Cond.static yX12_in ∈ cx_big := cx_tb 1400 (by decide +kernel) (by decide +kernel)
theorem cw_1401 : Cond.code yX12_in cX12_in 6 (some .boolean) ∈ cx_big := cx_tb 1401 (by decide +kernel) (by decide +kernel)
theorem cw_1402 : Cond.methodLink "TreeMergeLaw" 27 yX12_fault ∈ cx_big := cx_tb 1402 (by decide +kernel) (by decide +kernel)
theorem cw_1403 : Cond.instanceMethod yX12_fault ∈ cx_big := cx_tb 1403 (by decide +kernel) (by decide +kernel)
theorem cw_1404 : Cond.selects "TreeMergeModel" yX12_fault yX12_fault ∈ cx_big := cx_tb 1404 (by decide +kernel) (by decide +kernel)
theorem cw_1405 : Cond.code yX12_fault cX12_fault 2 (some .int) ∈ cx_big := cx_tb 1405 (by decide +kernel) (by decide +kernel)
theorem cw_1406 : Cond.methodLink "TreeMergeModel" 282 yX12_readsTree ∈ cx_big := cx_tb 1406 (by decide +kernel) (by decide +kernel)
theorem cw_1408 : Cond.instanceMethod yX12_readsTree ∈ cx_big := cx_tb 1408 (by decide +kernel) (by decide +kernel)
theorem cw_1409 : Cond.code yX12_readsTree cX12_readsTree 2 none ∈ cx_big := cx_tb 1409 (by decide +kernel) (by decide +kernel)
theorem cw_1410 : Cond.methodLink "TreeMergeModel" 190 yX12_skips ∈ cx_big := cx_tb 1410 (by decide +kernel) (by decide +kernel)
theorem cw_1412 : Cond.instanceMethod yX12_skips ∈ cx_big := cx_tb 1412 (by decide +kernel) (by decide +kernel)
theorem cw_1413 : Cond.code yX12_skips cX12_skips 1 none ∈ cx_big := cx_tb 1413 (by decide +kernel) (by decide +kernel)
theorem cw_1414 : Cond.methodLink "TreeMergeModel" 175 yX12_isLetter ∈ cx_big := cx_tb 1414 (by decide +kernel) (by decide +kernel)
theorem cw_1415 : Cond.static yX12_isLetter ∈ cx_big := cx_tb 1415 (by decide +kernel) (by decide +kernel)
theorem cw_1416 : Cond.code yX12_isLetter cX12_isLetter 1 (some .boolean) ∈ cx_big := cx_tb 1416 (by decide +kernel) (by decide +kernel)
theorem cw_1417 : Cond.methodLink "TreeMergeModel" 185 yX12_isOfWord ∈ cx_big := cx_tb 1417 (by decide +kernel) (by decide +kernel)
theorem cw_1418 : Cond.static yX12_isOfWord ∈ cx_big := cx_tb 1418 (by decide +kernel) (by decide +kernel)
theorem cw_1419 : Cond.code yX12_isOfWord cX12_isOfWord 1 (some .boolean) ∈ cx_big := cx_tb 1419 (by decide +kernel) (by decide +kernel)
theorem cw_1420 : Cond.constantLong "TreeMergeModel" 188 8 ∈ cx_big := cx_tb 1420 (by decide +kernel) (by decide +kernel)
theorem cw_1421 : Cond.methodLink "TreeMergeModel" 268 yX12_readsNode ∈ cx_big := cx_tb 1421 (by decide +kernel) (by decide +kernel)
theorem cw_1423 : Cond.instanceMethod yX12_readsNode ∈ cx_big := cx_tb 1423 (by decide +kernel) (by decide +kernel)
theorem cw_1424 : Cond.code yX12_readsNode cX12_readsNode 6 (some .boolean) ∈ cx_big := cx_tb 1424 (by decide +kernel) (by decide +kernel)
theorem cw_1425 : Cond.methodLink "TreeMergeModel" 254 yX12_kindAt ∈ cx_big := cx_tb 1425 (by decide +kernel) (by decide +kernel)
theorem cw_1427 : Cond.instanceMethod yX12_kindAt ∈ cx_big := cx_tb 1427 (by decide +kernel) (by decide +kernel)
theorem cw_1428 : Cond.code yX12_kindAt cX12_kindAt 5 (some .int) ∈ cx_big := cx_tb 1428 (by decide +kernel) (by decide +kernel)
theorem cw_1429 : Cond.methodLink "TreeMergeModel" 196 yX12_fails ∈ cx_big := cx_tb 1429 (by decide +kernel) (by decide +kernel)
theorem cw_1431 : Cond.instanceMethod yX12_fails ∈ cx_big := cx_tb 1431 (by decide +kernel) (by decide +kernel)
theorem cw_1432 : Cond.code yX12_fails cX12_fails 1 (some .boolean) ∈ cx_big := cx_tb 1432 (by decide +kernel) (by decide +kernel)
theorem cw_1433 : Cond.methodLink "TreeMergeModel" 200 yX12_goesOn ∈ cx_big := cx_tb 1433 (by decide +kernel) (by decide +kernel)
theorem cw_1435 : Cond.instanceMethod yX12_goesOn ∈ cx_big := cx_tb 1435 (by decide +kernel) (by decide +kernel)
theorem cw_1436 : Cond.code yX12_goesOn cX12_goesOn 1 none ∈ cx_big := cx_tb 1436 (by decide +kernel) (by decide +kernel)
theorem cw_1437 : Cond.methodLink "TreeMergeModel" 261 yX12_isCut ∈ cx_big := cx_tb 1437 (by decide +kernel) (by decide +kernel)
theorem cw_1439 : Cond.instanceMethod yX12_isCut ∈ cx_big := cx_tb 1439 (by decide +kernel) (by decide +kernel)
theorem cw_1440 : Cond.code yX12_isCut cX12_isCut 2 (some .boolean) ∈ cx_big := cx_tb 1440 (by decide +kernel) (by decide +kernel)
theorem cw_1441 : Cond.methodLink "TreeMergeModel" 221 yX12_isSign ∈ cx_big := cx_tb 1441 (by decide +kernel) (by decide +kernel)
theorem cw_1443 : Cond.instanceMethod yX12_isSign ∈ cx_big := cx_tb 1443 (by decide +kernel) (by decide +kernel)
theorem cw_1444 : Cond.code yX12_isSign cX12_isSign 2 (some .boolean) ∈ cx_big := cx_tb 1444 (by decide +kernel) (by decide +kernel)
theorem cw_1445 : Cond.methodLink "TreeMergeModel" 224 yX12_isWord ∈ cx_big := cx_tb 1445 (by decide +kernel) (by decide +kernel)
theorem cw_1447 : Cond.instanceMethod yX12_isWord ∈ cx_big := cx_tb 1447 (by decide +kernel) (by decide +kernel)
theorem cw_1448 : Cond.code yX12_isWord cX12_isWord 1 (some .boolean) ∈ cx_big := cx_tb 1448 (by decide +kernel) (by decide +kernel)
theorem cw_1449 : Cond.methodLink "TreeMergeModel" 264 yX12_wordHere ∈ cx_big := cx_tb 1449 (by decide +kernel) (by decide +kernel)
theorem cw_1451 : Cond.instanceMethod yX12_wordHere ∈ cx_big := cx_tb 1451 (by decide +kernel) (by decide +kernel)
theorem cw_1452 : Cond.code yX12_wordHere cX12_wordHere 4 (some .long) ∈ cx_big := cx_tb 1452 (by decide +kernel) (by decide +kernel)
theorem cw_1453 : Cond.methodLink "TreeMergeModel" 237 yX12_passes ∈ cx_big := cx_tb 1453 (by decide +kernel) (by decide +kernel)
theorem cw_1455 : Cond.instanceMethod yX12_passes ∈ cx_big := cx_tb 1455 (by decide +kernel) (by decide +kernel)
theorem cw_1456 : Cond.code yX12_passes cX12_passes 2 (some .boolean) ∈ cx_big := cx_tb 1456 (by decide +kernel) (by decide +kernel)
theorem cw_1457 : Cond.methodLink "TreeMergeModel" 272 yX12_arranges ∈ cx_big := cx_tb 1457 (by decide +kernel) (by decide +kernel)
theorem cw_1459 : Cond.instanceMethod yX12_arranges ∈ cx_big := cx_tb 1459 (by decide +kernel) (by decide +kernel)
theorem cw_1460 : Cond.code yX12_arranges cX12_arranges 4 none ∈ cx_big := cx_tb 1460 (by decide +kernel) (by decide +kernel)
theorem cw_1461 : Cond.methodLink "TreeMergeModel" 275 yX12_orders ∈ cx_big := cx_tb 1461 (by decide +kernel) (by decide +kernel)
theorem cw_1463 : Cond.instanceMethod yX12_orders ∈ cx_big := cx_tb 1463 (by decide +kernel) (by decide +kernel)
theorem cw_1464 : Cond.code yX12_orders cX12_orders 5 none ∈ cx_big := cx_tb 1464 (by decide +kernel) (by decide +kernel)
theorem cw_1465 : Cond.methodLink "TreeMergeModel" 301 yX12_kindOf ∈ cx_big := cx_tb 1465 (by decide +kernel) (by decide +kernel)
theorem cw_1467 : Cond.instanceMethod yX12_kindOf ∈ cx_big := cx_tb 1467 (by decide +kernel) (by decide +kernel)
theorem cw_1468 : Cond.code yX12_kindOf cX12_kindOf 3 (some .int) ∈ cx_big := cx_tb 1468 (by decide +kernel) (by decide +kernel)
theorem cw_1469 : Cond.methodLink "TreeMergeModel" 308 yX12_isAhead ∈ cx_big := cx_tb 1469 (by decide +kernel) (by decide +kernel)
theorem cw_1471 : Cond.instanceMethod yX12_isAhead ∈ cx_big := cx_tb 1471 (by decide +kernel) (by decide +kernel)
theorem cw_1472 : Cond.code yX12_isAhead cX12_isAhead 4 (some .boolean) ∈ cx_big := cx_tb 1472 (by decide +kernel) (by decide +kernel)
theorem cw_1473 : Cond.methodLink "TreeMergeModel" 304 yX12_isLess ∈ cx_big := cx_tb 1473 (by decide +kernel) (by decide +kernel)
theorem cw_1474 : Cond.static yX12_isLess ∈ cx_big := cx_tb 1474 (by decide +kernel) (by decide +kernel)
theorem cw_1475 : Cond.code yX12_isLess cX12_isLess 8 (some .boolean) ∈ cx_big := cx_tb 1475 (by decide +kernel) (by decide +kernel)
theorem cw_1476 : Cond.methodLink "TreeMergeModel" 297 yX12_longOf ∈ cx_big := cx_tb 1476 (by decide +kernel) (by decide +kernel)
theorem cw_1477 : Cond.static yX12_longOf ∈ cx_big := cx_tb 1477 (by decide +kernel) (by decide +kernel)
theorem cw_1478 : Cond.code yX12_longOf cX12_longOf 5 (some .int) ∈ cx_big := cx_tb 1478 (by decide +kernel) (by decide +kernel)
theorem cw_1479 : Cond.methodLink "TreeMergeModel" 278 yX12_next ∈ cx_big := cx_tb 1479 (by decide +kernel) (by decide +kernel)
theorem cw_1481 : Cond.instanceMethod yX12_next ∈ cx_big := cx_tb 1481 (by decide +kernel) (by decide +kernel)
theorem cw_1482 : Cond.code yX12_next cX12_next 6 (some .int) ∈ cx_big := cx_tb 1482 (by decide +kernel) (by decide +kernel)
theorem cw_1483 : Cond.methodLink "TreeMergeModel" 291 yX12_firstKid ∈ cx_big := cx_tb 1483 (by decide +kernel) (by decide +kernel)
theorem cw_1485 : Cond.instanceMethod yX12_firstKid ∈ cx_big := cx_tb 1485 (by decide +kernel) (by decide +kernel)
theorem cw_1486 : Cond.code yX12_firstKid cX12_firstKid 3 (some .int) ∈ cx_big := cx_tb 1486 (by decide +kernel) (by decide +kernel)
theorem cw_1487 : Cond.methodLink "TreeMergeModel" 288 yX12_kidBehind ∈ cx_big := cx_tb 1487 (by decide +kernel) (by decide +kernel)
theorem cw_1489 : Cond.instanceMethod yX12_kidBehind ∈ cx_big := cx_tb 1489 (by decide +kernel) (by decide +kernel)
theorem cw_1490 : Cond.code yX12_kidBehind cX12_kidBehind 6 (some .int) ∈ cx_big := cx_tb 1490 (by decide +kernel) (by decide +kernel)
theorem cw_1491 : Cond.methodLink "TreeMergeModel" 294 yX12_nextKid ∈ cx_big := cx_tb 1491 (by decide +kernel) (by decide +kernel)
theorem cw_1493 : Cond.instanceMethod yX12_nextKid ∈ cx_big := cx_tb 1493 (by decide +kernel) (by decide +kernel)
theorem cw_1494 : Cond.code yX12_nextKid cX12_nextKid 3 (some .int) ∈ cx_big := cx_tb 1494 (by decide +kernel) (by decide +kernel)
theorem cw_1495 : Cond.methodLink "TreeMergeModel" 285 yX12_readsGrammar ∈ cx_big := cx_tb 1495 (by decide +kernel) (by decide +kernel)
theorem cw_1497 : Cond.instanceMethod yX12_readsGrammar ∈ cx_big := cx_tb 1497 (by decide +kernel) (by decide +kernel)
theorem cw_1498 : Cond.code yX12_readsGrammar cX12_readsGrammar 5 none ∈ cx_big := cx_tb 1498 (by decide +kernel) (by decide +kernel)
theorem cw_1499 : Cond.methodLink "TreeMergeModel" 248 yX12_ruleRead ∈ cx_big := cx_tb 1499 (by decide +kernel) (by decide +kernel)
theorem cw_1501 : Cond.instanceMethod yX12_ruleRead ∈ cx_big := cx_tb 1501 (by decide +kernel) (by decide +kernel)
theorem cw_1502 : Cond.code yX12_ruleRead cX12_ruleRead 2 (some .boolean) ∈ cx_big := cx_tb 1502 (by decide +kernel) (by decide +kernel)
theorem cw_1503 : Cond.methodLink "TreeMergeModel" 234 yX12_isName ∈ cx_big := cx_tb 1503 (by decide +kernel) (by decide +kernel)
theorem cw_1505 : Cond.instanceMethod yX12_isName ∈ cx_big := cx_tb 1505 (by decide +kernel) (by decide +kernel)
theorem cw_1506 : Cond.code yX12_isName cX12_isName 1 (some .boolean) ∈ cx_big := cx_tb 1506 (by decide +kernel) (by decide +kernel)
theorem cw_1508 : Cond.methodLink "TreeMergeModel" 215 yX12_isReserved ∈ cx_big := cx_tb 1508 (by decide +kernel) (by decide +kernel)
theorem cw_1510 : Cond.instanceMethod yX12_isReserved ∈ cx_big := cx_tb 1510 (by decide +kernel) (by decide +kernel)
theorem cw_1511 : Cond.code yX12_isReserved cX12_isReserved 3 (some .boolean) ∈ cx_big := cx_tb 1511 (by decide +kernel) (by decide +kernel)
theorem cw_1512 : Cond.methodLink "TreeMergeModel" 203 ⟨"java/lang/String", "length", "()I"⟩ ∈ cx_big := cx_tb 1512 (by decide +kernel) (by decide +kernel)
theorem cw_1513 : Cond.methodLink "TreeMergeModel" 209 ⟨"java/lang/String", "charAt", "(I)C"⟩ ∈ cx_big := cx_tb 1513 (by decide +kernel) (by decide +kernel)
theorem cw_1515 : Cond.methodLink "TreeMergeModel" 241 yX12_kindNamed ∈ cx_big := cx_tb 1515 (by decide +kernel) (by decide +kernel)
theorem cw_1517 : Cond.instanceMethod yX12_kindNamed ∈ cx_big := cx_tb 1517 (by decide +kernel) (by decide +kernel)
theorem cw_1518 : Cond.code yX12_kindNamed cX12_kindNamed 4 (some .int) ∈ cx_big := cx_tb 1518 (by decide +kernel) (by decide +kernel)
theorem cw_1519 : Cond.methodLink "TreeMergeModel" 230 yX12_isAlike ∈ cx_big := cx_tb 1519 (by decide +kernel) (by decide +kernel)
theorem cw_1521 : Cond.instanceMethod yX12_isAlike ∈ cx_big := cx_tb 1521 (by decide +kernel) (by decide +kernel)
theorem cw_1522 : Cond.code yX12_isAlike cX12_isAlike 5 (some .boolean) ∈ cx_big := cx_tb 1522 (by decide +kernel) (by decide +kernel)
theorem cw_1523 : Cond.methodLink "TreeMergeModel" 245 yX12_items ∈ cx_big := cx_tb 1523 (by decide +kernel) (by decide +kernel)
theorem cw_1525 : Cond.instanceMethod yX12_items ∈ cx_big := cx_tb 1525 (by decide +kernel) (by decide +kernel)
theorem cw_1526 : Cond.code yX12_items cX12_items 6 (some .boolean) ∈ cx_big := cx_tb 1526 (by decide +kernel) (by decide +kernel)
theorem cw_1527 : Cond.methodLink "TreeMergeLaw" 32 yX12_grammar ∈ cx_big := cx_tb 1527 (by decide +kernel) (by decide +kernel)
theorem cw_1528 : Cond.instanceMethod yX12_grammar ∈ cx_big := cx_tb 1528 (by decide +kernel) (by decide +kernel)
theorem cw_1529 : Cond.selects "TreeMergeModel" yX12_grammar yX12_grammar ∈ cx_big := cx_tb 1529 (by decide +kernel) (by decide +kernel)
theorem cw_1530 : Cond.code yX12_grammar cX12_grammar 3 (some .int) ∈ cx_big := cx_tb 1530 (by decide +kernel) (by decide +kernel)
theorem cw_1531 : Cond.methodLink "TreeMergeLaw" 36 yX12_breaks ∈ cx_big := cx_tb 1531 (by decide +kernel) (by decide +kernel)
theorem cw_1532 : Cond.instanceMethod yX12_breaks ∈ cx_big := cx_tb 1532 (by decide +kernel) (by decide +kernel)
theorem cw_1533 : Cond.selects "TreeMergeModel" yX12_breaks yX12_breaks ∈ cx_big := cx_tb 1533 (by decide +kernel) (by decide +kernel)
theorem cw_1534 : Cond.code yX12_breaks cX12_breaks 1 (some .int) ∈ cx_big := cx_tb 1534 (by decide +kernel) (by decide +kernel)
theorem cw_1535 : Cond.methodLink "TreeMergeModel" 333 yX12_firstBreak ∈ cx_big := cx_tb 1535 (by decide +kernel) (by decide +kernel)
theorem cw_1537 : Cond.instanceMethod yX12_firstBreak ∈ cx_big := cx_tb 1537 (by decide +kernel) (by decide +kernel)
theorem cw_1538 : Cond.code yX12_firstBreak cX12_firstBreak 4 (some .int) ∈ cx_big := cx_tb 1538 (by decide +kernel) (by decide +kernel)
theorem cw_1539 : Cond.methodLink "TreeMergeModel" 324 yX12_root ∈ cx_big := cx_tb 1539 (by decide +kernel) (by decide +kernel)
theorem cw_1541 : Cond.instanceMethod yX12_root ∈ cx_big := cx_tb 1541 (by decide +kernel) (by decide +kernel)
theorem cw_1542 : Cond.code yX12_root cX12_root 3 (some .int) ∈ cx_big := cx_tb 1542 (by decide +kernel) (by decide +kernel)
theorem cw_1543 : Cond.methodLink "TreeMergeModel" 327 yX12_fitsBut ∈ cx_big := cx_tb 1543 (by decide +kernel) (by decide +kernel)
theorem cw_1545 : Cond.instanceMethod yX12_fitsBut ∈ cx_big := cx_tb 1545 (by decide +kernel) (by decide +kernel)
theorem cw_1546 : Cond.code yX12_fitsBut cX12_fitsBut 4 (some .boolean) ∈ cx_big := cx_tb 1546 (by decide +kernel) (by decide +kernel)
theorem cw_1547 : Cond.methodLink "TreeMergeModel" 315 yX12_kidsOf ∈ cx_big := cx_tb 1547 (by decide +kernel) (by decide +kernel)
theorem cw_1549 : Cond.instanceMethod yX12_kidsOf ∈ cx_big := cx_tb 1549 (by decide +kernel) (by decide +kernel)
theorem cw_1550 : Cond.code yX12_kidsOf cX12_kidsOf 5 (some .int) ∈ cx_big := cx_tb 1550 (by decide +kernel) (by decide +kernel)
theorem cw_1551 : Cond.methodLink "TreeMergeModel" 318 yX12_fitsSet ∈ cx_big := cx_tb 1551 (by decide +kernel) (by decide +kernel)
theorem cw_1553 : Cond.instanceMethod yX12_fitsSet ∈ cx_big := cx_tb 1553 (by decide +kernel) (by decide +kernel)
theorem cw_1554 : Cond.code yX12_fitsSet cX12_fitsSet 7 (some .boolean) ∈ cx_big := cx_tb 1554 (by decide +kernel) (by decide +kernel)
theorem cw_1555 : Cond.methodLink "TreeMergeModel" 321 yX12_fitsList ∈ cx_big := cx_tb 1555 (by decide +kernel) (by decide +kernel)
theorem cw_1557 : Cond.instanceMethod yX12_fitsList ∈ cx_big := cx_tb 1557 (by decide +kernel) (by decide +kernel)
theorem cw_1558 : Cond.code yX12_fitsList cX12_fitsList 7 (some .boolean) ∈ cx_big := cx_tb 1558 (by decide +kernel) (by decide +kernel)
theorem cw_1559 : Cond.methodLink "TreeMergeModel" 311 yX12_closes ∈ cx_big := cx_tb 1559 (by decide +kernel) (by decide +kernel)
theorem cw_1561 : Cond.instanceMethod yX12_closes ∈ cx_big := cx_tb 1561 (by decide +kernel) (by decide +kernel)
theorem cw_1562 : Cond.code yX12_closes cX12_closes 4 none ∈ cx_big := cx_tb 1562 (by decide +kernel) (by decide +kernel)
theorem cw_1563 : Cond.methodLink "TreeMergeModel" 330 yX12_hasLike ∈ cx_big := cx_tb 1563 (by decide +kernel) (by decide +kernel)
theorem cw_1565 : Cond.instanceMethod yX12_hasLike ∈ cx_big := cx_tb 1565 (by decide +kernel) (by decide +kernel)
theorem cw_1566 : Cond.code yX12_hasLike cX12_hasLike 5 (some .boolean) ∈ cx_big := cx_tb 1566 (by decide +kernel) (by decide +kernel)
theorem cw_1567 : Cond.methodLink "TreeMergeLaw" 40 yX12_first ∈ cx_big := cx_tb 1567 (by decide +kernel) (by decide +kernel)
theorem cw_1568 : Cond.instanceMethod yX12_first ∈ cx_big := cx_tb 1568 (by decide +kernel) (by decide +kernel)
theorem cw_1569 : Cond.selects "TreeMergeModel" yX12_first yX12_first ∈ cx_big := cx_tb 1569 (by decide +kernel) (by decide +kernel)
theorem cw_1570 : Cond.code yX12_first cX12_first 2 (some .int) ∈ cx_big := cx_tb 1570 (by decide +kernel) (by decide +kernel)
theorem cw_1571 : Cond.methodLink "TreeMergeModel" 348 yX12_canCome ∈ cx_big := cx_tb 1571 (by decide +kernel) (by decide +kernel)
theorem cw_1573 : Cond.instanceMethod yX12_canCome ∈ cx_big := cx_tb 1573 (by decide +kernel) (by decide +kernel)
theorem cw_1574 : Cond.code yX12_canCome cX12_canCome 1 (some .boolean) ∈ cx_big := cx_tb 1574 (by decide +kernel) (by decide +kernel)
theorem cw_1575 : Cond.methodLink "TreeMergeModel" 351 yX12_comes ∈ cx_big := cx_tb 1575 (by decide +kernel) (by decide +kernel)
theorem cw_1577 : Cond.instanceMethod yX12_comes ∈ cx_big := cx_tb 1577 (by decide +kernel) (by decide +kernel)
theorem cw_1578 : Cond.code yX12_comes cX12_comes 5 (some .int) ∈ cx_big := cx_tb 1578 (by decide +kernel) (by decide +kernel)
theorem cw_1579 : Cond.methodLink "TreeMergeModel" 342 yX12_newNode ∈ cx_big := cx_tb 1579 (by decide +kernel) (by decide +kernel)
theorem cw_1581 : Cond.instanceMethod yX12_newNode ∈ cx_big := cx_tb 1581 (by decide +kernel) (by decide +kernel)
theorem cw_1582 : Cond.code yX12_newNode cX12_newNode 3 (some .int) ∈ cx_big := cx_tb 1582 (by decide +kernel) (by decide +kernel)
theorem cw_1583 : Cond.methodLink "TreeMergeModel" 345 yX12_edition ∈ cx_big := cx_tb 1583 (by decide +kernel) (by decide +kernel)
theorem cw_1585 : Cond.instanceMethod yX12_edition ∈ cx_big := cx_tb 1585 (by decide +kernel) (by decide +kernel)
theorem cw_1586 : Cond.code yX12_edition cX12_edition 3 (some .int) ∈ cx_big := cx_tb 1586 (by decide +kernel) (by decide +kernel)
theorem cw_1587 : Cond.methodLink "TreeMergeLaw" 45 yX12_match ∈ cx_big := cx_tb 1587 (by decide +kernel) (by decide +kernel)
theorem cw_1588 : Cond.instanceMethod yX12_match ∈ cx_big := cx_tb 1588 (by decide +kernel) (by decide +kernel)
theorem cw_1589 : Cond.selects "TreeMergeModel" yX12_match yX12_match ∈ cx_big := cx_tb 1589 (by decide +kernel) (by decide +kernel)
theorem cw_1590 : Cond.code yX12_match cX12_match 4 (some .int) ∈ cx_big := cx_tb 1590 (by decide +kernel) (by decide +kernel)
theorem cw_1591 : Cond.methodLink "TreeMergeModel" 396 yX12_isEdition ∈ cx_big := cx_tb 1591 (by decide +kernel) (by decide +kernel)
theorem cw_1593 : Cond.instanceMethod yX12_isEdition ∈ cx_big := cx_tb 1593 (by decide +kernel) (by decide +kernel)
theorem cw_1594 : Cond.code yX12_isEdition cX12_isEdition 2 (some .boolean) ∈ cx_big := cx_tb 1594 (by decide +kernel) (by decide +kernel)
theorem cw_1595 : Cond.methodLink "TreeMergeModel" 399 yX12_matches ∈ cx_big := cx_tb 1595 (by decide +kernel) (by decide +kernel)
theorem cw_1597 : Cond.instanceMethod yX12_matches ∈ cx_big := cx_tb 1597 (by decide +kernel) (by decide +kernel)
theorem cw_1598 : Cond.code yX12_matches cX12_matches 3 none ∈ cx_big := cx_tb 1598 (by decide +kernel) (by decide +kernel)
theorem cw_1599 : Cond.methodLink "TreeMergeModel" 387 yX12_lines ∈ cx_big := cx_tb 1599 (by decide +kernel) (by decide +kernel)
theorem cw_1601 : Cond.instanceMethod yX12_lines ∈ cx_big := cx_tb 1601 (by decide +kernel) (by decide +kernel)
theorem cw_1602 : Cond.code yX12_lines cX12_lines 4 none ∈ cx_big := cx_tb 1602 (by decide +kernel) (by decide +kernel)
theorem cw_1603 : Cond.methodLink "TreeMergeModel" 369 yX12_pairs ∈ cx_big := cx_tb 1603 (by decide +kernel) (by decide +kernel)
theorem cw_1605 : Cond.instanceMethod yX12_pairs ∈ cx_big := cx_tb 1605 (by decide +kernel) (by decide +kernel)
theorem cw_1606 : Cond.code yX12_pairs cX12_pairs 3 none ∈ cx_big := cx_tb 1606 (by decide +kernel) (by decide +kernel)
theorem cw_1607 : Cond.methodLink "TreeMergeModel" 390 yX12_isExact ∈ cx_big := cx_tb 1607 (by decide +kernel) (by decide +kernel)
theorem cw_1609 : Cond.instanceMethod yX12_isExact ∈ cx_big := cx_tb 1609 (by decide +kernel) (by decide +kernel)
theorem cw_1610 : Cond.code yX12_isExact cX12_isExact 1 (some .boolean) ∈ cx_big := cx_tb 1610 (by decide +kernel) (by decide +kernel)
theorem cw_1611 : Cond.methodLink "TreeMergeModel" 373 yX12_tries ∈ cx_big := cx_tb 1611 (by decide +kernel) (by decide +kernel)
theorem cw_1613 : Cond.instanceMethod yX12_tries ∈ cx_big := cx_tb 1613 (by decide +kernel) (by decide +kernel)
theorem cw_1614 : Cond.code yX12_tries cX12_tries 5 none ∈ cx_big := cx_tb 1614 (by decide +kernel) (by decide +kernel)
theorem cw_1615 : Cond.methodLink "TreeMergeModel" 363 yX12_costNow ∈ cx_big := cx_tb 1615 (by decide +kernel) (by decide +kernel)
theorem cw_1617 : Cond.instanceMethod yX12_costNow ∈ cx_big := cx_tb 1617 (by decide +kernel) (by decide +kernel)
theorem cw_1618 : Cond.code yX12_costNow cX12_costNow 6 (some .int) ∈ cx_big := cx_tb 1618 (by decide +kernel) (by decide +kernel)
theorem cw_1619 : Cond.methodLink "TreeMergeModel" 360 yX12_parentsPair ∈ cx_big := cx_tb 1619 (by decide +kernel) (by decide +kernel)
theorem cw_1621 : Cond.instanceMethod yX12_parentsPair ∈ cx_big := cx_tb 1621 (by decide +kernel) (by decide +kernel)
theorem cw_1622 : Cond.code yX12_parentsPair cX12_parentsPair 4 (some .boolean) ∈ cx_big := cx_tb 1622 (by decide +kernel) (by decide +kernel)
theorem cw_1623 : Cond.methodLink "TreeMergeModel" 357 yX12_arePair ∈ cx_big := cx_tb 1623 (by decide +kernel) (by decide +kernel)
theorem cw_1625 : Cond.instanceMethod yX12_arePair ∈ cx_big := cx_tb 1625 (by decide +kernel) (by decide +kernel)
theorem cw_1626 : Cond.code yX12_arePair cX12_arePair 3 (some .boolean) ∈ cx_big := cx_tb 1626 (by decide +kernel) (by decide +kernel)
theorem cw_1627 : Cond.methodLink "TreeMergeModel" 393 yX12_rounds ∈ cx_big := cx_tb 1627 (by decide +kernel) (by decide +kernel)
theorem cw_1629 : Cond.instanceMethod yX12_rounds ∈ cx_big := cx_tb 1629 (by decide +kernel) (by decide +kernel)
theorem cw_1630 : Cond.code yX12_rounds cX12_rounds 5 none ∈ cx_big := cx_tb 1630 (by decide +kernel) (by decide +kernel)
theorem cw_1631 : Cond.methodLink "TreeMergeModel" 383 yX12_suits ∈ cx_big := cx_tb 1631 (by decide +kernel) (by decide +kernel)
theorem cw_1633 : Cond.instanceMethod yX12_suits ∈ cx_big := cx_tb 1633 (by decide +kernel) (by decide +kernel)
theorem cw_1634 : Cond.code yX12_suits cX12_suits 7 (some .boolean) ∈ cx_big := cx_tb 1634 (by decide +kernel) (by decide +kernel)
theorem cw_1635 : Cond.methodLink "TreeMergeModel" 376 yX12_isSameFree ∈ cx_big := cx_tb 1635 (by decide +kernel) (by decide +kernel)
theorem cw_1637 : Cond.instanceMethod yX12_isSameFree ∈ cx_big := cx_tb 1637 (by decide +kernel) (by decide +kernel)
theorem cw_1638 : Cond.code yX12_isSameFree cX12_isSameFree 6 (some .boolean) ∈ cx_big := cx_tb 1638 (by decide +kernel) (by decide +kernel)
theorem cw_1639 : Cond.methodLink "TreeMergeModel" 379 yX12_pairsAll ∈ cx_big := cx_tb 1639 (by decide +kernel) (by decide +kernel)
theorem cw_1641 : Cond.instanceMethod yX12_pairsAll ∈ cx_big := cx_tb 1641 (by decide +kernel) (by decide +kernel)
theorem cw_1642 : Cond.code yX12_pairsAll cX12_pairsAll 6 none ∈ cx_big := cx_tb 1642 (by decide +kernel) (by decide +kernel)
theorem cw_1643 : Cond.methodLink "TreeMergeModel" 402 yX12_bound ∈ cx_big := cx_tb 1643 (by decide +kernel) (by decide +kernel)
theorem cw_1645 : Cond.instanceMethod yX12_bound ∈ cx_big := cx_tb 1645 (by decide +kernel) (by decide +kernel)
theorem cw_1646 : Cond.code yX12_bound cX12_bound 5 (some .int) ∈ cx_big := cx_tb 1646 (by decide +kernel) (by decide +kernel)
theorem cw_1647 : Cond.constantLong "TreeMergeModel" 405 100 ∈ cx_big := cx_tb 1647 (by decide +kernel) (by decide +kernel)
theorem cw_1648 : Cond.methodLink "TreeMergeLaw" 50 yX12_next_ ∈ cx_big := cx_tb 1648 (by decide +kernel) (by decide +kernel)
theorem cw_1649 : Cond.instanceMethod yX12_next_ ∈ cx_big := cx_tb 1649 (by decide +kernel) (by decide +kernel)
theorem cw_1650 : Cond.selects "TreeMergeModel" yX12_next_ yX12_next_ ∈ cx_big := cx_tb 1650 (by decide +kernel) (by decide +kernel)
theorem cw_1651 : Cond.code yX12_next_ cX12_next_ 4 (some .int) ∈ cx_big := cx_tb 1651 (by decide +kernel) (by decide +kernel)
theorem cw_1652 : Cond.methodLink "TreeMergeLaw" 54 yX12_begin ∈ cx_big := cx_tb 1652 (by decide +kernel) (by decide +kernel)
theorem cw_1653 : Cond.instanceMethod yX12_begin ∈ cx_big := cx_tb 1653 (by decide +kernel) (by decide +kernel)
theorem cw_1654 : Cond.selects "TreeMergeModel" yX12_begin yX12_begin ∈ cx_big := cx_tb 1654 (by decide +kernel) (by decide +kernel)
theorem cw_1655 : Cond.code yX12_begin cX12_begin 2 (some .boolean) ∈ cx_big := cx_tb 1655 (by decide +kernel) (by decide +kernel)
theorem cw_1656 : Cond.methodLink "TreeMergeModel" 411 yX12_copies ∈ cx_big := cx_tb 1656 (by decide +kernel) (by decide +kernel)
theorem cw_1658 : Cond.instanceMethod yX12_copies ∈ cx_big := cx_tb 1658 (by decide +kernel) (by decide +kernel)
theorem cw_1659 : Cond.code yX12_copies cX12_copies 4 none ∈ cx_big := cx_tb 1659 (by decide +kernel) (by decide +kernel)
theorem cw_1660 : Cond.methodLink "TreeMergeLaw" 59 yX12_drop ∈ cx_big := cx_tb 1660 (by decide +kernel) (by decide +kernel)
theorem cw_1661 : Cond.instanceMethod yX12_drop ∈ cx_big := cx_tb 1661 (by decide +kernel) (by decide +kernel)
theorem cw_1662 : Cond.selects "TreeMergeModel" yX12_drop yX12_drop ∈ cx_big := cx_tb 1662 (by decide +kernel) (by decide +kernel)
theorem cw_1663 : Cond.code yX12_drop cX12_drop 1 (some .boolean) ∈ cx_big := cx_tb 1663 (by decide +kernel) (by decide +kernel)
theorem cw_1664 : Cond.methodLink "TreeMergeModel" 417 yX12_noPending ∈ cx_big := cx_tb 1664 (by decide +kernel) (by decide +kernel)
theorem cw_1666 : Cond.instanceMethod yX12_noPending ∈ cx_big := cx_tb 1666 (by decide +kernel) (by decide +kernel)
theorem cw_1667 : Cond.code yX12_noPending cX12_noPending 3 none ∈ cx_big := cx_tb 1667 (by decide +kernel) (by decide +kernel)
theorem cw_1668 : Cond.methodLink "TreeMergeLaw" 66 yX12_put ∈ cx_big := cx_tb 1668 (by decide +kernel) (by decide +kernel)
theorem cw_1669 : Cond.instanceMethod yX12_put ∈ cx_big := cx_tb 1669 (by decide +kernel) (by decide +kernel)
theorem cw_1670 : Cond.selects "TreeMergeModel" yX12_put yX12_put ∈ cx_big := cx_tb 1670 (by decide +kernel) (by decide +kernel)
theorem cw_1671 : Cond.code yX12_put cX12_put 7 (some .int) ∈ cx_big := cx_tb 1671 (by decide +kernel) (by decide +kernel)
theorem cw_1672 : Cond.methodLink "TreeMergeModel" 425 yX12_inDraft ∈ cx_big := cx_tb 1672 (by decide +kernel) (by decide +kernel)
theorem cw_1674 : Cond.instanceMethod yX12_inDraft ∈ cx_big := cx_tb 1674 (by decide +kernel) (by decide +kernel)
theorem cw_1675 : Cond.code yX12_inDraft cX12_inDraft 2 (some .boolean) ∈ cx_big := cx_tb 1675 (by decide +kernel) (by decide +kernel)
theorem cw_1676 : Cond.methodLink "TreeMergeModel" 428 yX12_isGood ∈ cx_big := cx_tb 1676 (by decide +kernel) (by decide +kernel)
theorem cw_1677 : Cond.static yX12_isGood ∈ cx_big := cx_tb 1677 (by decide +kernel) (by decide +kernel)
theorem cw_1678 : Cond.code yX12_isGood cX12_isGood 4 (some .boolean) ∈ cx_big := cx_tb 1678 (by decide +kernel) (by decide +kernel)
theorem cw_1679 : Cond.constantLong "TreeMergeModel" 420 255 ∈ cx_big := cx_tb 1679 (by decide +kernel) (by decide +kernel)
theorem cw_1680 : Cond.methodLink "TreeMergeModel" 432 yX12_size ∈ cx_big := cx_tb 1680 (by decide +kernel) (by decide +kernel)
theorem cw_1682 : Cond.instanceMethod yX12_size ∈ cx_big := cx_tb 1682 (by decide +kernel) (by decide +kernel)
theorem cw_1683 : Cond.code yX12_size cX12_size 4 (some .int) ∈ cx_big := cx_tb 1683 (by decide +kernel) (by decide +kernel)
theorem cw_1684 : Cond.methodLink "TreeMergeModel" 435 yX12_packed ∈ cx_big := cx_tb 1684 (by decide +kernel) (by decide +kernel)
theorem cw_1685 : Cond.static yX12_packed ∈ cx_big := cx_tb 1685 (by decide +kernel) (by decide +kernel)
theorem cw_1686 : Cond.code yX12_packed cX12_packed 7 (some .long) ∈ cx_big := cx_tb 1686 (by decide +kernel) (by decide +kernel)
theorem cw_1687 : Cond.methodLink "TreeMergeModel" 439 yX12_lays ∈ cx_big := cx_tb 1687 (by decide +kernel) (by decide +kernel)
theorem cw_1689 : Cond.instanceMethod yX12_lays ∈ cx_big := cx_tb 1689 (by decide +kernel) (by decide +kernel)
theorem cw_1690 : Cond.code yX12_lays cX12_lays 5 none ∈ cx_big := cx_tb 1690 (by decide +kernel) (by decide +kernel)
theorem cw_1691 : Cond.methodLink "TreeMergeModel" 422 yX12_shrinks ∈ cx_big := cx_tb 1691 (by decide +kernel) (by decide +kernel)
theorem cw_1693 : Cond.instanceMethod yX12_shrinks ∈ cx_big := cx_tb 1693 (by decide +kernel) (by decide +kernel)
theorem cw_1694 : Cond.code yX12_shrinks cX12_shrinks 4 none ∈ cx_big := cx_tb 1694 (by decide +kernel) (by decide +kernel)
theorem cw_1695 : Cond.methodLink "TreeMergeLaw" 70 yX12_take ∈ cx_big := cx_tb 1695 (by decide +kernel) (by decide +kernel)
theorem cw_1696 : Cond.instanceMethod yX12_take ∈ cx_big := cx_tb 1696 (by decide +kernel) (by decide +kernel)
theorem cw_1697 : Cond.selects "TreeMergeModel" yX12_take yX12_take ∈ cx_big := cx_tb 1697 (by decide +kernel) (by decide +kernel)
theorem cw_1698 : Cond.code yX12_take cX12_take 3 (some .boolean) ∈ cx_big := cx_tb 1698 (by decide +kernel) (by decide +kernel)
theorem cw_1699 : Cond.methodLink "TreeMergeLaw" 75 yX12_move ∈ cx_big := cx_tb 1699 (by decide +kernel) (by decide +kernel)
theorem cw_1700 : Cond.instanceMethod yX12_move ∈ cx_big := cx_tb 1700 (by decide +kernel) (by decide +kernel)
theorem cw_1701 : Cond.selects "TreeMergeModel" yX12_move yX12_move ∈ cx_big := cx_tb 1701 (by decide +kernel) (by decide +kernel)
theorem cw_1702 : Cond.code yX12_move cX12_move 6 (some .boolean) ∈ cx_big := cx_tb 1702 (by decide +kernel) (by decide +kernel)
theorem cw_1703 : Cond.methodLink "TreeMergeModel" 442 yX12_isUnder ∈ cx_big := cx_tb 1703 (by decide +kernel) (by decide +kernel)
theorem cw_1705 : Cond.instanceMethod yX12_isUnder ∈ cx_big := cx_tb 1705 (by decide +kernel) (by decide +kernel)
theorem cw_1706 : Cond.code yX12_isUnder cX12_isUnder 5 (some .boolean) ∈ cx_big := cx_tb 1706 (by decide +kernel) (by decide +kernel)
theorem cw_1707 : Cond.methodLink "TreeMergeLaw" 80 yX12_rename ∈ cx_big := cx_tb 1707 (by decide +kernel) (by decide +kernel)
theorem cw_1708 : Cond.instanceMethod yX12_rename ∈ cx_big := cx_tb 1708 (by decide +kernel) (by decide +kernel)
theorem cw_1709 : Cond.selects "TreeMergeModel" yX12_rename yX12_rename ∈ cx_big := cx_tb 1709 (by decide +kernel) (by decide +kernel)
theorem cw_1710 : Cond.code yX12_rename cX12_rename 4 (some .boolean) ∈ cx_big := cx_tb 1710 (by decide +kernel) (by decide +kernel)
theorem cw_1711 : Cond.methodLink "TreeMergeLaw" 84 yX12_close ∈ cx_big := cx_tb 1711 (by decide +kernel) (by decide +kernel)
theorem cw_1712 : Cond.instanceMethod yX12_close ∈ cx_big := cx_tb 1712 (by decide +kernel) (by decide +kernel)
theorem cw_1713 : Cond.selects "TreeMergeModel" yX12_close yX12_close ∈ cx_big := cx_tb 1713 (by decide +kernel) (by decide +kernel)
theorem cw_1714 : Cond.code yX12_close cX12_close 1 (some .int) ∈ cx_big := cx_tb 1714 (by decide +kernel) (by decide +kernel)
theorem cw_1715 : Cond.methodLink "TreeMergeLaw" 108 yX12_settle ∈ cx_big := cx_tb 1715 (by decide +kernel) (by decide +kernel)
theorem cw_1716 : Cond.instanceMethod yX12_settle ∈ cx_big := cx_tb 1716 (by decide +kernel) (by decide +kernel)
theorem cw_1717 : Cond.selects "TreeMergeModel" yX12_settle yX12_settle ∈ cx_big := cx_tb 1717 (by decide +kernel) (by decide +kernel)
theorem cw_1718 : Cond.code yX12_settle cX12_settle 5 (some .boolean) ∈ cx_big := cx_tb 1718 (by decide +kernel) (by decide +kernel)
theorem cw_1719 : Cond.constantLong "TreeMergeModel" 445 3 ∈ cx_big := cx_tb 1719 (by decide +kernel) (by decide +kernel)
theorem cw_1720 : Cond.methodLink "TreeMergeModel" 450 ⟨"java/lang/Math", "max", "(II)I"⟩ ∈ cx_big := cx_tb 1720 (by decide +kernel) (by decide +kernel)
theorem cw_1721 : Cond.methodLink "TreeMergeLaw" 112 yX12_unsettle ∈ cx_big := cx_tb 1721 (by decide +kernel) (by decide +kernel)
theorem cw_1722 : Cond.instanceMethod yX12_unsettle ∈ cx_big := cx_tb 1722 (by decide +kernel) (by decide +kernel)
theorem cw_1723 : Cond.selects "TreeMergeModel" yX12_unsettle yX12_unsettle ∈ cx_big := cx_tb 1723 (by decide +kernel) (by decide +kernel)
theorem cw_1724 : Cond.code yX12_unsettle cX12_unsettle 2 (some .int) ∈ cx_big := cx_tb 1724 (by decide +kernel) (by decide +kernel)
theorem cw_1725 : Cond.methodLink "TreeMergeLaw" 151 yX12_from ∈ cx_big := cx_tb 1725 (by decide +kernel) (by decide +kernel)
theorem cw_1726 : Cond.instanceMethod yX12_from ∈ cx_big := cx_tb 1726 (by decide +kernel) (by decide +kernel)
theorem cw_1727 : Cond.selects "TreeMergeModel" yX12_from yX12_from ∈ cx_big := cx_tb 1727 (by decide +kernel) (by decide +kernel)
theorem cw_1728 : Cond.code yX12_from cX12_from 3 (some .boolean) ∈ cx_big := cx_tb 1728 (by decide +kernel) (by decide +kernel)
theorem cw_1729 : Cond.methodLink "TreeMergeModel" 512 yX12_isFrom ∈ cx_big := cx_tb 1729 (by decide +kernel) (by decide +kernel)
theorem cw_1731 : Cond.instanceMethod yX12_isFrom ∈ cx_big := cx_tb 1731 (by decide +kernel) (by decide +kernel)
theorem cw_1732 : Cond.code yX12_isFrom cX12_isFrom 3 (some .boolean) ∈ cx_big := cx_tb 1732 (by decide +kernel) (by decide +kernel)
theorem cw_1733 : Cond.methodLink "TreeMergeLaw" 88 yX12_base ∈ cx_big := cx_tb 1733 (by decide +kernel) (by decide +kernel)
theorem cw_1734 : Cond.instanceMethod yX12_base ∈ cx_big := cx_tb 1734 (by decide +kernel) (by decide +kernel)
theorem cw_1735 : Cond.selects "TreeMergeModel" yX12_base yX12_base ∈ cx_big := cx_tb 1735 (by decide +kernel) (by decide +kernel)
theorem cw_1736 : Cond.code yX12_base cX12_base 4 (some .int) ∈ cx_big := cx_tb 1736 (by decide +kernel) (by decide +kernel)
theorem cw_1737 : Cond.methodLink "TreeMergeModel" 524 yX12_baseRow ∈ cx_big := cx_tb 1737 (by decide +kernel) (by decide +kernel)
theorem cw_1739 : Cond.instanceMethod yX12_baseRow ∈ cx_big := cx_tb 1739 (by decide +kernel) (by decide +kernel)
theorem cw_1740 : Cond.code yX12_baseRow cX12_baseRow 9 (some .int) ∈ cx_big := cx_tb 1740 (by decide +kernel) (by decide +kernel)
theorem cw_1741 : Cond.methodLink "TreeMergeModel" 518 yX12_nthBase ∈ cx_big := cx_tb 1741 (by decide +kernel) (by decide +kernel)
theorem cw_1743 : Cond.instanceMethod yX12_nthBase ∈ cx_big := cx_tb 1743 (by decide +kernel) (by decide +kernel)
theorem cw_1744 : Cond.code yX12_nthBase cX12_nthBase 6 (some .int) ∈ cx_big := cx_tb 1744 (by decide +kernel) (by decide +kernel)
theorem cw_1745 : Cond.methodLink "TreeMergeModel" 515 yX12_isBaseOf ∈ cx_big := cx_tb 1745 (by decide +kernel) (by decide +kernel)
theorem cw_1747 : Cond.instanceMethod yX12_isBaseOf ∈ cx_big := cx_tb 1747 (by decide +kernel) (by decide +kernel)
theorem cw_1748 : Cond.code yX12_isBaseOf cX12_isBaseOf 5 (some .boolean) ∈ cx_big := cx_tb 1748 (by decide +kernel) (by decide +kernel)
theorem cw_1749 : Cond.methodLink "TreeMergeModel" 521 yX12_merges ∈ cx_big := cx_tb 1749 (by decide +kernel) (by decide +kernel)
theorem cw_1751 : Cond.instanceMethod yX12_merges ∈ cx_big := cx_tb 1751 (by decide +kernel) (by decide +kernel)
theorem cw_1752 : Cond.code yX12_merges cX12_merges 4 (some .boolean) ∈ cx_big := cx_tb 1752 (by decide +kernel) (by decide +kernel)
theorem cw_1753 : Cond.methodLink "TreeMergeModel" 500 yX12_firstQuarrels ∈ cx_big := cx_tb 1753 (by decide +kernel) (by decide +kernel)
theorem cw_1755 : Cond.instanceMethod yX12_firstQuarrels ∈ cx_big := cx_tb 1755 (by decide +kernel) (by decide +kernel)
theorem cw_1756 : Cond.code yX12_firstQuarrels cX12_firstQuarrels 6 none ∈ cx_big := cx_tb 1756 (by decide +kernel) (by decide +kernel)
theorem cw_1757 : Cond.methodLink "TreeMergeModel" 465 yX12_isTouched ∈ cx_big := cx_tb 1757 (by decide +kernel) (by decide +kernel)
theorem cw_1759 : Cond.instanceMethod yX12_isTouched ∈ cx_big := cx_tb 1759 (by decide +kernel) (by decide +kernel)
theorem cw_1760 : Cond.code yX12_isTouched cX12_isTouched 5 (some .boolean) ∈ cx_big := cx_tb 1760 (by decide +kernel) (by decide +kernel)
theorem cw_1761 : Cond.methodLink "TreeMergeModel" 458 yX12_isOther ∈ cx_big := cx_tb 1761 (by decide +kernel) (by decide +kernel)
theorem cw_1763 : Cond.instanceMethod yX12_isOther ∈ cx_big := cx_tb 1763 (by decide +kernel) (by decide +kernel)
theorem cw_1764 : Cond.code yX12_isOther cX12_isOther 4 (some .boolean) ∈ cx_big := cx_tb 1764 (by decide +kernel) (by decide +kernel)
theorem cw_1765 : Cond.methodLink "TreeMergeModel" 461 yX12_settledFor ∈ cx_big := cx_tb 1765 (by decide +kernel) (by decide +kernel)
theorem cw_1767 : Cond.instanceMethod yX12_settledFor ∈ cx_big := cx_tb 1767 (by decide +kernel) (by decide +kernel)
theorem cw_1768 : Cond.code yX12_settledFor cX12_settledFor 6 (some .int) ∈ cx_big := cx_tb 1768 (by decide +kernel) (by decide +kernel)
theorem cw_1769 : Cond.methodLink "TreeMergeModel" 468 yX12_quarrels ∈ cx_big := cx_tb 1769 (by decide +kernel) (by decide +kernel)
theorem cw_1771 : Cond.instanceMethod yX12_quarrels ∈ cx_big := cx_tb 1771 (by decide +kernel) (by decide +kernel)
theorem cw_1772 : Cond.code yX12_quarrels cX12_quarrels 3 none ∈ cx_big := cx_tb 1772 (by decide +kernel) (by decide +kernel)
theorem cw_1773 : Cond.methodLink "TreeMergeModel" 470 yX12_sideOf ∈ cx_big := cx_tb 1773 (by decide +kernel) (by decide +kernel)
theorem cw_1775 : Cond.instanceMethod yX12_sideOf ∈ cx_big := cx_tb 1775 (by decide +kernel) (by decide +kernel)
theorem cw_1776 : Cond.code yX12_sideOf cX12_sideOf 8 (some .int) ∈ cx_big := cx_tb 1776 (by decide +kernel) (by decide +kernel)
theorem cw_1777 : Cond.methodLink "TreeMergeModel" 503 yX12_stacks ∈ cx_big := cx_tb 1777 (by decide +kernel) (by decide +kernel)
theorem cw_1779 : Cond.instanceMethod yX12_stacks ∈ cx_big := cx_tb 1779 (by decide +kernel) (by decide +kernel)
theorem cw_1780 : Cond.code yX12_stacks cX12_stacks 6 none ∈ cx_big := cx_tb 1780 (by decide +kernel) (by decide +kernel)
theorem cw_1781 : Cond.methodLink "TreeMergeModel" 474 yX12_stands ∈ cx_big := cx_tb 1781 (by decide +kernel) (by decide +kernel)
theorem cw_1783 : Cond.instanceMethod yX12_stands ∈ cx_big := cx_tb 1783 (by decide +kernel) (by decide +kernel)
theorem cw_1784 : Cond.code yX12_stands cX12_stands 6 (some .boolean) ∈ cx_big := cx_tb 1784 (by decide +kernel) (by decide +kernel)
theorem cw_1785 : Cond.methodLink "TreeMergeModel" 506 yX12_secondQuarrels ∈ cx_big := cx_tb 1785 (by decide +kernel) (by decide +kernel)
theorem cw_1787 : Cond.instanceMethod yX12_secondQuarrels ∈ cx_big := cx_tb 1787 (by decide +kernel) (by decide +kernel)
theorem cw_1788 : Cond.code yX12_secondQuarrels cX12_secondQuarrels 2 none ∈ cx_big := cx_tb 1788 (by decide +kernel) (by decide +kernel)
theorem cw_1789 : Cond.methodLink "TreeMergeModel" 480 yX12_isLeastOfRing ∈ cx_big := cx_tb 1789 (by decide +kernel) (by decide +kernel)
theorem cw_1791 : Cond.instanceMethod yX12_isLeastOfRing ∈ cx_big := cx_tb 1791 (by decide +kernel) (by decide +kernel)
theorem cw_1792 : Cond.code yX12_isLeastOfRing cX12_isLeastOfRing 4 (some .boolean) ∈ cx_big := cx_tb 1792 (by decide +kernel) (by decide +kernel)
theorem cw_1793 : Cond.methodLink "TreeMergeModel" 477 yX12_leadsBack ∈ cx_big := cx_tb 1793 (by decide +kernel) (by decide +kernel)
theorem cw_1795 : Cond.instanceMethod yX12_leadsBack ∈ cx_big := cx_tb 1795 (by decide +kernel) (by decide +kernel)
theorem cw_1796 : Cond.code yX12_leadsBack cX12_leadsBack 4 (some .boolean) ∈ cx_big := cx_tb 1796 (by decide +kernel) (by decide +kernel)
theorem cw_1797 : Cond.methodLink "TreeMergeModel" 483 yX12_outermost ∈ cx_big := cx_tb 1797 (by decide +kernel) (by decide +kernel)
theorem cw_1799 : Cond.instanceMethod yX12_outermost ∈ cx_big := cx_tb 1799 (by decide +kernel) (by decide +kernel)
theorem cw_1800 : Cond.code yX12_outermost cX12_outermost 1 (some .int) ∈ cx_big := cx_tb 1800 (by decide +kernel) (by decide +kernel)
theorem cw_1801 : Cond.methodLink "TreeMergeModel" 509 yX12_thirdQuarrels ∈ cx_big := cx_tb 1801 (by decide +kernel) (by decide +kernel)
theorem cw_1803 : Cond.instanceMethod yX12_thirdQuarrels ∈ cx_big := cx_tb 1803 (by decide +kernel) (by decide +kernel)
theorem cw_1804 : Cond.code yX12_thirdQuarrels cX12_thirdQuarrels 6 none ∈ cx_big := cx_tb 1804 (by decide +kernel) (by decide +kernel)
theorem cw_1805 : Cond.methodLink "TreeMergeModel" 497 yX12_ordersKids ∈ cx_big := cx_tb 1805 (by decide +kernel) (by decide +kernel)
theorem cw_1807 : Cond.instanceMethod yX12_ordersKids ∈ cx_big := cx_tb 1807 (by decide +kernel) (by decide +kernel)
theorem cw_1808 : Cond.code yX12_ordersKids cX12_ordersKids 9 (some .boolean) ∈ cx_big := cx_tb 1808 (by decide +kernel) (by decide +kernel)
theorem cw_1809 : Cond.methodLink "TreeMergeModel" 489 yX12_ahead ∈ cx_big := cx_tb 1809 (by decide +kernel) (by decide +kernel)
theorem cw_1811 : Cond.instanceMethod yX12_ahead ∈ cx_big := cx_tb 1811 (by decide +kernel) (by decide +kernel)
theorem cw_1812 : Cond.code yX12_ahead cX12_ahead 10 (some .int) ∈ cx_big := cx_tb 1812 (by decide +kernel) (by decide +kernel)
theorem cw_1813 : Cond.methodLink "TreeMergeModel" 486 yX12_says ∈ cx_big := cx_tb 1813 (by decide +kernel) (by decide +kernel)
theorem cw_1815 : Cond.instanceMethod yX12_says ∈ cx_big := cx_tb 1815 (by decide +kernel) (by decide +kernel)
theorem cw_1816 : Cond.code yX12_says cX12_says 5 (some .int) ∈ cx_big := cx_tb 1816 (by decide +kernel) (by decide +kernel)
theorem cw_1817 : Cond.methodLink "TreeMergeModel" 493 yX12_isFree ∈ cx_big := cx_tb 1817 (by decide +kernel) (by decide +kernel)
theorem cw_1819 : Cond.instanceMethod yX12_isFree ∈ cx_big := cx_tb 1819 (by decide +kernel) (by decide +kernel)
theorem cw_1820 : Cond.code yX12_isFree cX12_isFree 7 (some .boolean) ∈ cx_big := cx_tb 1820 (by decide +kernel) (by decide +kernel)
theorem cw_1821 : Cond.methodLink "TreeMergeLaw" 92 yX12_merge ∈ cx_big := cx_tb 1821 (by decide +kernel) (by decide +kernel)
theorem cw_1822 : Cond.instanceMethod yX12_merge ∈ cx_big := cx_tb 1822 (by decide +kernel) (by decide +kernel)
theorem cw_1823 : Cond.selects "TreeMergeModel" yX12_merge yX12_merge ∈ cx_big := cx_tb 1823 (by decide +kernel) (by decide +kernel)
theorem cw_1824 : Cond.code yX12_merge cX12_merge 4 (some .int) ∈ cx_big := cx_tb 1824 (by decide +kernel) (by decide +kernel)
theorem cw_1825 : Cond.methodLink "TreeMergeModel" 527 yX12_made ∈ cx_big := cx_tb 1825 (by decide +kernel) (by decide +kernel)
theorem cw_1827 : Cond.instanceMethod yX12_made ∈ cx_big := cx_tb 1827 (by decide +kernel) (by decide +kernel)
theorem cw_1828 : Cond.code yX12_made cX12_made 3 (some .int) ∈ cx_big := cx_tb 1828 (by decide +kernel) (by decide +kernel)
theorem cw_1829 : Cond.methodLink "TreeMergeLaw" 96 yX12_carry ∈ cx_big := cx_tb 1829 (by decide +kernel) (by decide +kernel)
theorem cw_1830 : Cond.instanceMethod yX12_carry ∈ cx_big := cx_tb 1830 (by decide +kernel) (by decide +kernel)
theorem cw_1831 : Cond.selects "TreeMergeModel" yX12_carry yX12_carry ∈ cx_big := cx_tb 1831 (by decide +kernel) (by decide +kernel)
theorem cw_1832 : Cond.code yX12_carry cX12_carry 3 (some .int) ∈ cx_big := cx_tb 1832 (by decide +kernel) (by decide +kernel)
theorem cw_1833 : Cond.methodLink "TreeMergeModel" 530 yX12_hasOneParent ∈ cx_big := cx_tb 1833 (by decide +kernel) (by decide +kernel)
theorem cw_1835 : Cond.instanceMethod yX12_hasOneParent ∈ cx_big := cx_tb 1835 (by decide +kernel) (by decide +kernel)
theorem cw_1836 : Cond.code yX12_hasOneParent cX12_hasOneParent 2 (some .boolean) ∈ cx_big := cx_tb 1836 (by decide +kernel) (by decide +kernel)
theorem cw_1837 : Cond.methodLink "TreeMergeLaw" 100 yX12_back ∈ cx_big := cx_tb 1837 (by decide +kernel) (by decide +kernel)
theorem cw_1838 : Cond.instanceMethod yX12_back ∈ cx_big := cx_tb 1838 (by decide +kernel) (by decide +kernel)
theorem cw_1839 : Cond.selects "TreeMergeModel" yX12_back yX12_back ∈ cx_big := cx_tb 1839 (by decide +kernel) (by decide +kernel)
theorem cw_1840 : Cond.code yX12_back cX12_back 3 (some .int) ∈ cx_big := cx_tb 1840 (by decide +kernel) (by decide +kernel)
theorem cw_1841 : Cond.methodLink "TreeMergeLaw" 104 yX12_quarrel ∈ cx_big := cx_tb 1841 (by decide +kernel) (by decide +kernel)
theorem cw_1842 : Cond.instanceMethod yX12_quarrel ∈ cx_big := cx_tb 1842 (by decide +kernel) (by decide +kernel)
theorem cw_1843 : Cond.selects "TreeMergeModel" yX12_quarrel yX12_quarrel ∈ cx_big := cx_tb 1843 (by decide +kernel) (by decide +kernel)
theorem cw_1844 : Cond.code yX12_quarrel cX12_quarrel 2 (some .int) ∈ cx_big := cx_tb 1844 (by decide +kernel) (by decide +kernel)
theorem cw_1845 : Cond.methodLink "TreeMergeLaw" 116 yX12_node ∈ cx_big := cx_tb 1845 (by decide +kernel) (by decide +kernel)
theorem cw_1846 : Cond.instanceMethod yX12_node ∈ cx_big := cx_tb 1846 (by decide +kernel) (by decide +kernel)
theorem cw_1847 : Cond.selects "TreeMergeModel" yX12_node yX12_node ∈ cx_big := cx_tb 1847 (by decide +kernel) (by decide +kernel)
theorem cw_1848 : Cond.code yX12_node cX12_node 6 (some .int) ∈ cx_big := cx_tb 1848 (by decide +kernel) (by decide +kernel)
theorem cw_1849 : Cond.methodLink "TreeMergeLaw" 121 yX12_of ∈ cx_big := cx_tb 1849 (by decide +kernel) (by decide +kernel)
theorem cw_1850 : Cond.instanceMethod yX12_of ∈ cx_big := cx_tb 1850 (by decide +kernel) (by decide +kernel)
theorem cw_1851 : Cond.selects "TreeMergeModel" yX12_of yX12_of ∈ cx_big := cx_tb 1851 (by decide +kernel) (by decide +kernel)
theorem cw_1852 : Cond.code yX12_of cX12_of 4 (some .int) ∈ cx_big := cx_tb 1852 (by decide +kernel) (by decide +kernel)
theorem cw_1853 : Cond.methodLink "TreeMergeModel" 548 yX12_isNode ∈ cx_big := cx_tb 1853 (by decide +kernel) (by decide +kernel)
theorem cw_1855 : Cond.instanceMethod yX12_isNode ∈ cx_big := cx_tb 1855 (by decide +kernel) (by decide +kernel)
theorem cw_1856 : Cond.code yX12_isNode cX12_isNode 3 (some .boolean) ∈ cx_big := cx_tb 1856 (by decide +kernel) (by decide +kernel)
theorem cw_1857 : Cond.methodLink "TreeMergeModel" 545 yX12_isRow ∈ cx_big := cx_tb 1857 (by decide +kernel) (by decide +kernel)
theorem cw_1859 : Cond.instanceMethod yX12_isRow ∈ cx_big := cx_tb 1859 (by decide +kernel) (by decide +kernel)
theorem cw_1860 : Cond.code yX12_isRow cX12_isRow 2 (some .boolean) ∈ cx_big := cx_tb 1860 (by decide +kernel) (by decide +kernel)
theorem cw_1861 : Cond.methodLink "TreeMergeModel" 551 yX12_placeOf ∈ cx_big := cx_tb 1861 (by decide +kernel) (by decide +kernel)
theorem cw_1863 : Cond.instanceMethod yX12_placeOf ∈ cx_big := cx_tb 1863 (by decide +kernel) (by decide +kernel)
theorem cw_1864 : Cond.code yX12_placeOf cX12_placeOf 5 (some .int) ∈ cx_big := cx_tb 1864 (by decide +kernel) (by decide +kernel)
theorem cw_1865 : Cond.methodLink "TreeMergeModel" 539 yX12_nameOf ∈ cx_big := cx_tb 1865 (by decide +kernel) (by decide +kernel)
theorem cw_1867 : Cond.instanceMethod yX12_nameOf ∈ cx_big := cx_tb 1867 (by decide +kernel) (by decide +kernel)
theorem cw_1868 : Cond.code yX12_nameOf cX12_nameOf 8 (some .int) ∈ cx_big := cx_tb 1868 (by decide +kernel) (by decide +kernel)
theorem cw_1869 : Cond.constantLong "TreeMergeModel" 533 31 ∈ cx_big := cx_tb 1869 (by decide +kernel) (by decide +kernel)
theorem cw_1870 : Cond.constantLong "TreeMergeModel" 535 1000003 ∈ cx_big := cx_tb 1870 (by decide +kernel) (by decide +kernel)
theorem cw_1871 : Cond.constantLong "TreeMergeModel" 537 37 ∈ cx_big := cx_tb 1871 (by decide +kernel) (by decide +kernel)
theorem cw_1872 : Cond.methodLink "TreeMergeModel" 542 yX12_wordWriter ∈ cx_big := cx_tb 1872 (by decide +kernel) (by decide +kernel)
theorem cw_1874 : Cond.instanceMethod yX12_wordWriter ∈ cx_big := cx_tb 1874 (by decide +kernel) (by decide +kernel)
theorem cw_1875 : Cond.code yX12_wordWriter cX12_wordWriter 5 (some .int) ∈ cx_big := cx_tb 1875 (by decide +kernel) (by decide +kernel)
theorem cw_1876 : Cond.methodLink "TreeMergeModel" 554 yX12_deepOf ∈ cx_big := cx_tb 1876 (by decide +kernel) (by decide +kernel)
theorem cw_1878 : Cond.instanceMethod yX12_deepOf ∈ cx_big := cx_tb 1878 (by decide +kernel) (by decide +kernel)
theorem cw_1879 : Cond.code yX12_deepOf cX12_deepOf 5 (some .int) ∈ cx_big := cx_tb 1879 (by decide +kernel) (by decide +kernel)
theorem cw_1880 : Cond.methodLink "TreeMergeLaw" 126 yX12_word ∈ cx_big := cx_tb 1880 (by decide +kernel) (by decide +kernel)
theorem cw_1881 : Cond.instanceMethod yX12_word ∈ cx_big := cx_tb 1881 (by decide +kernel) (by decide +kernel)
theorem cw_1882 : Cond.selects "TreeMergeModel" yX12_word yX12_word ∈ cx_big := cx_tb 1882 (by decide +kernel) (by decide +kernel)
theorem cw_1883 : Cond.code yX12_word cX12_word 3 (some .long) ∈ cx_big := cx_tb 1883 (by decide +kernel) (by decide +kernel)
theorem cw_1884 : Cond.methodLink "TreeMergeLaw" 130 yX12_writer ∈ cx_big := cx_tb 1884 (by decide +kernel) (by decide +kernel)
theorem cw_1885 : Cond.instanceMethod yX12_writer ∈ cx_big := cx_tb 1885 (by decide +kernel) (by decide +kernel)
theorem cw_1886 : Cond.selects "TreeMergeModel" yX12_writer yX12_writer ∈ cx_big := cx_tb 1886 (by decide +kernel) (by decide +kernel)
theorem cw_1887 : Cond.code yX12_writer cX12_writer 2 (some .int) ∈ cx_big := cx_tb 1887 (by decide +kernel) (by decide +kernel)
theorem cw_1888 : Cond.methodLink "TreeMergeLaw" 134 yX12_name ∈ cx_big := cx_tb 1888 (by decide +kernel) (by decide +kernel)
theorem cw_1889 : Cond.instanceMethod yX12_name ∈ cx_big := cx_tb 1889 (by decide +kernel) (by decide +kernel)
theorem cw_1890 : Cond.selects "TreeMergeModel" yX12_name yX12_name ∈ cx_big := cx_tb 1890 (by decide +kernel) (by decide +kernel)
theorem cw_1891 : Cond.code yX12_name cX12_name 2 (some .int) ∈ cx_big := cx_tb 1891 (by decide +kernel) (by decide +kernel)
theorem cw_1892 : Cond.methodLink "TreeMergeLaw" 139 yX12_same ∈ cx_big := cx_tb 1892 (by decide +kernel) (by decide +kernel)
theorem cw_1893 : Cond.instanceMethod yX12_same ∈ cx_big := cx_tb 1893 (by decide +kernel) (by decide +kernel)
theorem cw_1894 : Cond.selects "TreeMergeModel" yX12_same yX12_same ∈ cx_big := cx_tb 1894 (by decide +kernel) (by decide +kernel)
theorem cw_1895 : Cond.code yX12_same cX12_same 3 (some .boolean) ∈ cx_big := cx_tb 1895 (by decide +kernel) (by decide +kernel)
theorem cw_1896 : Cond.methodLink "TreeMergeModel" 557 yX12_isSame ∈ cx_big := cx_tb 1896 (by decide +kernel) (by decide +kernel)
theorem cw_1898 : Cond.instanceMethod yX12_isSame ∈ cx_big := cx_tb 1898 (by decide +kernel) (by decide +kernel)
theorem cw_1899 : Cond.code yX12_isSame cX12_isSame 7 (some .boolean) ∈ cx_big := cx_tb 1899 (by decide +kernel) (by decide +kernel)
theorem cw_1900 : Cond.methodLink "TreeMergeLaw" 143 yX12_print ∈ cx_big := cx_tb 1900 (by decide +kernel) (by decide +kernel)
theorem cw_1901 : Cond.instanceMethod yX12_print ∈ cx_big := cx_tb 1901 (by decide +kernel) (by decide +kernel)
theorem cw_1902 : Cond.selects "TreeMergeModel" yX12_print yX12_print ∈ cx_big := cx_tb 1902 (by decide +kernel) (by decide +kernel)
theorem cw_1903 : Cond.code yX12_print cX12_print 3 (some .int) ∈ cx_big := cx_tb 1903 (by decide +kernel) (by decide +kernel)
theorem cw_1904 : Cond.methodLink "TreeMergeModel" 566 yX12_prints_ ∈ cx_big := cx_tb 1904 (by decide +kernel) (by decide +kernel)
theorem cw_1906 : Cond.instanceMethod yX12_prints_ ∈ cx_big := cx_tb 1906 (by decide +kernel) (by decide +kernel)
theorem cw_1907 : Cond.code yX12_prints_ cX12_prints_ 7 none ∈ cx_big := cx_tb 1907 (by decide +kernel) (by decide +kernel)
theorem cw_1908 : Cond.methodLink "TreeMergeModel" 563 yX12_prints ∈ cx_big := cx_tb 1908 (by decide +kernel) (by decide +kernel)
theorem cw_1910 : Cond.instanceMethod yX12_prints ∈ cx_big := cx_tb 1910 (by decide +kernel) (by decide +kernel)
theorem cw_1911 : Cond.code yX12_prints cX12_prints 2 none ∈ cx_big := cx_tb 1911 (by decide +kernel) (by decide +kernel)
theorem cw_1912 : Cond.methodLink "TreeMergeLaw" 147 yX12_parent ∈ cx_big := cx_tb 1912 (by decide +kernel) (by decide +kernel)
theorem cw_1913 : Cond.instanceMethod yX12_parent ∈ cx_big := cx_tb 1913 (by decide +kernel) (by decide +kernel)
theorem cw_1914 : Cond.selects "TreeMergeModel" yX12_parent yX12_parent ∈ cx_big := cx_tb 1914 (by decide +kernel) (by decide +kernel)
theorem cw_1915 : Cond.code yX12_parent cX12_parent 3 (some .int) ∈ cx_big := cx_tb 1915 (by decide +kernel) (by decide +kernel)
theorem cw_1916 : Cond.methodLink "TreeMergeLaw" 155 yX12_count ∈ cx_big := cx_tb 1916 (by decide +kernel) (by decide +kernel)
theorem cw_1917 : Cond.instanceMethod yX12_count ∈ cx_big := cx_tb 1917 (by decide +kernel) (by decide +kernel)
theorem cw_1918 : Cond.selects "TreeMergeModel" yX12_count yX12_count ∈ cx_big := cx_tb 1918 (by decide +kernel) (by decide +kernel)
theorem cw_1919 : Cond.code yX12_count cX12_count 2 (some .int) ∈ cx_big := cx_tb 1919 (by decide +kernel) (by decide +kernel)
theorem cw_1920 : Cond.constantLong "TreeMergeLaw" 60 4294967295 ∈ cx_big := cx_tb 1920 (by decide +kernel) (by decide +kernel)
theorem cw_1921 : Cond.fieldLink "java/lang/String" 9 "java/lang/String" "value" "[B" ∈ cx_big := cx_tb 1921 (by decide +kernel) (by decide +kernel)
theorem cw_1922 : Cond.fieldLink "java/lang/String" 15 "java/lang/String" "coder" "B" ∈ cx_big := cx_tb 1922 (by decide +kernel) (by decide +kernel)
theorem cp_0 : Cond.selects "TreeMerge" yX11_readTree yX11_readTree ∈ cx_big := cx_tp 0 (by decide +kernel) (by decide +kernel)
theorem cp_1 : Cond.selects "TreeMerge$Text" yX9_cutName yX9_cutName ∈ cx_big := cx_tp 1 (by decide +kernel) (by decide +kernel)
theorem cp_2 : Cond.selects "TreeMerge$Text" yX9_spells yX9_spells ∈ cx_big := cx_tp 2 (by decide +kernel) (by decide +kernel)
theorem cp_3 : Cond.selects "TreeMerge$Text" yX9_cutWord yX9_cutWord ∈ cx_big := cx_tp 3 (by decide +kernel) (by decide +kernel)
theorem cp_4 : Cond.selects "TreeMerge$Grammar" yX2_kindOf yX2_kindOf ∈ cx_big := cx_tp 4 (by decide +kernel) (by decide +kernel)
theorem cp_5 : Cond.selects "TreeMerge$Grammar" yX2_isNamed yX2_isNamed ∈ cx_big := cx_tp 5 (by decide +kernel) (by decide +kernel)
theorem cp_6 : Cond.selects "TreeMerge$Tree" yX10_takeFrom yX10_takeFrom ∈ cx_big := cx_tp 6 (by decide +kernel) (by decide +kernel)
theorem cp_7 : Cond.selects "TreeMerge$Tree" yX10_nextWaiting yX10_nextWaiting ∈ cx_big := cx_tp 7 (by decide +kernel) (by decide +kernel)
theorem cp_8 : Cond.selects "TreeMerge$Grammar" yX2_readRule yX2_readRule ∈ cx_big := cx_tp 8 (by decide +kernel) (by decide +kernel)
theorem cp_9 : Cond.selects "TreeMerge$Grammar" yX2_readItems yX2_readItems ∈ cx_big := cx_tp 9 (by decide +kernel) (by decide +kernel)
theorem cp_10 : Cond.selects "TreeMerge$Grammar" yX2_resolveItems yX2_resolveItems ∈ cx_big := cx_tp 10 (by decide +kernel) (by decide +kernel)
theorem cp_11 : Cond.selects "TreeMerge$Grammar" yX2_namesAll yX2_namesAll ∈ cx_big := cx_tp 11 (by decide +kernel) (by decide +kernel)
theorem cp_12 : Cond.selects "TreeMerge$Grammar" yX2_saysItems yX2_saysItems ∈ cx_big := cx_tp 12 (by decide +kernel) (by decide +kernel)
theorem cp_13 : Cond.selects "TreeMerge$Grammar" yX2_passOver yX2_passOver ∈ cx_big := cx_tp 13 (by decide +kernel) (by decide +kernel)
theorem cp_14 : Cond.selects "TreeMerge$Grammar" yX2_step yX2_step ∈ cx_big := cx_tp 14 (by decide +kernel) (by decide +kernel)
theorem cp_15 : Cond.selects "TreeMerge" yX11_readsAndFits yX11_readsAndFits ∈ cx_big := cx_tp 15 (by decide +kernel) (by decide +kernel)
theorem cp_16 : Cond.selects "TreeMerge" yX11_comeOfText yX11_comeOfText ∈ cx_big := cx_tp 16 (by decide +kernel) (by decide +kernel)
theorem cp_17 : Cond.selects "TreeMerge" yX11_newNumber yX11_newNumber ∈ cx_big := cx_tp 17 (by decide +kernel) (by decide +kernel)
theorem cp_18 : Cond.selects "TreeMerge$Editions" yX1_writerIn yX1_writerIn ∈ cx_big := cx_tp 18 (by decide +kernel) (by decide +kernel)
theorem cp_19 : Cond.selects "TreeMerge$Editions" yX1_fromsOf yX1_fromsOf ∈ cx_big := cx_tp 19 (by decide +kernel) (by decide +kernel)
theorem cp_20 : Cond.selects "TreeMerge" yX11_matchText yX11_matchText ∈ cx_big := cx_tp 20 (by decide +kernel) (by decide +kernel)
theorem cp_21 : Cond.selects "TreeMerge$Matcher" yX4_link yX4_link ∈ cx_big := cx_tp 21 (by decide +kernel) (by decide +kernel)
theorem cp_22 : Cond.selects "TreeMerge$Matcher" yX4_pairCost yX4_pairCost ∈ cx_big := cx_tp 22 (by decide +kernel) (by decide +kernel)
theorem cp_23 : Cond.selects "TreeMerge$Matcher" yX4_haveParentsPaired yX4_haveParentsPaired ∈ cx_big := cx_tp 23 (by decide +kernel) (by decide +kernel)
theorem cp_24 : Cond.selects "TreeMerge$Matcher" yX4_search yX4_search ∈ cx_big := cx_tp 24 (by decide +kernel) (by decide +kernel)
theorem cp_25 : Cond.selects "TreeMerge$Matcher" yX4_takeBest yX4_takeBest ∈ cx_big := cx_tp 25 (by decide +kernel) (by decide +kernel)
theorem cp_26 : Cond.selects "TreeMerge$Matcher" yX4_goRound yX4_goRound ∈ cx_big := cx_tp 26 (by decide +kernel) (by decide +kernel)
theorem cp_27 : Cond.selects "TreeMerge$Matcher" yX4_agree yX4_agree ∈ cx_big := cx_tp 27 (by decide +kernel) (by decide +kernel)
theorem cp_28 : Cond.selects "TreeMerge$Matcher" yX4_areAllFree yX4_areAllFree ∈ cx_big := cx_tp 28 (by decide +kernel) (by decide +kernel)
theorem cp_29 : Cond.selects "TreeMerge$Matcher" yX4_linkAll yX4_linkAll ∈ cx_big := cx_tp 29 (by decide +kernel) (by decide +kernel)
theorem cp_30 : Cond.selects "TreeMerge$Matcher" yX4_wholeCost yX4_wholeCost ∈ cx_big := cx_tp 30 (by decide +kernel) (by decide +kernel)
theorem cp_31 : Cond.selects "TreeMerge" yX11_endDraft yX11_endDraft ∈ cx_big := cx_tp 31 (by decide +kernel) (by decide +kernel)
theorem cp_32 : Cond.selects "TreeMerge$Tree" yX10_moveEntry yX10_moveEntry ∈ cx_big := cx_tp 32 (by decide +kernel) (by decide +kernel)
theorem cp_33 : Cond.selects "TreeMerge" yX11_findBase yX11_findBase ∈ cx_big := cx_tp 33 (by decide +kernel) (by decide +kernel)
theorem cp_34 : Cond.selects "TreeMerge" yX11_runMerging yX11_runMerging ∈ cx_big := cx_tp 34 (by decide +kernel) (by decide +kernel)
theorem cp_35 : Cond.selects "TreeMerge$Side" yX8_placeOf yX8_placeOf ∈ cx_big := cx_tp 35 (by decide +kernel) (by decide +kernel)
theorem cp_36 : Cond.selects "TreeMerge$Merging" yX5_decide yX5_decide ∈ cx_big := cx_tp 36 (by decide +kernel) (by decide +kernel)
theorem cp_37 : Cond.selects "TreeMerge$Merging" yX5_decideShared yX5_decideShared ∈ cx_big := cx_tp 37 (by decide +kernel) (by decide +kernel)
theorem cp_38 : Cond.selects "TreeMerge$Merging" yX5_choose yX5_choose ∈ cx_big := cx_tp 38 (by decide +kernel) (by decide +kernel)
theorem cp_39 : Cond.selects "TreeMerge$Merging" yX5_mark yX5_mark ∈ cx_big := cx_tp 39 (by decide +kernel) (by decide +kernel)
theorem cp_40 : Cond.selects "TreeMerge$Merging" yX5_stand yX5_stand ∈ cx_big := cx_tp 40 (by decide +kernel) (by decide +kernel)
theorem cp_41 : Cond.selects "TreeMerge$Merging" yX5_decideLone yX5_decideLone ∈ cx_big := cx_tp 41 (by decide +kernel) (by decide +kernel)
theorem cp_42 : Cond.selects "TreeMerge$Merging" yX5_dropTheLed yX5_dropTheLed ∈ cx_big := cx_tp 42 (by decide +kernel) (by decide +kernel)
theorem cp_43 : Cond.selects "TreeMerge$Merging" yX5_isStanding yX5_isStanding ∈ cx_big := cx_tp 43 (by decide +kernel) (by decide +kernel)
theorem cp_44 : Cond.selects "TreeMerge$Merging" yX5_findRings yX5_findRings ∈ cx_big := cx_tp 44 (by decide +kernel) (by decide +kernel)
theorem cp_45 : Cond.selects "TreeMerge$Merging" yX5_isLeastOfRing yX5_isLeastOfRing ∈ cx_big := cx_tp 45 (by decide +kernel) (by decide +kernel)
theorem cp_46 : Cond.selects "TreeMerge$Merging" yX5_findCrowd yX5_findCrowd ∈ cx_big := cx_tp 46 (by decide +kernel) (by decide +kernel)
theorem cp_47 : Cond.selects "TreeMerge$Merging" yX5_listOutermost yX5_listOutermost ∈ cx_big := cx_tp 47 (by decide +kernel) (by decide +kernel)
theorem cp_48 : Cond.selects "TreeMerge$Merging" yX5_orderChildren yX5_orderChildren ∈ cx_big := cx_tp 48 (by decide +kernel) (by decide +kernel)
theorem cp_49 : Cond.selects "TreeMerge$Merging" yX5_countWaits yX5_countWaits ∈ cx_big := cx_tp 49 (by decide +kernel) (by decide +kernel)
theorem cp_50 : Cond.selects "TreeMerge$Merging" yX5_ordering yX5_ordering ∈ cx_big := cx_tp 50 (by decide +kernel) (by decide +kernel)
theorem cp_51 : Cond.selects "TreeMerge$Merging" yX5_listInOrder yX5_listInOrder ∈ cx_big := cx_tp 51 (by decide +kernel) (by decide +kernel)
theorem cp_52 : Cond.selects "TreeMerge$Merging" yX5_nextFree yX5_nextFree ∈ cx_big := cx_tp 52 (by decide +kernel) (by decide +kernel)
theorem cp_53 : Cond.selects "TreeMerge" yX11_mergeOn yX11_mergeOn ∈ cx_big := cx_tp 53 (by decide +kernel) (by decide +kernel)
theorem cp_54 : Cond.selects "TreeMerge" yX11_editionOrDraft yX11_editionOrDraft ∈ cx_big := cx_tp 54 (by decide +kernel) (by decide +kernel)
theorem cp_55 : Cond.selects "TreeMerge$Printer" yX6_addSigns yX6_addSigns ∈ cx_big := cx_tp 55 (by decide +kernel) (by decide +kernel)
theorem cp_56 : Cond.selects "TreeMerge$Printer" yX6_addSign yX6_addSign ∈ cx_big := cx_tp 56 (by decide +kernel) (by decide +kernel)
theorem cp_57 : Cond.selects "TreeMerge$Printer" yX6_addName yX6_addName ∈ cx_big := cx_tp 57 (by decide +kernel) (by decide +kernel)
theorem cp_58 : Cond.selects "TreeMerge$Printer" yX6_addWord yX6_addWord ∈ cx_big := cx_tp 58 (by decide +kernel) (by decide +kernel)
theorem cp_59 : Cond.selects "TreeMergeModel" yX12_feeds yX12_feeds ∈ cx_big := cx_tp 59 (by decide +kernel) (by decide +kernel)
theorem cp_60 : Cond.selects "TreeMergeModel" yX12_readsTree yX12_readsTree ∈ cx_big := cx_tp 60 (by decide +kernel) (by decide +kernel)
theorem cp_61 : Cond.selects "TreeMergeModel" yX12_skips yX12_skips ∈ cx_big := cx_tp 61 (by decide +kernel) (by decide +kernel)
theorem cp_62 : Cond.selects "TreeMergeModel" yX12_readsNode yX12_readsNode ∈ cx_big := cx_tp 62 (by decide +kernel) (by decide +kernel)
theorem cp_63 : Cond.selects "TreeMergeModel" yX12_kindAt yX12_kindAt ∈ cx_big := cx_tp 63 (by decide +kernel) (by decide +kernel)
theorem cp_64 : Cond.selects "TreeMergeModel" yX12_fails yX12_fails ∈ cx_big := cx_tp 64 (by decide +kernel) (by decide +kernel)
theorem cp_65 : Cond.selects "TreeMergeModel" yX12_goesOn yX12_goesOn ∈ cx_big := cx_tp 65 (by decide +kernel) (by decide +kernel)
theorem cp_66 : Cond.selects "TreeMergeModel" yX12_isCut yX12_isCut ∈ cx_big := cx_tp 66 (by decide +kernel) (by decide +kernel)
theorem cp_67 : Cond.selects "TreeMergeModel" yX12_isSign yX12_isSign ∈ cx_big := cx_tp 67 (by decide +kernel) (by decide +kernel)
theorem cp_68 : Cond.selects "TreeMergeModel" yX12_isWord yX12_isWord ∈ cx_big := cx_tp 68 (by decide +kernel) (by decide +kernel)
theorem cp_69 : Cond.selects "TreeMergeModel" yX12_wordHere yX12_wordHere ∈ cx_big := cx_tp 69 (by decide +kernel) (by decide +kernel)
theorem cp_70 : Cond.selects "TreeMergeModel" yX12_passes yX12_passes ∈ cx_big := cx_tp 70 (by decide +kernel) (by decide +kernel)
theorem cp_71 : Cond.selects "TreeMergeModel" yX12_arranges yX12_arranges ∈ cx_big := cx_tp 71 (by decide +kernel) (by decide +kernel)
theorem cp_72 : Cond.selects "TreeMergeModel" yX12_orders yX12_orders ∈ cx_big := cx_tp 72 (by decide +kernel) (by decide +kernel)
theorem cp_73 : Cond.selects "TreeMergeModel" yX12_kindOf yX12_kindOf ∈ cx_big := cx_tp 73 (by decide +kernel) (by decide +kernel)
theorem cp_74 : Cond.selects "TreeMergeModel" yX12_isAhead yX12_isAhead ∈ cx_big := cx_tp 74 (by decide +kernel) (by decide +kernel)
theorem cp_75 : Cond.selects "TreeMergeModel" yX12_next yX12_next ∈ cx_big := cx_tp 75 (by decide +kernel) (by decide +kernel)
theorem cp_76 : Cond.selects "TreeMergeModel" yX12_firstKid yX12_firstKid ∈ cx_big := cx_tp 76 (by decide +kernel) (by decide +kernel)
theorem cp_77 : Cond.selects "TreeMergeModel" yX12_kidBehind yX12_kidBehind ∈ cx_big := cx_tp 77 (by decide +kernel) (by decide +kernel)
theorem cp_78 : Cond.selects "TreeMergeModel" yX12_nextKid yX12_nextKid ∈ cx_big := cx_tp 78 (by decide +kernel) (by decide +kernel)
theorem cp_79 : Cond.selects "TreeMergeModel" yX12_readsGrammar yX12_readsGrammar ∈ cx_big := cx_tp 79 (by decide +kernel) (by decide +kernel)
theorem cp_80 : Cond.selects "TreeMergeModel" yX12_ruleRead yX12_ruleRead ∈ cx_big := cx_tp 80 (by decide +kernel) (by decide +kernel)
theorem cp_81 : Cond.selects "TreeMergeModel" yX12_isName yX12_isName ∈ cx_big := cx_tp 81 (by decide +kernel) (by decide +kernel)
theorem cp_82 : Cond.selects "TreeMergeModel" yX12_isReserved yX12_isReserved ∈ cx_big := cx_tp 82 (by decide +kernel) (by decide +kernel)
theorem cp_83 : Cond.selects "TreeMergeModel" yX12_kindNamed yX12_kindNamed ∈ cx_big := cx_tp 83 (by decide +kernel) (by decide +kernel)
theorem cp_84 : Cond.selects "TreeMergeModel" yX12_isAlike yX12_isAlike ∈ cx_big := cx_tp 84 (by decide +kernel) (by decide +kernel)
theorem cp_85 : Cond.selects "TreeMergeModel" yX12_items yX12_items ∈ cx_big := cx_tp 85 (by decide +kernel) (by decide +kernel)
theorem cp_86 : Cond.selects "TreeMergeModel" yX12_firstBreak yX12_firstBreak ∈ cx_big := cx_tp 86 (by decide +kernel) (by decide +kernel)
theorem cp_87 : Cond.selects "TreeMergeModel" yX12_root yX12_root ∈ cx_big := cx_tp 87 (by decide +kernel) (by decide +kernel)
theorem cp_88 : Cond.selects "TreeMergeModel" yX12_fitsBut yX12_fitsBut ∈ cx_big := cx_tp 88 (by decide +kernel) (by decide +kernel)
theorem cp_89 : Cond.selects "TreeMergeModel" yX12_kidsOf yX12_kidsOf ∈ cx_big := cx_tp 89 (by decide +kernel) (by decide +kernel)
theorem cp_90 : Cond.selects "TreeMergeModel" yX12_fitsSet yX12_fitsSet ∈ cx_big := cx_tp 90 (by decide +kernel) (by decide +kernel)
theorem cp_91 : Cond.selects "TreeMergeModel" yX12_fitsList yX12_fitsList ∈ cx_big := cx_tp 91 (by decide +kernel) (by decide +kernel)
theorem cp_92 : Cond.selects "TreeMergeModel" yX12_closes yX12_closes ∈ cx_big := cx_tp 92 (by decide +kernel) (by decide +kernel)
theorem cp_93 : Cond.selects "TreeMergeModel" yX12_hasLike yX12_hasLike ∈ cx_big := cx_tp 93 (by decide +kernel) (by decide +kernel)
theorem cp_94 : Cond.selects "TreeMergeModel" yX12_canCome yX12_canCome ∈ cx_big := cx_tp 94 (by decide +kernel) (by decide +kernel)
theorem cp_95 : Cond.selects "TreeMergeModel" yX12_comes yX12_comes ∈ cx_big := cx_tp 95 (by decide +kernel) (by decide +kernel)
theorem cp_96 : Cond.selects "TreeMergeModel" yX12_newNode yX12_newNode ∈ cx_big := cx_tp 96 (by decide +kernel) (by decide +kernel)
theorem cp_97 : Cond.selects "TreeMergeModel" yX12_edition yX12_edition ∈ cx_big := cx_tp 97 (by decide +kernel) (by decide +kernel)
theorem cp_98 : Cond.selects "TreeMergeModel" yX12_isEdition yX12_isEdition ∈ cx_big := cx_tp 98 (by decide +kernel) (by decide +kernel)
theorem cp_99 : Cond.selects "TreeMergeModel" yX12_matches yX12_matches ∈ cx_big := cx_tp 99 (by decide +kernel) (by decide +kernel)
theorem cp_100 : Cond.selects "TreeMergeModel" yX12_lines yX12_lines ∈ cx_big := cx_tp 100 (by decide +kernel) (by decide +kernel)
theorem cp_101 : Cond.selects "TreeMergeModel" yX12_pairs yX12_pairs ∈ cx_big := cx_tp 101 (by decide +kernel) (by decide +kernel)
theorem cp_102 : Cond.selects "TreeMergeModel" yX12_isExact yX12_isExact ∈ cx_big := cx_tp 102 (by decide +kernel) (by decide +kernel)
theorem cp_103 : Cond.selects "TreeMergeModel" yX12_tries yX12_tries ∈ cx_big := cx_tp 103 (by decide +kernel) (by decide +kernel)
theorem cp_104 : Cond.selects "TreeMergeModel" yX12_costNow yX12_costNow ∈ cx_big := cx_tp 104 (by decide +kernel) (by decide +kernel)
theorem cp_105 : Cond.selects "TreeMergeModel" yX12_parentsPair yX12_parentsPair ∈ cx_big := cx_tp 105 (by decide +kernel) (by decide +kernel)
theorem cp_106 : Cond.selects "TreeMergeModel" yX12_arePair yX12_arePair ∈ cx_big := cx_tp 106 (by decide +kernel) (by decide +kernel)
theorem cp_107 : Cond.selects "TreeMergeModel" yX12_rounds yX12_rounds ∈ cx_big := cx_tp 107 (by decide +kernel) (by decide +kernel)
theorem cp_108 : Cond.selects "TreeMergeModel" yX12_suits yX12_suits ∈ cx_big := cx_tp 108 (by decide +kernel) (by decide +kernel)
theorem cp_109 : Cond.selects "TreeMergeModel" yX12_isSameFree yX12_isSameFree ∈ cx_big := cx_tp 109 (by decide +kernel) (by decide +kernel)
theorem cp_110 : Cond.selects "TreeMergeModel" yX12_pairsAll yX12_pairsAll ∈ cx_big := cx_tp 110 (by decide +kernel) (by decide +kernel)
theorem cp_111 : Cond.selects "TreeMergeModel" yX12_bound yX12_bound ∈ cx_big := cx_tp 111 (by decide +kernel) (by decide +kernel)
theorem cp_112 : Cond.selects "TreeMergeModel" yX12_copies yX12_copies ∈ cx_big := cx_tp 112 (by decide +kernel) (by decide +kernel)
theorem cp_113 : Cond.selects "TreeMergeModel" yX12_noPending yX12_noPending ∈ cx_big := cx_tp 113 (by decide +kernel) (by decide +kernel)
theorem cp_114 : Cond.selects "TreeMergeModel" yX12_inDraft yX12_inDraft ∈ cx_big := cx_tp 114 (by decide +kernel) (by decide +kernel)
theorem cp_115 : Cond.selects "TreeMergeModel" yX12_size yX12_size ∈ cx_big := cx_tp 115 (by decide +kernel) (by decide +kernel)
theorem cp_116 : Cond.selects "TreeMergeModel" yX12_lays yX12_lays ∈ cx_big := cx_tp 116 (by decide +kernel) (by decide +kernel)
theorem cp_117 : Cond.selects "TreeMergeModel" yX12_shrinks yX12_shrinks ∈ cx_big := cx_tp 117 (by decide +kernel) (by decide +kernel)
theorem cp_118 : Cond.selects "TreeMergeModel" yX12_isUnder yX12_isUnder ∈ cx_big := cx_tp 118 (by decide +kernel) (by decide +kernel)
theorem cp_119 : Cond.selects "TreeMergeModel" yX12_isFrom yX12_isFrom ∈ cx_big := cx_tp 119 (by decide +kernel) (by decide +kernel)
theorem cp_120 : Cond.selects "TreeMergeModel" yX12_baseRow yX12_baseRow ∈ cx_big := cx_tp 120 (by decide +kernel) (by decide +kernel)
theorem cp_121 : Cond.selects "TreeMergeModel" yX12_nthBase yX12_nthBase ∈ cx_big := cx_tp 121 (by decide +kernel) (by decide +kernel)
theorem cp_122 : Cond.selects "TreeMergeModel" yX12_isBaseOf yX12_isBaseOf ∈ cx_big := cx_tp 122 (by decide +kernel) (by decide +kernel)
theorem cp_123 : Cond.selects "TreeMergeModel" yX12_merges yX12_merges ∈ cx_big := cx_tp 123 (by decide +kernel) (by decide +kernel)
theorem cp_124 : Cond.selects "TreeMergeModel" yX12_firstQuarrels yX12_firstQuarrels ∈ cx_big := cx_tp 124 (by decide +kernel) (by decide +kernel)
theorem cp_125 : Cond.selects "TreeMergeModel" yX12_isTouched yX12_isTouched ∈ cx_big := cx_tp 125 (by decide +kernel) (by decide +kernel)
theorem cp_126 : Cond.selects "TreeMergeModel" yX12_isOther yX12_isOther ∈ cx_big := cx_tp 126 (by decide +kernel) (by decide +kernel)
theorem cp_127 : Cond.selects "TreeMergeModel" yX12_settledFor yX12_settledFor ∈ cx_big := cx_tp 127 (by decide +kernel) (by decide +kernel)
theorem cp_128 : Cond.selects "TreeMergeModel" yX12_quarrels yX12_quarrels ∈ cx_big := cx_tp 128 (by decide +kernel) (by decide +kernel)
theorem cp_129 : Cond.selects "TreeMergeModel" yX12_sideOf yX12_sideOf ∈ cx_big := cx_tp 129 (by decide +kernel) (by decide +kernel)
theorem cp_130 : Cond.selects "TreeMergeModel" yX12_stacks yX12_stacks ∈ cx_big := cx_tp 130 (by decide +kernel) (by decide +kernel)
theorem cp_131 : Cond.selects "TreeMergeModel" yX12_stands yX12_stands ∈ cx_big := cx_tp 131 (by decide +kernel) (by decide +kernel)
theorem cp_132 : Cond.selects "TreeMergeModel" yX12_secondQuarrels yX12_secondQuarrels ∈ cx_big := cx_tp 132 (by decide +kernel) (by decide +kernel)
theorem cp_133 : Cond.selects "TreeMergeModel" yX12_isLeastOfRing yX12_isLeastOfRing ∈ cx_big := cx_tp 133 (by decide +kernel) (by decide +kernel)
theorem cp_134 : Cond.selects "TreeMergeModel" yX12_leadsBack yX12_leadsBack ∈ cx_big := cx_tp 134 (by decide +kernel) (by decide +kernel)
theorem cp_135 : Cond.selects "TreeMergeModel" yX12_outermost yX12_outermost ∈ cx_big := cx_tp 135 (by decide +kernel) (by decide +kernel)
theorem cp_136 : Cond.selects "TreeMergeModel" yX12_thirdQuarrels yX12_thirdQuarrels ∈ cx_big := cx_tp 136 (by decide +kernel) (by decide +kernel)
theorem cp_137 : Cond.selects "TreeMergeModel" yX12_ordersKids yX12_ordersKids ∈ cx_big := cx_tp 137 (by decide +kernel) (by decide +kernel)
theorem cp_138 : Cond.selects "TreeMergeModel" yX12_ahead yX12_ahead ∈ cx_big := cx_tp 138 (by decide +kernel) (by decide +kernel)
theorem cp_139 : Cond.selects "TreeMergeModel" yX12_says yX12_says ∈ cx_big := cx_tp 139 (by decide +kernel) (by decide +kernel)
theorem cp_140 : Cond.selects "TreeMergeModel" yX12_isFree yX12_isFree ∈ cx_big := cx_tp 140 (by decide +kernel) (by decide +kernel)
theorem cp_141 : Cond.selects "TreeMergeModel" yX12_made yX12_made ∈ cx_big := cx_tp 141 (by decide +kernel) (by decide +kernel)
theorem cp_142 : Cond.selects "TreeMergeModel" yX12_hasOneParent yX12_hasOneParent ∈ cx_big := cx_tp 142 (by decide +kernel) (by decide +kernel)
theorem cp_143 : Cond.selects "TreeMergeModel" yX12_isNode yX12_isNode ∈ cx_big := cx_tp 143 (by decide +kernel) (by decide +kernel)
theorem cp_144 : Cond.selects "TreeMergeModel" yX12_isRow yX12_isRow ∈ cx_big := cx_tp 144 (by decide +kernel) (by decide +kernel)
theorem cp_145 : Cond.selects "TreeMergeModel" yX12_placeOf yX12_placeOf ∈ cx_big := cx_tp 145 (by decide +kernel) (by decide +kernel)
theorem cp_146 : Cond.selects "TreeMergeModel" yX12_nameOf yX12_nameOf ∈ cx_big := cx_tp 146 (by decide +kernel) (by decide +kernel)
theorem cp_147 : Cond.selects "TreeMergeModel" yX12_wordWriter yX12_wordWriter ∈ cx_big := cx_tp 147 (by decide +kernel) (by decide +kernel)
theorem cp_148 : Cond.selects "TreeMergeModel" yX12_deepOf yX12_deepOf ∈ cx_big := cx_tp 148 (by decide +kernel) (by decide +kernel)
theorem cp_149 : Cond.selects "TreeMergeModel" yX12_isSame yX12_isSame ∈ cx_big := cx_tp 149 (by decide +kernel) (by decide +kernel)
theorem cp_150 : Cond.selects "TreeMergeModel" yX12_prints_ yX12_prints_ ∈ cx_big := cx_tp 150 (by decide +kernel) (by decide +kernel)
theorem cp_151 : Cond.selects "TreeMergeModel" yX12_prints yX12_prints ∈ cx_big := cx_tp 151 (by decide +kernel) (by decide +kernel)

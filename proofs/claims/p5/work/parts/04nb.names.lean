theorem dX11_writer_12 : decode cX11_writer 12 = .ok (.aload_n 0, 1) := by decide +kernel
theorem dX11_writer_13 : decode cX11_writer 13 = .ok (.getfield 91, 3) := by decide +kernel
theorem dX11_writer_16 : decode cX11_writer 16 = .ok (.iload_n 1, 1) := by decide +kernel
theorem dX11_writer_17 : decode cX11_writer 17 = .ok (.iaload, 1) := by decide +kernel
theorem dX11_writer_18 : decode cX11_writer 18 = .ok (.iconst (-1), 1) := by decide +kernel
theorem dX11_writer_19 : decode cX11_writer 19 = .ok (.invokestatic 340, 3) := by decide +kernel
theorem dX11_writer_22 : decode cX11_writer 22 = .ok (.goto 4, 3) := by decide +kernel
theorem dX11_writer_25 : decode cX11_writer 25 = .ok (.iconst (-1), 1) := by decide +kernel
theorem dX11_writer_26 : decode cX11_writer 26 = .ok (.ireturn, 1) := by decide +kernel
theorem dX12_ahead_0 : decode cX12_ahead 0 = .ok (.aload_n 0, 1) := by decide +kernel
theorem dX12_ahead_1 : decode cX12_ahead 1 = .ok (.iload_n 1, 1) := by decide +kernel
theorem dX12_ahead_2 : decode cX12_ahead 2 = .ok (.iload 4, 2) := by decide +kernel
theorem dX12_ahead_4 : decode cX12_ahead 4 = .ok (.iload 5, 2) := by decide +kernel
theorem dX12_ahead_6 : decode cX12_ahead 6 = .ok (.iload 6, 2) := by decide +kernel
theorem dX12_ahead_8 : decode cX12_ahead 8 = .ok (.invokevirtual 486, 3) := by decide +kernel
theorem dX12_ahead_11 : decode cX12_ahead 11 = .ok (.istore 7, 2) := by decide +kernel
theorem dX12_ahead_13 : decode cX12_ahead 13 = .ok (.aload_n 0, 1) := by decide +kernel
theorem dX12_ahead_14 : decode cX12_ahead 14 = .ok (.iload_n 2, 1) := by decide +kernel
theorem dX12_ahead_15 : decode cX12_ahead 15 = .ok (.iload 4, 2) := by decide +kernel
theorem dX12_ahead_17 : decode cX12_ahead 17 = .ok (.iload 5, 2) := by decide +kernel
theorem dX12_ahead_19 : decode cX12_ahead 19 = .ok (.iload 6, 2) := by decide +kernel
theorem dX12_ahead_21 : decode cX12_ahead 21 = .ok (.invokevirtual 486, 3) := by decide +kernel
theorem dX12_ahead_24 : decode cX12_ahead 24 = .ok (.istore 8, 2) := by decide +kernel
theorem dX12_ahead_26 : decode cX12_ahead 26 = .ok (.iload 7, 2) := by decide +kernel
theorem dX12_ahead_28 : decode cX12_ahead 28 = .ok (.ifCond .eq 8, 3) := by decide +kernel
theorem dX12_ahead_31 : decode cX12_ahead 31 = .ok (.iload 8, 2) := by decide +kernel
theorem dX12_ahead_33 : decode cX12_ahead 33 = .ok (.ifCond .ne 9, 3) := by decide +kernel
theorem dX12_ahead_36 : decode cX12_ahead 36 = .ok (.iload 7, 2) := by decide +kernel
theorem dX12_ahead_38 : decode cX12_ahead 38 = .ok (.iload 8, 2) := by decide +kernel
theorem dX12_ahead_40 : decode cX12_ahead 40 = .ok (.iadd, 1) := by decide +kernel
theorem dX12_ahead_41 : decode cX12_ahead 41 = .ok (.ireturn, 1) := by decide +kernel
theorem dX12_ahead_42 : decode cX12_ahead 42 = .ok (.iload 7, 2) := by decide +kernel
theorem dX12_ahead_44 : decode cX12_ahead 44 = .ok (.iload 8, 2) := by decide +kernel
theorem dX12_ahead_46 : decode cX12_ahead 46 = .ok (.if_icmp .ne 6, 3) := by decide +kernel
theorem dX12_ahead_49 : decode cX12_ahead 49 = .ok (.iload 7, 2) := by decide +kernel
theorem dX12_ahead_51 : decode cX12_ahead 51 = .ok (.ireturn, 1) := by decide +kernel
theorem dX12_ahead_52 : decode cX12_ahead 52 = .ok (.aload_n 0, 1) := by decide +kernel
theorem dX12_ahead_53 : decode cX12_ahead 53 = .ok (.iload_n 3, 1) := by decide +kernel
theorem dX12_ahead_54 : decode cX12_ahead 54 = .ok (.iload 4, 2) := by decide +kernel
theorem dX12_ahead_56 : decode cX12_ahead 56 = .ok (.iload 5, 2) := by decide +kernel
theorem dX12_ahead_58 : decode cX12_ahead 58 = .ok (.iload 6, 2) := by decide +kernel
theorem dX12_ahead_60 : decode cX12_ahead 60 = .ok (.invokevirtual 486, 3) := by decide +kernel
theorem dX12_ahead_63 : decode cX12_ahead 63 = .ok (.istore 9, 2) := by decide +kernel
theorem dX12_ahead_65 : decode cX12_ahead 65 = .ok (.iload 9, 2) := by decide +kernel
theorem dX12_ahead_67 : decode cX12_ahead 67 = .ok (.ifCond .ne 7, 3) := by decide +kernel
theorem dX12_ahead_70 : decode cX12_ahead 70 = .ok (.iconst 2, 1) := by decide +kernel
theorem dX12_ahead_71 : decode cX12_ahead 71 = .ok (.goto 17, 3) := by decide +kernel
theorem dX12_ahead_74 : decode cX12_ahead 74 = .ok (.iload 9, 2) := by decide +kernel
theorem dX12_ahead_76 : decode cX12_ahead 76 = .ok (.iload 7, 2) := by decide +kernel
theorem dX12_ahead_78 : decode cX12_ahead 78 = .ok (.if_icmp .ne 8, 3) := by decide +kernel
theorem dX12_ahead_81 : decode cX12_ahead 81 = .ok (.iload 8, 2) := by decide +kernel
theorem dX12_ahead_83 : decode cX12_ahead 83 = .ok (.goto 5, 3) := by decide +kernel
theorem dX12_ahead_86 : decode cX12_ahead 86 = .ok (.iload 7, 2) := by decide +kernel
theorem dX12_ahead_88 : decode cX12_ahead 88 = .ok (.ireturn, 1) := by decide +kernel
theorem dX12_arePair_0 : decode cX12_arePair 0 = .ok (.aload_n 0, 1) := by decide +kernel
theorem dX12_arePair_1 : decode cX12_arePair 1 = .ok (.getfield 127, 3) := by decide +kernel
theorem dX12_arePair_4 : decode cX12_arePair 4 = .ok (.iload_n 1, 1) := by decide +kernel
theorem dX12_arePair_5 : decode cX12_arePair 5 = .ok (.iaload, 1) := by decide +kernel
theorem dX12_arePair_6 : decode cX12_arePair 6 = .ok (.iload_n 2, 1) := by decide +kernel
theorem dX12_arePair_7 : decode cX12_arePair 7 = .ok (.if_icmp .ne 7, 3) := by decide +kernel
theorem dX12_arePair_10 : decode cX12_arePair 10 = .ok (.iconst 1, 1) := by decide +kernel
theorem dX12_arePair_11 : decode cX12_arePair 11 = .ok (.goto 4, 3) := by decide +kernel
theorem dX12_arePair_14 : decode cX12_arePair 14 = .ok (.iconst 0, 1) := by decide +kernel
theorem dX12_arePair_15 : decode cX12_arePair 15 = .ok (.ireturn, 1) := by decide +kernel
theorem dX12_arranges_0 : decode cX12_arranges 0 = .ok (.aload_n 0, 1) := by decide +kernel
theorem dX12_arranges_1 : decode cX12_arranges 1 = .ok (.bipush 15, 2) := by decide +kernel
theorem dX12_arranges_3 : decode cX12_arranges 3 = .ok (.invokevirtual 275, 3) := by decide +kernel
theorem dX12_arranges_6 : decode cX12_arranges 6 = .ok (.iconst 0, 1) := by decide +kernel
theorem dX12_arranges_7 : decode cX12_arranges 7 = .ok (.istore_n 1, 1) := by decide +kernel
theorem dX12_arranges_8 : decode cX12_arranges 8 = .ok (.iconst 0, 1) := by decide +kernel
theorem dX12_arranges_9 : decode cX12_arranges 9 = .ok (.istore_n 2, 1) := by decide +kernel
theorem dX12_arranges_10 : decode cX12_arranges 10 = .ok (.iload_n 2, 1) := by decide +kernel
theorem dX12_arranges_11 : decode cX12_arranges 11 = .ok (.iconst (-1), 1) := by decide +kernel
theorem dX12_arranges_12 : decode cX12_arranges 12 = .ok (.if_icmp .eq 32, 3) := by decide +kernel
theorem dX12_arranges_15 : decode cX12_arranges 15 = .ok (.aload_n 0, 1) := by decide +kernel
theorem dX12_arranges_16 : decode cX12_arranges 16 = .ok (.getfield 99, 3) := by decide +kernel
theorem dX12_arranges_19 : decode cX12_arranges 19 = .ok (.iload_n 1, 1) := by decide +kernel
theorem dX12_arranges_20 : decode cX12_arranges 20 = .ok (.iload_n 2, 1) := by decide +kernel
theorem dX12_arranges_21 : decode cX12_arranges 21 = .ok (.iastore, 1) := by decide +kernel
theorem dX12_arranges_22 : decode cX12_arranges 22 = .ok (.aload_n 0, 1) := by decide +kernel
theorem dX12_arranges_23 : decode cX12_arranges 23 = .ok (.getfield 108, 3) := by decide +kernel
theorem dX12_arranges_26 : decode cX12_arranges 26 = .ok (.iload_n 2, 1) := by decide +kernel
theorem dX12_arranges_27 : decode cX12_arranges 27 = .ok (.iload_n 1, 1) := by decide +kernel
theorem dX12_arranges_28 : decode cX12_arranges 28 = .ok (.iastore, 1) := by decide +kernel
theorem dX12_arranges_29 : decode cX12_arranges 29 = .ok (.iinc 1 1, 3) := by decide +kernel
theorem dX12_arranges_32 : decode cX12_arranges 32 = .ok (.aload_n 0, 1) := by decide +kernel
theorem dX12_arranges_33 : decode cX12_arranges 33 = .ok (.bipush 15, 2) := by decide +kernel
theorem dX12_arranges_35 : decode cX12_arranges 35 = .ok (.iload_n 2, 1) := by decide +kernel
theorem dX12_arranges_36 : decode cX12_arranges 36 = .ok (.iconst 0, 1) := by decide +kernel
theorem dX12_arranges_37 : decode cX12_arranges 37 = .ok (.invokevirtual 278, 3) := by decide +kernel
theorem dX12_arranges_40 : decode cX12_arranges 40 = .ok (.istore_n 2, 1) := by decide +kernel
theorem dX12_arranges_41 : decode cX12_arranges 41 = .ok (.goto (-31), 3) := by decide +kernel
theorem dX12_arranges_44 : decode cX12_arranges 44 = .ok (.iconst 0, 1) := by decide +kernel
theorem dX12_arranges_45 : decode cX12_arranges 45 = .ok (.istore_n 2, 1) := by decide +kernel
theorem dX12_arranges_46 : decode cX12_arranges 46 = .ok (.iload_n 2, 1) := by decide +kernel
theorem dX12_arranges_47 : decode cX12_arranges 47 = .ok (.aload_n 0, 1) := by decide +kernel
theorem dX12_arranges_48 : decode cX12_arranges 48 = .ok (.getfield 258, 3) := by decide +kernel
theorem dX12_arranges_51 : decode cX12_arranges 51 = .ok (.if_icmp .ge 51, 3) := by decide +kernel
theorem dX12_arranges_54 : decode cX12_arranges 54 = .ok (.aload_n 0, 1) := by decide +kernel
theorem dX12_arranges_55 : decode cX12_arranges 55 = .ok (.getfield 102, 3) := by decide +kernel
theorem dX12_arranges_58 : decode cX12_arranges 58 = .ok (.iload_n 2, 1) := by decide +kernel
theorem dX12_arranges_59 : decode cX12_arranges 59 = .ok (.aload_n 0, 1) := by decide +kernel
theorem dX12_arranges_60 : decode cX12_arranges 60 = .ok (.getfield 65, 3) := by decide +kernel
theorem dX12_arranges_63 : decode cX12_arranges 63 = .ok (.iload_n 2, 1) := by decide +kernel
theorem dX12_arranges_64 : decode cX12_arranges 64 = .ok (.iaload, 1) := by decide +kernel
theorem dX12_arranges_65 : decode cX12_arranges 65 = .ok (.iastore, 1) := by decide +kernel
theorem dX12_arranges_66 : decode cX12_arranges 66 = .ok (.aload_n 0, 1) := by decide +kernel
theorem dX12_arranges_67 : decode cX12_arranges 67 = .ok (.getfield 105, 3) := by decide +kernel
theorem dX12_arranges_70 : decode cX12_arranges 70 = .ok (.iload_n 2, 1) := by decide +kernel
theorem dX12_arranges_71 : decode cX12_arranges 71 = .ok (.aload_n 0, 1) := by decide +kernel
theorem dX12_arranges_72 : decode cX12_arranges 72 = .ok (.getfield 53, 3) := by decide +kernel
theorem dX12_arranges_75 : decode cX12_arranges 75 = .ok (.bipush 15, 2) := by decide +kernel
theorem dX12_arranges_77 : decode cX12_arranges 77 = .ok (.aaload, 1) := by decide +kernel
theorem dX12_arranges_78 : decode cX12_arranges 78 = .ok (.iload_n 2, 1) := by decide +kernel
theorem dX12_arranges_79 : decode cX12_arranges 79 = .ok (.iaload, 1) := by decide +kernel
theorem dX12_arranges_80 : decode cX12_arranges 80 = .ok (.iastore, 1) := by decide +kernel
theorem dX12_arranges_81 : decode cX12_arranges 81 = .ok (.aload_n 0, 1) := by decide +kernel
theorem dX12_arranges_82 : decode cX12_arranges 82 = .ok (.getfield 111, 3) := by decide +kernel
theorem dX12_arranges_85 : decode cX12_arranges 85 = .ok (.iload_n 2, 1) := by decide +kernel
theorem dX12_arranges_86 : decode cX12_arranges 86 = .ok (.aload_n 0, 1) := by decide +kernel
theorem dX12_arranges_87 : decode cX12_arranges 87 = .ok (.getfield 50, 3) := by decide +kernel
theorem dX12_arranges_90 : decode cX12_arranges 90 = .ok (.bipush 15, 2) := by decide +kernel
theorem dX12_arranges_92 : decode cX12_arranges 92 = .ok (.aaload, 1) := by decide +kernel
theorem dX12_arranges_93 : decode cX12_arranges 93 = .ok (.iload_n 2, 1) := by decide +kernel
theorem dX12_arranges_94 : decode cX12_arranges 94 = .ok (.laload, 1) := by decide +kernel
theorem dX12_arranges_95 : decode cX12_arranges 95 = .ok (.lastore, 1) := by decide +kernel
theorem dX12_arranges_96 : decode cX12_arranges 96 = .ok (.iinc 2 1, 3) := by decide +kernel
theorem dX12_arranges_99 : decode cX12_arranges 99 = .ok (.goto (-53), 3) := by decide +kernel
theorem dX12_arranges_102 : decode cX12_arranges 102 = .ok (.iconst 0, 1) := by decide +kernel
theorem dX12_arranges_103 : decode cX12_arranges 103 = .ok (.istore_n 2, 1) := by decide +kernel
theorem dX12_arranges_104 : decode cX12_arranges 104 = .ok (.iload_n 2, 1) := by decide +kernel
theorem dX12_arranges_105 : decode cX12_arranges 105 = .ok (.aload_n 0, 1) := by decide +kernel
theorem dX12_arranges_106 : decode cX12_arranges 106 = .ok (.getfield 258, 3) := by decide +kernel
theorem dX12_arranges_109 : decode cX12_arranges 109 = .ok (.if_icmp .ge 87, 3) := by decide +kernel
theorem dX12_arranges_112 : decode cX12_arranges 112 = .ok (.aload_n 0, 1) := by decide +kernel
theorem dX12_arranges_113 : decode cX12_arranges 113 = .ok (.getfield 99, 3) := by decide +kernel
theorem dX12_arranges_116 : decode cX12_arranges 116 = .ok (.iload_n 2, 1) := by decide +kernel
theorem dX12_arranges_117 : decode cX12_arranges 117 = .ok (.iaload, 1) := by decide +kernel
theorem dX12_arranges_118 : decode cX12_arranges 118 = .ok (.istore_n 3, 1) := by decide +kernel
theorem dX12_arranges_119 : decode cX12_arranges 119 = .ok (.aload_n 0, 1) := by decide +kernel
theorem dX12_arranges_120 : decode cX12_arranges 120 = .ok (.getfield 65, 3) := by decide +kernel
theorem dX12_arranges_123 : decode cX12_arranges 123 = .ok (.iload_n 2, 1) := by decide +kernel
theorem dX12_arranges_124 : decode cX12_arranges 124 = .ok (.aload_n 0, 1) := by decide +kernel
theorem dX12_arranges_125 : decode cX12_arranges 125 = .ok (.getfield 102, 3) := by decide +kernel
theorem dX12_arranges_128 : decode cX12_arranges 128 = .ok (.iload_n 3, 1) := by decide +kernel
theorem dX12_arranges_129 : decode cX12_arranges 129 = .ok (.iaload, 1) := by decide +kernel
theorem dX12_arranges_130 : decode cX12_arranges 130 = .ok (.iastore, 1) := by decide +kernel
theorem dX12_arranges_131 : decode cX12_arranges 131 = .ok (.aload_n 0, 1) := by decide +kernel
theorem dX12_arranges_132 : decode cX12_arranges 132 = .ok (.getfield 50, 3) := by decide +kernel
theorem dX12_arranges_135 : decode cX12_arranges 135 = .ok (.bipush 15, 2) := by decide +kernel
theorem dX12_arranges_137 : decode cX12_arranges 137 = .ok (.aaload, 1) := by decide +kernel
theorem dX12_arranges_138 : decode cX12_arranges 138 = .ok (.iload_n 2, 1) := by decide +kernel
theorem dX12_arranges_139 : decode cX12_arranges 139 = .ok (.aload_n 0, 1) := by decide +kernel
theorem dX12_arranges_140 : decode cX12_arranges 140 = .ok (.getfield 111, 3) := by decide +kernel
theorem dX12_arranges_143 : decode cX12_arranges 143 = .ok (.iload_n 3, 1) := by decide +kernel
theorem dX12_arranges_144 : decode cX12_arranges 144 = .ok (.laload, 1) := by decide +kernel
theorem dX12_arranges_145 : decode cX12_arranges 145 = .ok (.lastore, 1) := by decide +kernel
theorem dX12_arranges_146 : decode cX12_arranges 146 = .ok (.aload_n 0, 1) := by decide +kernel
theorem dX12_arranges_147 : decode cX12_arranges 147 = .ok (.getfield 53, 3) := by decide +kernel
theorem dX12_arranges_150 : decode cX12_arranges 150 = .ok (.bipush 15, 2) := by decide +kernel
theorem dX12_arranges_152 : decode cX12_arranges 152 = .ok (.aaload, 1) := by decide +kernel
theorem dX12_arranges_153 : decode cX12_arranges 153 = .ok (.iload_n 2, 1) := by decide +kernel
theorem dX12_arranges_154 : decode cX12_arranges 154 = .ok (.aload_n 0, 1) := by decide +kernel
theorem dX12_arranges_155 : decode cX12_arranges 155 = .ok (.getfield 105, 3) := by decide +kernel
theorem dX12_arranges_158 : decode cX12_arranges 158 = .ok (.iload_n 3, 1) := by decide +kernel
theorem dX12_arranges_159 : decode cX12_arranges 159 = .ok (.iaload, 1) := by decide +kernel
theorem dX12_arranges_160 : decode cX12_arranges 160 = .ok (.iconst (-1), 1) := by decide +kernel
theorem dX12_arranges_161 : decode cX12_arranges 161 = .ok (.if_icmp .ne 7, 3) := by decide +kernel
theorem dX12_arranges_164 : decode cX12_arranges 164 = .ok (.iconst (-1), 1) := by decide +kernel
theorem dX12_arranges_165 : decode cX12_arranges 165 = .ok (.goto 14, 3) := by decide +kernel
theorem dX12_arranges_168 : decode cX12_arranges 168 = .ok (.aload_n 0, 1) := by decide +kernel
theorem dX12_arranges_169 : decode cX12_arranges 169 = .ok (.getfield 108, 3) := by decide +kernel
theorem dX12_arranges_172 : decode cX12_arranges 172 = .ok (.aload_n 0, 1) := by decide +kernel
theorem dX12_arranges_173 : decode cX12_arranges 173 = .ok (.getfield 105, 3) := by decide +kernel
theorem dX12_arranges_176 : decode cX12_arranges 176 = .ok (.iload_n 3, 1) := by decide +kernel
theorem dX12_arranges_177 : decode cX12_arranges 177 = .ok (.iaload, 1) := by decide +kernel
theorem dX12_arranges_178 : decode cX12_arranges 178 = .ok (.iaload, 1) := by decide +kernel
theorem dX12_arranges_179 : decode cX12_arranges 179 = .ok (.iastore, 1) := by decide +kernel
theorem dX12_arranges_180 : decode cX12_arranges 180 = .ok (.aload_n 0, 1) := by decide +kernel
theorem dX12_arranges_181 : decode cX12_arranges 181 = .ok (.getfield 56, 3) := by decide +kernel
theorem dX12_arranges_184 : decode cX12_arranges 184 = .ok (.bipush 15, 2) := by decide +kernel
theorem dX12_arranges_186 : decode cX12_arranges 186 = .ok (.aaload, 1) := by decide +kernel
theorem dX12_arranges_187 : decode cX12_arranges 187 = .ok (.iload_n 2, 1) := by decide +kernel
theorem dX12_arranges_188 : decode cX12_arranges 188 = .ok (.iload_n 2, 1) := by decide +kernel
theorem dX12_arranges_189 : decode cX12_arranges 189 = .ok (.iastore, 1) := by decide +kernel
theorem dX12_arranges_190 : decode cX12_arranges 190 = .ok (.iinc 2 1, 3) := by decide +kernel
theorem dX12_arranges_193 : decode cX12_arranges 193 = .ok (.goto (-89), 3) := by decide +kernel
theorem dX12_arranges_196 : decode cX12_arranges 196 = .ok (.return_, 1) := by decide +kernel
theorem dX12_back_0 : decode cX12_back 0 = .ok (.aload_n 0, 1) := by decide +kernel
theorem dX12_back_1 : decode cX12_back 1 = .ok (.iload_n 1, 1) := by decide +kernel
theorem dX12_back_2 : decode cX12_back 2 = .ok (.invokevirtual 530, 3) := by decide +kernel
theorem dX12_back_5 : decode cX12_back 5 = .ok (.ifCond .eq 34, 3) := by decide +kernel
theorem dX12_back_8 : decode cX12_back 8 = .ok (.aload_n 0, 1) := by decide +kernel
theorem dX12_back_9 : decode cX12_back 9 = .ok (.iload_n 2, 1) := by decide +kernel
theorem dX12_back_10 : decode cX12_back 10 = .ok (.invokevirtual 396, 3) := by decide +kernel
theorem dX12_back_13 : decode cX12_back 13 = .ok (.ifCond .eq 26, 3) := by decide +kernel
theorem dX12_back_16 : decode cX12_back 16 = .ok (.iload_n 1, 1) := by decide +kernel
theorem dX12_back_17 : decode cX12_back 17 = .ok (.iload_n 2, 1) := by decide +kernel
theorem dX12_back_18 : decode cX12_back 18 = .ok (.if_icmp .eq 21, 3) := by decide +kernel
theorem dX12_back_21 : decode cX12_back 21 = .ok (.aload_n 0, 1) := by decide +kernel
theorem dX12_back_22 : decode cX12_back 22 = .ok (.iload_n 2, 1) := by decide +kernel
theorem dX12_back_23 : decode cX12_back 23 = .ok (.iload_n 1, 1) := by decide +kernel
theorem dX12_back_24 : decode cX12_back 24 = .ok (.invokevirtual 512, 3) := by decide +kernel
theorem dX12_back_27 : decode cX12_back 27 = .ok (.ifCond .eq 12, 3) := by decide +kernel
theorem dX12_back_30 : decode cX12_back 30 = .ok (.aload_n 0, 1) := by decide +kernel
theorem dX12_back_31 : decode cX12_back 31 = .ok (.getfield 339, 3) := by decide +kernel
theorem dX12_back_34 : decode cX12_back 34 = .ok (.bipush 12, 2) := by decide +kernel
theorem dX12_back_36 : decode cX12_back 36 = .ok (.if_icmp .ne 5, 3) := by decide +kernel
theorem dX12_back_39 : decode cX12_back 39 = .ok (.iconst (-1), 1) := by decide +kernel
theorem dX12_back_40 : decode cX12_back 40 = .ok (.ireturn, 1) := by decide +kernel
theorem dX12_back_41 : decode cX12_back 41 = .ok (.aload_n 0, 1) := by decide +kernel
theorem dX12_back_42 : decode cX12_back 42 = .ok (.aload_n 0, 1) := by decide +kernel
theorem dX12_back_43 : decode cX12_back 43 = .ok (.getfield 72, 3) := by decide +kernel
theorem dX12_back_46 : decode cX12_back 46 = .ok (.iload_n 1, 1) := by decide +kernel
theorem dX12_back_47 : decode cX12_back 47 = .ok (.iaload, 1) := by decide +kernel
theorem dX12_back_48 : decode cX12_back 48 = .ok (.iload_n 2, 1) := by decide +kernel
theorem dX12_back_49 : decode cX12_back 49 = .ok (.iload_n 1, 1) := by decide +kernel
theorem dX12_back_50 : decode cX12_back 50 = .ok (.invokevirtual 521, 3) := by decide +kernel
theorem dX12_back_53 : decode cX12_back 53 = .ok (.ifCond .eq 12, 3) := by decide +kernel
theorem dX12_back_56 : decode cX12_back 56 = .ok (.aload_n 0, 1) := by decide +kernel
theorem dX12_back_57 : decode cX12_back 57 = .ok (.iload_n 2, 1) := by decide +kernel
theorem dX12_back_58 : decode cX12_back 58 = .ok (.iconst (-1), 1) := by decide +kernel
theorem dX12_back_59 : decode cX12_back 59 = .ok (.invokevirtual 527, 3) := by decide +kernel
theorem dX12_back_62 : decode cX12_back 62 = .ok (.goto 4, 3) := by decide +kernel
theorem dX12_back_65 : decode cX12_back 65 = .ok (.iconst (-1), 1) := by decide +kernel
theorem dX12_back_66 : decode cX12_back 66 = .ok (.ireturn, 1) := by decide +kernel
theorem dX12_base_0 : decode cX12_base 0 = .ok (.aload_n 0, 1) := by decide +kernel
theorem dX12_base_1 : decode cX12_base 1 = .ok (.iload_n 1, 1) := by decide +kernel
theorem dX12_base_2 : decode cX12_base 2 = .ok (.invokevirtual 396, 3) := by decide +kernel
theorem dX12_base_5 : decode cX12_base 5 = .ok (.ifCond .eq 11, 3) := by decide +kernel
theorem dX12_base_8 : decode cX12_base 8 = .ok (.aload_n 0, 1) := by decide +kernel
theorem dX12_base_9 : decode cX12_base 9 = .ok (.iload_n 2, 1) := by decide +kernel
theorem dX12_base_10 : decode cX12_base 10 = .ok (.invokevirtual 396, 3) := by decide +kernel
theorem dX12_base_13 : decode cX12_base 13 = .ok (.ifCond .ne 5, 3) := by decide +kernel
theorem dX12_base_16 : decode cX12_base 16 = .ok (.iconst (-1), 1) := by decide +kernel
theorem dX12_base_17 : decode cX12_base 17 = .ok (.ireturn, 1) := by decide +kernel
theorem dX12_base_18 : decode cX12_base 18 = .ok (.aload_n 0, 1) := by decide +kernel
theorem dX12_base_19 : decode cX12_base 19 = .ok (.iload_n 1, 1) := by decide +kernel
theorem dX12_base_20 : decode cX12_base 20 = .ok (.iload_n 2, 1) := by decide +kernel
theorem dX12_base_21 : decode cX12_base 21 = .ok (.invokevirtual 524, 3) := by decide +kernel
theorem dX12_base_24 : decode cX12_base 24 = .ok (.istore_n 3, 1) := by decide +kernel
theorem dX12_base_25 : decode cX12_base 25 = .ok (.iload_n 3, 1) := by decide +kernel
theorem dX12_base_26 : decode cX12_base 26 = .ok (.bipush 14, 2) := by decide +kernel
theorem dX12_base_28 : decode cX12_base 28 = .ok (.if_icmp .ne 8, 3) := by decide +kernel
theorem dX12_base_31 : decode cX12_base 31 = .ok (.bipush 100, 2) := by decide +kernel
theorem dX12_base_33 : decode cX12_base 33 = .ok (.goto 4, 3) := by decide +kernel
theorem dX12_base_36 : decode cX12_base 36 = .ok (.iload_n 3, 1) := by decide +kernel
theorem dX12_base_37 : decode cX12_base 37 = .ok (.ireturn, 1) := by decide +kernel
theorem dX12_baseRow_0 : decode cX12_baseRow 0 = .ok (.aload_n 0, 1) := by decide +kernel
theorem dX12_baseRow_1 : decode cX12_baseRow 1 = .ok (.iload_n 1, 1) := by decide +kernel
theorem dX12_baseRow_2 : decode cX12_baseRow 2 = .ok (.iload_n 2, 1) := by decide +kernel
theorem dX12_baseRow_3 : decode cX12_baseRow 3 = .ok (.iconst 0, 1) := by decide +kernel
theorem dX12_baseRow_4 : decode cX12_baseRow 4 = .ok (.invokevirtual 518, 3) := by decide +kernel
theorem dX12_baseRow_7 : decode cX12_baseRow 7 = .ok (.istore_n 3, 1) := by decide +kernel
theorem dX12_baseRow_8 : decode cX12_baseRow 8 = .ok (.aload_n 0, 1) := by decide +kernel
theorem dX12_baseRow_9 : decode cX12_baseRow 9 = .ok (.iload_n 1, 1) := by decide +kernel
theorem dX12_baseRow_10 : decode cX12_baseRow 10 = .ok (.iload_n 2, 1) := by decide +kernel
theorem dX12_baseRow_11 : decode cX12_baseRow 11 = .ok (.iconst 1, 1) := by decide +kernel
theorem dX12_baseRow_12 : decode cX12_baseRow 12 = .ok (.invokevirtual 518, 3) := by decide +kernel
theorem dX12_baseRow_15 : decode cX12_baseRow 15 = .ok (.istore 4, 2) := by decide +kernel
theorem dX12_baseRow_17 : decode cX12_baseRow 17 = .ok (.iload_n 3, 1) := by decide +kernel
theorem dX12_baseRow_18 : decode cX12_baseRow 18 = .ok (.iconst (-1), 1) := by decide +kernel
theorem dX12_baseRow_19 : decode cX12_baseRow 19 = .ok (.if_icmp .eq 9, 3) := by decide +kernel
theorem dX12_baseRow_22 : decode cX12_baseRow 22 = .ok (.iload 4, 2) := by decide +kernel
theorem dX12_baseRow_24 : decode cX12_baseRow 24 = .ok (.iconst (-1), 1) := by decide +kernel
theorem dX12_baseRow_25 : decode cX12_baseRow 25 = .ok (.if_icmp .ne 5, 3) := by decide +kernel
theorem dX12_baseRow_28 : decode cX12_baseRow 28 = .ok (.iload_n 3, 1) := by decide +kernel
theorem dX12_baseRow_29 : decode cX12_baseRow 29 = .ok (.ireturn, 1) := by decide +kernel
theorem dX12_baseRow_30 : decode cX12_baseRow 30 = .ok (.aload_n 0, 1) := by decide +kernel
theorem dX12_baseRow_31 : decode cX12_baseRow 31 = .ok (.iload_n 3, 1) := by decide +kernel
theorem dX12_baseRow_32 : decode cX12_baseRow 32 = .ok (.iload 4, 2) := by decide +kernel
theorem dX12_baseRow_34 : decode cX12_baseRow 34 = .ok (.iconst 0, 1) := by decide +kernel
theorem dX12_baseRow_35 : decode cX12_baseRow 35 = .ok (.invokevirtual 518, 3) := by decide +kernel
theorem dX12_baseRow_38 : decode cX12_baseRow 38 = .ok (.istore 5, 2) := by decide +kernel
theorem dX12_baseRow_40 : decode cX12_baseRow 40 = .ok (.iload 5, 2) := by decide +kernel
theorem dX12_baseRow_42 : decode cX12_baseRow 42 = .ok (.iconst (-1), 1) := by decide +kernel
theorem dX12_baseRow_43 : decode cX12_baseRow 43 = .ok (.if_icmp .eq 15, 3) := by decide +kernel
theorem dX12_baseRow_46 : decode cX12_baseRow 46 = .ok (.aload_n 0, 1) := by decide +kernel
theorem dX12_baseRow_47 : decode cX12_baseRow 47 = .ok (.iload_n 3, 1) := by decide +kernel
theorem dX12_baseRow_48 : decode cX12_baseRow 48 = .ok (.iload 4, 2) := by decide +kernel
theorem dX12_baseRow_50 : decode cX12_baseRow 50 = .ok (.iconst 1, 1) := by decide +kernel
theorem dX12_baseRow_51 : decode cX12_baseRow 51 = .ok (.invokevirtual 518, 3) := by decide +kernel
theorem dX12_baseRow_54 : decode cX12_baseRow 54 = .ok (.iconst (-1), 1) := by decide +kernel
theorem dX12_baseRow_55 : decode cX12_baseRow 55 = .ok (.if_icmp .eq 5, 3) := by decide +kernel
theorem dX12_baseRow_58 : decode cX12_baseRow 58 = .ok (.iconst (-1), 1) := by decide +kernel
theorem dX12_baseRow_59 : decode cX12_baseRow 59 = .ok (.ireturn, 1) := by decide +kernel
theorem dX12_baseRow_60 : decode cX12_baseRow 60 = .ok (.aload_n 0, 1) := by decide +kernel
theorem dX12_baseRow_61 : decode cX12_baseRow 61 = .ok (.getfield 455, 3) := by decide +kernel
theorem dX12_baseRow_64 : decode cX12_baseRow 64 = .ok (.istore 6, 2) := by decide +kernel
theorem dX12_baseRow_66 : decode cX12_baseRow 66 = .ok (.iconst 0, 1) := by decide +kernel
theorem dX12_baseRow_67 : decode cX12_baseRow 67 = .ok (.istore 7, 2) := by decide +kernel
theorem dX12_baseRow_69 : decode cX12_baseRow 69 = .ok (.iload 7, 2) := by decide +kernel
theorem dX12_baseRow_71 : decode cX12_baseRow 71 = .ok (.iload 6, 2) := by decide +kernel
theorem dX12_baseRow_73 : decode cX12_baseRow 73 = .ok (.if_icmp .ge 23, 3) := by decide +kernel
theorem dX12_baseRow_76 : decode cX12_baseRow 76 = .ok (.aload_n 0, 1) := by decide +kernel
theorem dX12_baseRow_77 : decode cX12_baseRow 77 = .ok (.getfield 157, 3) := by decide +kernel
theorem dX12_baseRow_80 : decode cX12_baseRow 80 = .ok (.iload 7, 2) := by decide +kernel
theorem dX12_baseRow_82 : decode cX12_baseRow 82 = .ok (.aload_n 0, 1) := by decide +kernel
theorem dX12_baseRow_83 : decode cX12_baseRow 83 = .ok (.getfield 139, 3) := by decide +kernel
theorem dX12_baseRow_86 : decode cX12_baseRow 86 = .ok (.iload 7, 2) := by decide +kernel
theorem dX12_baseRow_88 : decode cX12_baseRow 88 = .ok (.iaload, 1) := by decide +kernel
theorem dX12_baseRow_89 : decode cX12_baseRow 89 = .ok (.iastore, 1) := by decide +kernel
theorem dX12_baseRow_90 : decode cX12_baseRow 90 = .ok (.iinc 7 1, 3) := by decide +kernel
theorem dX12_baseRow_93 : decode cX12_baseRow 93 = .ok (.goto (-24), 3) := by decide +kernel
theorem dX12_baseRow_96 : decode cX12_baseRow 96 = .ok (.aload_n 0, 1) := by decide +kernel
theorem dX12_baseRow_97 : decode cX12_baseRow 97 = .ok (.iload_n 3, 1) := by decide +kernel
theorem dX12_baseRow_98 : decode cX12_baseRow 98 = .ok (.iload 4, 2) := by decide +kernel
theorem dX12_baseRow_100 : decode cX12_baseRow 100 = .ok (.iload 5, 2) := by decide +kernel
theorem dX12_baseRow_102 : decode cX12_baseRow 102 = .ok (.invokevirtual 521, 3) := by decide +kernel
theorem dX12_baseRow_105 : decode cX12_baseRow 105 = .ok (.istore 7, 2) := by decide +kernel
theorem dX12_baseRow_107 : decode cX12_baseRow 107 = .ok (.aload_n 0, 1) := by decide +kernel
theorem dX12_baseRow_108 : decode cX12_baseRow 108 = .ok (.iload 6, 2) := by decide +kernel
theorem dX12_baseRow_110 : decode cX12_baseRow 110 = .ok (.putfield 455, 3) := by decide +kernel
theorem dX12_baseRow_113 : decode cX12_baseRow 113 = .ok (.iconst 0, 1) := by decide +kernel
theorem dX12_baseRow_114 : decode cX12_baseRow 114 = .ok (.istore 8, 2) := by decide +kernel
theorem dX12_baseRow_116 : decode cX12_baseRow 116 = .ok (.iload 8, 2) := by decide +kernel
theorem dX12_baseRow_118 : decode cX12_baseRow 118 = .ok (.iload 6, 2) := by decide +kernel
theorem dX12_baseRow_120 : decode cX12_baseRow 120 = .ok (.if_icmp .ge 23, 3) := by decide +kernel
theorem dX12_baseRow_123 : decode cX12_baseRow 123 = .ok (.aload_n 0, 1) := by decide +kernel
theorem dX12_baseRow_124 : decode cX12_baseRow 124 = .ok (.getfield 139, 3) := by decide +kernel
theorem dX12_baseRow_127 : decode cX12_baseRow 127 = .ok (.iload 8, 2) := by decide +kernel
theorem dX12_baseRow_129 : decode cX12_baseRow 129 = .ok (.aload_n 0, 1) := by decide +kernel
theorem dX12_baseRow_130 : decode cX12_baseRow 130 = .ok (.getfield 157, 3) := by decide +kernel
theorem dX12_baseRow_133 : decode cX12_baseRow 133 = .ok (.iload 8, 2) := by decide +kernel
theorem dX12_baseRow_135 : decode cX12_baseRow 135 = .ok (.iaload, 1) := by decide +kernel
theorem dX12_baseRow_136 : decode cX12_baseRow 136 = .ok (.iastore, 1) := by decide +kernel
theorem dX12_baseRow_137 : decode cX12_baseRow 137 = .ok (.iinc 8 1, 3) := by decide +kernel
theorem dX12_baseRow_140 : decode cX12_baseRow 140 = .ok (.goto (-24), 3) := by decide +kernel
theorem dX12_baseRow_143 : decode cX12_baseRow 143 = .ok (.iload 7, 2) := by decide +kernel
theorem dX12_baseRow_145 : decode cX12_baseRow 145 = .ok (.ifCond .ne 5, 3) := by decide +kernel
theorem dX12_baseRow_148 : decode cX12_baseRow 148 = .ok (.iconst (-1), 1) := by decide +kernel
theorem dX12_baseRow_149 : decode cX12_baseRow 149 = .ok (.ireturn, 1) := by decide +kernel
theorem dX12_baseRow_150 : decode cX12_baseRow 150 = .ok (.aload_n 0, 1) := by decide +kernel
theorem dX12_baseRow_151 : decode cX12_baseRow 151 = .ok (.bipush 13, 2) := by decide +kernel
theorem dX12_baseRow_153 : decode cX12_baseRow 153 = .ok (.bipush 14, 2) := by decide +kernel
theorem dX12_baseRow_155 : decode cX12_baseRow 155 = .ok (.invokevirtual 411, 3) := by decide +kernel
theorem dX12_baseRow_158 : decode cX12_baseRow 158 = .ok (.bipush 14, 2) := by decide +kernel
theorem dX12_baseRow_160 : decode cX12_baseRow 160 = .ok (.ireturn, 1) := by decide +kernel
theorem dX12_begin_0 : decode cX12_begin 0 = .ok (.aload_n 0, 1) := by decide +kernel
theorem dX12_begin_1 : decode cX12_begin 1 = .ok (.getfield 407, 3) := by decide +kernel
theorem dX12_begin_4 : decode cX12_begin 4 = .ok (.ifCond .ne 11, 3) := by decide +kernel
theorem dX12_begin_7 : decode cX12_begin 7 = .ok (.aload_n 0, 1) := by decide +kernel
theorem dX12_begin_8 : decode cX12_begin 8 = .ok (.iload_n 1, 1) := by decide +kernel
theorem dX12_begin_9 : decode cX12_begin 9 = .ok (.invokevirtual 396, 3) := by decide +kernel
theorem dX12_begin_12 : decode cX12_begin 12 = .ok (.ifCond .ne 5, 3) := by decide +kernel
theorem dX12_begin_15 : decode cX12_begin 15 = .ok (.iconst 0, 1) := by decide +kernel
theorem dX12_begin_16 : decode cX12_begin 16 = .ok (.ireturn, 1) := by decide +kernel
theorem dX12_begin_17 : decode cX12_begin 17 = .ok (.aload_n 0, 1) := by decide +kernel
theorem dX12_begin_18 : decode cX12_begin 18 = .ok (.iload_n 1, 1) := by decide +kernel
theorem dX12_begin_19 : decode cX12_begin 19 = .ok (.bipush 12, 2) := by decide +kernel
theorem dX12_begin_21 : decode cX12_begin 21 = .ok (.invokevirtual 411, 3) := by decide +kernel
theorem dX12_begin_24 : decode cX12_begin 24 = .ok (.aload_n 0, 1) := by decide +kernel
theorem dX12_begin_25 : decode cX12_begin 25 = .ok (.iload_n 1, 1) := by decide +kernel
theorem dX12_begin_26 : decode cX12_begin 26 = .ok (.putfield 414, 3) := by decide +kernel
theorem dX12_begin_29 : decode cX12_begin 29 = .ok (.aload_n 0, 1) := by decide +kernel
theorem dX12_begin_30 : decode cX12_begin 30 = .ok (.iconst 1, 1) := by decide +kernel
theorem dX12_begin_31 : decode cX12_begin 31 = .ok (.putfield 407, 3) := by decide +kernel
theorem dX12_begin_34 : decode cX12_begin 34 = .ok (.iconst 1, 1) := by decide +kernel
theorem dX12_begin_35 : decode cX12_begin 35 = .ok (.ireturn, 1) := by decide +kernel
theorem dX12_bound_0 : decode cX12_bound 0 = .ok (.iconst 0, 1) := by decide +kernel
theorem dX12_bound_1 : decode cX12_bound 1 = .ok (.istore_n 1, 1) := by decide +kernel
theorem dX12_bound_2 : decode cX12_bound 2 = .ok (.iconst 0, 1) := by decide +kernel
theorem dX12_bound_3 : decode cX12_bound 3 = .ok (.istore_n 2, 1) := by decide +kernel
theorem dX12_bound_4 : decode cX12_bound 4 = .ok (.iload_n 2, 1) := by decide +kernel
theorem dX12_bound_5 : decode cX12_bound 5 = .ok (.aload_n 0, 1) := by decide +kernel
theorem dX12_bound_6 : decode cX12_bound 6 = .ok (.getfield 251, 3) := by decide +kernel
theorem dX12_bound_9 : decode cX12_bound 9 = .ok (.if_icmp .ge 103, 3) := by decide +kernel
theorem dX12_bound_12 : decode cX12_bound 12 = .ok (.iconst 0, 1) := by decide +kernel
theorem dX12_bound_13 : decode cX12_bound 13 = .ok (.istore_n 3, 1) := by decide +kernel
theorem dX12_bound_14 : decode cX12_bound 14 = .ok (.iconst 0, 1) := by decide +kernel
theorem dX12_bound_15 : decode cX12_bound 15 = .ok (.istore 4, 2) := by decide +kernel
theorem dX12_bound_17 : decode cX12_bound 17 = .ok (.iload 4, 2) := by decide +kernel
theorem dX12_bound_19 : decode cX12_bound 19 = .ok (.aload_n 0, 1) := by decide +kernel
theorem dX12_bound_20 : decode cX12_bound 20 = .ok (.getfield 354, 3) := by decide +kernel
theorem dX12_bound_23 : decode cX12_bound 23 = .ok (.if_icmp .ge 33, 3) := by decide +kernel
theorem dX12_bound_26 : decode cX12_bound 26 = .ok (.iload_n 3, 1) := by decide +kernel
theorem dX12_bound_27 : decode cX12_bound 27 = .ok (.aload_n 0, 1) := by decide +kernel
theorem dX12_bound_28 : decode cX12_bound 28 = .ok (.getfield 59, 3) := by decide +kernel
theorem dX12_bound_31 : decode cX12_bound 31 = .ok (.aload_n 0, 1) := by decide +kernel
theorem dX12_bound_32 : decode cX12_bound 32 = .ok (.getfield 124, 3) := by decide +kernel
theorem dX12_bound_35 : decode cX12_bound 35 = .ok (.iload 4, 2) := by decide +kernel
theorem dX12_bound_37 : decode cX12_bound 37 = .ok (.iaload, 1) := by decide +kernel
theorem dX12_bound_38 : decode cX12_bound 38 = .ok (.iaload, 1) := by decide +kernel
theorem dX12_bound_39 : decode cX12_bound 39 = .ok (.iload_n 2, 1) := by decide +kernel
theorem dX12_bound_40 : decode cX12_bound 40 = .ok (.if_icmp .ne 7, 3) := by decide +kernel
theorem dX12_bound_43 : decode cX12_bound 43 = .ok (.iconst 1, 1) := by decide +kernel
theorem dX12_bound_44 : decode cX12_bound 44 = .ok (.goto 4, 3) := by decide +kernel
theorem dX12_bound_47 : decode cX12_bound 47 = .ok (.iconst 0, 1) := by decide +kernel
theorem dX12_bound_48 : decode cX12_bound 48 = .ok (.iadd, 1) := by decide +kernel
theorem dX12_bound_49 : decode cX12_bound 49 = .ok (.istore_n 3, 1) := by decide +kernel
theorem dX12_bound_50 : decode cX12_bound 50 = .ok (.iinc 4 1, 3) := by decide +kernel
theorem dX12_bound_53 : decode cX12_bound 53 = .ok (.goto (-36), 3) := by decide +kernel
theorem dX12_bound_56 : decode cX12_bound 56 = .ok (.iconst 0, 1) := by decide +kernel
theorem dX12_bound_57 : decode cX12_bound 57 = .ok (.istore 4, 2) := by decide +kernel
theorem dX12_bound_59 : decode cX12_bound 59 = .ok (.iload 4, 2) := by decide +kernel
theorem dX12_bound_61 : decode cX12_bound 61 = .ok (.aload_n 0, 1) := by decide +kernel
theorem dX12_bound_62 : decode cX12_bound 62 = .ok (.getfield 258, 3) := by decide +kernel
theorem dX12_bound_65 : decode cX12_bound 65 = .ok (.if_icmp .ge 28, 3) := by decide +kernel
theorem dX12_bound_68 : decode cX12_bound 68 = .ok (.iload_n 3, 1) := by decide +kernel
theorem dX12_bound_69 : decode cX12_bound 69 = .ok (.aload_n 0, 1) := by decide +kernel
theorem dX12_bound_70 : decode cX12_bound 70 = .ok (.getfield 65, 3) := by decide +kernel
theorem dX12_bound_73 : decode cX12_bound 73 = .ok (.iload 4, 2) := by decide +kernel
theorem dX12_bound_75 : decode cX12_bound 75 = .ok (.iaload, 1) := by decide +kernel
theorem dX12_bound_76 : decode cX12_bound 76 = .ok (.iload_n 2, 1) := by decide +kernel
theorem dX12_bound_77 : decode cX12_bound 77 = .ok (.if_icmp .ne 7, 3) := by decide +kernel
theorem dX12_bound_80 : decode cX12_bound 80 = .ok (.iconst 1, 1) := by decide +kernel
theorem dX12_bound_81 : decode cX12_bound 81 = .ok (.goto 4, 3) := by decide +kernel
theorem dX12_bound_84 : decode cX12_bound 84 = .ok (.iconst 0, 1) := by decide +kernel
theorem dX12_bound_85 : decode cX12_bound 85 = .ok (.isub, 1) := by decide +kernel
theorem dX12_bound_86 : decode cX12_bound 86 = .ok (.istore_n 3, 1) := by decide +kernel
theorem dX12_bound_87 : decode cX12_bound 87 = .ok (.iinc 4 1, 3) := by decide +kernel
theorem dX12_bound_90 : decode cX12_bound 90 = .ok (.goto (-31), 3) := by decide +kernel
theorem dX12_bound_93 : decode cX12_bound 93 = .ok (.iload_n 1, 1) := by decide +kernel
theorem dX12_bound_94 : decode cX12_bound 94 = .ok (.iload_n 3, 1) := by decide +kernel
theorem dX12_bound_95 : decode cX12_bound 95 = .ok (.ifCond .ge 8, 3) := by decide +kernel
theorem dX12_bound_98 : decode cX12_bound 98 = .ok (.iload_n 3, 1) := by decide +kernel
theorem dX12_bound_99 : decode cX12_bound 99 = .ok (.ineg, 1) := by decide +kernel
theorem dX12_bound_100 : decode cX12_bound 100 = .ok (.goto 4, 3) := by decide +kernel
theorem dX12_bound_103 : decode cX12_bound 103 = .ok (.iload_n 3, 1) := by decide +kernel
theorem dX12_bound_104 : decode cX12_bound 104 = .ok (.iadd, 1) := by decide +kernel
theorem dX12_bound_105 : decode cX12_bound 105 = .ok (.istore_n 1, 1) := by decide +kernel
theorem dX12_bound_106 : decode cX12_bound 106 = .ok (.iinc 2 1, 3) := by decide +kernel
theorem dX12_bound_109 : decode cX12_bound 109 = .ok (.goto (-105), 3) := by decide +kernel
theorem dX12_bound_112 : decode cX12_bound 112 = .ok (.iconst 2, 1) := by decide +kernel
theorem dX12_bound_113 : decode cX12_bound 113 = .ok (.iload_n 1, 1) := by decide +kernel
theorem dX12_bound_114 : decode cX12_bound 114 = .ok (.imul, 1) := by decide +kernel
theorem dX12_bound_115 : decode cX12_bound 115 = .ok (.ireturn, 1) := by decide +kernel
theorem dX12_breaks_0 : decode cX12_breaks 0 = .ok (.aload_n 0, 1) := by decide +kernel
theorem dX12_breaks_1 : decode cX12_breaks 1 = .ok (.invokevirtual 282, 3) := by decide +kernel
theorem dX12_breaks_4 : decode cX12_breaks 4 = .ok (.aload_n 0, 1) := by decide +kernel
theorem dX12_breaks_5 : decode cX12_breaks 5 = .ok (.getfield 193, 3) := by decide +kernel
theorem dX12_breaks_8 : decode cX12_breaks 8 = .ok (.iconst (-1), 1) := by decide +kernel
theorem dX12_breaks_9 : decode cX12_breaks 9 = .ok (.if_icmp .eq 7, 3) := by decide +kernel
theorem dX12_breaks_12 : decode cX12_breaks 12 = .ok (.iconst (-1), 1) := by decide +kernel
theorem dX12_breaks_13 : decode cX12_breaks 13 = .ok (.goto 9, 3) := by decide +kernel
theorem dX12_breaks_16 : decode cX12_breaks 16 = .ok (.aload_n 0, 1) := by decide +kernel
theorem dX12_breaks_17 : decode cX12_breaks 17 = .ok (.bipush 15, 2) := by decide +kernel
theorem dX12_breaks_19 : decode cX12_breaks 19 = .ok (.invokevirtual 333, 3) := by decide +kernel
theorem dX12_breaks_22 : decode cX12_breaks 22 = .ok (.ireturn, 1) := by decide +kernel
theorem dX12_canCome_0 : decode cX12_canCome 0 = .ok (.aload_n 0, 1) := by decide +kernel
theorem dX12_canCome_1 : decode cX12_canCome 1 = .ok (.getfield 251, 3) := by decide +kernel
theorem dX12_canCome_4 : decode cX12_canCome 4 = .ok (.ifCond .eq 12, 3) := by decide +kernel
theorem dX12_canCome_7 : decode cX12_canCome 7 = .ok (.aload_n 0, 1) := by decide +kernel
theorem dX12_canCome_8 : decode cX12_canCome 8 = .ok (.getfield 339, 3) := by decide +kernel
theorem dX12_canCome_11 : decode cX12_canCome 11 = .ok (.bipush 12, 2) := by decide +kernel
theorem dX12_canCome_13 : decode cX12_canCome 13 = .ok (.if_icmp .ne 5, 3) := by decide +kernel
theorem dX12_canCome_16 : decode cX12_canCome 16 = .ok (.iconst 0, 1) := by decide +kernel
theorem dX12_canCome_17 : decode cX12_canCome 17 = .ok (.ireturn, 1) := by decide +kernel
theorem dX12_canCome_18 : decode cX12_canCome 18 = .ok (.aload_n 0, 1) := by decide +kernel
theorem dX12_canCome_19 : decode cX12_canCome 19 = .ok (.invokevirtual 282, 3) := by decide +kernel
theorem dX12_canCome_22 : decode cX12_canCome 22 = .ok (.aload_n 0, 1) := by decide +kernel
theorem dX12_canCome_23 : decode cX12_canCome 23 = .ok (.getfield 193, 3) := by decide +kernel
theorem dX12_canCome_26 : decode cX12_canCome 26 = .ok (.iconst (-1), 1) := by decide +kernel
theorem dX12_canCome_27 : decode cX12_canCome 27 = .ok (.if_icmp .ne 17, 3) := by decide +kernel
theorem dX12_canCome_30 : decode cX12_canCome 30 = .ok (.aload_n 0, 1) := by decide +kernel
theorem dX12_canCome_31 : decode cX12_canCome 31 = .ok (.bipush 15, 2) := by decide +kernel
theorem dX12_canCome_33 : decode cX12_canCome 33 = .ok (.invokevirtual 333, 3) := by decide +kernel
theorem dX12_canCome_36 : decode cX12_canCome 36 = .ok (.iconst (-1), 1) := by decide +kernel
theorem dX12_canCome_37 : decode cX12_canCome 37 = .ok (.if_icmp .ne 7, 3) := by decide +kernel
theorem dX12_canCome_40 : decode cX12_canCome 40 = .ok (.iconst 1, 1) := by decide +kernel
theorem dX12_canCome_41 : decode cX12_canCome 41 = .ok (.goto 4, 3) := by decide +kernel
theorem dX12_canCome_44 : decode cX12_canCome 44 = .ok (.iconst 0, 1) := by decide +kernel
theorem dX12_canCome_45 : decode cX12_canCome 45 = .ok (.ireturn, 1) := by decide +kernel
theorem dX12_carry_0 : decode cX12_carry 0 = .ok (.aload_n 0, 1) := by decide +kernel
theorem dX12_carry_1 : decode cX12_carry 1 = .ok (.iload_n 1, 1) := by decide +kernel
theorem dX12_carry_2 : decode cX12_carry 2 = .ok (.invokevirtual 530, 3) := by decide +kernel
theorem dX12_carry_5 : decode cX12_carry 5 = .ok (.ifCond .eq 31, 3) := by decide +kernel
theorem dX12_carry_8 : decode cX12_carry 8 = .ok (.aload_n 0, 1) := by decide +kernel
theorem dX12_carry_9 : decode cX12_carry 9 = .ok (.iload_n 2, 1) := by decide +kernel
theorem dX12_carry_10 : decode cX12_carry 10 = .ok (.invokevirtual 396, 3) := by decide +kernel
theorem dX12_carry_13 : decode cX12_carry 13 = .ok (.ifCond .eq 23, 3) := by decide +kernel
theorem dX12_carry_16 : decode cX12_carry 16 = .ok (.aload_n 0, 1) := by decide +kernel
theorem dX12_carry_17 : decode cX12_carry 17 = .ok (.getfield 339, 3) := by decide +kernel
theorem dX12_carry_20 : decode cX12_carry 20 = .ok (.bipush 12, 2) := by decide +kernel
theorem dX12_carry_22 : decode cX12_carry 22 = .ok (.if_icmp .eq 14, 3) := by decide +kernel
theorem dX12_carry_25 : decode cX12_carry 25 = .ok (.aload_n 0, 1) := by decide +kernel
theorem dX12_carry_26 : decode cX12_carry 26 = .ok (.iload_n 1, 1) := by decide +kernel
theorem dX12_carry_27 : decode cX12_carry 27 = .ok (.iload_n 2, 1) := by decide +kernel
theorem dX12_carry_28 : decode cX12_carry 28 = .ok (.iconst 0, 1) := by decide +kernel
theorem dX12_carry_29 : decode cX12_carry 29 = .ok (.invokevirtual 518, 3) := by decide +kernel
theorem dX12_carry_32 : decode cX12_carry 32 = .ok (.iconst (-1), 1) := by decide +kernel
theorem dX12_carry_33 : decode cX12_carry 33 = .ok (.if_icmp .ne 5, 3) := by decide +kernel
theorem dX12_carry_36 : decode cX12_carry 36 = .ok (.iconst (-1), 1) := by decide +kernel
theorem dX12_carry_37 : decode cX12_carry 37 = .ok (.ireturn, 1) := by decide +kernel
theorem dX12_carry_38 : decode cX12_carry 38 = .ok (.aload_n 0, 1) := by decide +kernel
theorem dX12_carry_39 : decode cX12_carry 39 = .ok (.iload_n 1, 1) := by decide +kernel
theorem dX12_carry_40 : decode cX12_carry 40 = .ok (.iload_n 2, 1) := by decide +kernel
theorem dX12_carry_41 : decode cX12_carry 41 = .ok (.aload_n 0, 1) := by decide +kernel
theorem dX12_carry_42 : decode cX12_carry 42 = .ok (.getfield 72, 3) := by decide +kernel
theorem dX12_carry_45 : decode cX12_carry 45 = .ok (.iload_n 1, 1) := by decide +kernel
theorem dX12_carry_46 : decode cX12_carry 46 = .ok (.iaload, 1) := by decide +kernel
theorem dX12_carry_47 : decode cX12_carry 47 = .ok (.invokevirtual 521, 3) := by decide +kernel
theorem dX12_carry_50 : decode cX12_carry 50 = .ok (.ifCond .eq 12, 3) := by decide +kernel
theorem dX12_carry_53 : decode cX12_carry 53 = .ok (.aload_n 0, 1) := by decide +kernel
theorem dX12_carry_54 : decode cX12_carry 54 = .ok (.iload_n 2, 1) := by decide +kernel
theorem dX12_carry_55 : decode cX12_carry 55 = .ok (.iconst (-1), 1) := by decide +kernel
theorem dX12_carry_56 : decode cX12_carry 56 = .ok (.invokevirtual 527, 3) := by decide +kernel
theorem dX12_carry_59 : decode cX12_carry 59 = .ok (.goto 4, 3) := by decide +kernel
theorem dX12_carry_62 : decode cX12_carry 62 = .ok (.iconst (-1), 1) := by decide +kernel
theorem dX12_carry_63 : decode cX12_carry 63 = .ok (.ireturn, 1) := by decide +kernel
theorem dX12_close_0 : decode cX12_close 0 = .ok (.aload_n 0, 1) := by decide +kernel
theorem dX12_close_1 : decode cX12_close 1 = .ok (.getfield 407, 3) := by decide +kernel
theorem dX12_close_4 : decode cX12_close 4 = .ok (.ifCond .eq 22, 3) := by decide +kernel
theorem dX12_close_7 : decode cX12_close 7 = .ok (.aload_n 0, 1) := by decide +kernel
theorem dX12_close_8 : decode cX12_close 8 = .ok (.getfield 339, 3) := by decide +kernel
theorem dX12_close_11 : decode cX12_close 11 = .ok (.bipush 12, 2) := by decide +kernel
theorem dX12_close_13 : decode cX12_close 13 = .ok (.if_icmp .eq 13, 3) := by decide +kernel
theorem dX12_close_16 : decode cX12_close 16 = .ok (.aload_n 0, 1) := by decide +kernel
theorem dX12_close_17 : decode cX12_close 17 = .ok (.bipush 12, 2) := by decide +kernel
theorem dX12_close_19 : decode cX12_close 19 = .ok (.invokevirtual 333, 3) := by decide +kernel
theorem dX12_close_22 : decode cX12_close 22 = .ok (.iconst (-1), 1) := by decide +kernel
theorem dX12_close_23 : decode cX12_close 23 = .ok (.if_icmp .eq 5, 3) := by decide +kernel
theorem dX12_close_26 : decode cX12_close 26 = .ok (.iconst (-1), 1) := by decide +kernel
theorem dX12_close_27 : decode cX12_close 27 = .ok (.ireturn, 1) := by decide +kernel
theorem dX12_close_28 : decode cX12_close 28 = .ok (.aload_n 0, 1) := by decide +kernel
theorem dX12_close_29 : decode cX12_close 29 = .ok (.bipush 12, 2) := by decide +kernel
theorem dX12_close_31 : decode cX12_close 31 = .ok (.aload_n 0, 1) := by decide +kernel
theorem dX12_close_32 : decode cX12_close 32 = .ok (.getfield 339, 3) := by decide +kernel
theorem dX12_close_35 : decode cX12_close 35 = .ok (.invokevirtual 411, 3) := by decide +kernel
theorem dX12_close_38 : decode cX12_close 38 = .ok (.aload_n 0, 1) := by decide +kernel
theorem dX12_close_39 : decode cX12_close 39 = .ok (.iconst 0, 1) := by decide +kernel
theorem dX12_close_40 : decode cX12_close 40 = .ok (.putfield 407, 3) := by decide +kernel
theorem dX12_close_43 : decode cX12_close 43 = .ok (.aload_n 0, 1) := by decide +kernel
theorem dX12_close_44 : decode cX12_close 44 = .ok (.aload_n 0, 1) := by decide +kernel
theorem dX12_close_45 : decode cX12_close 45 = .ok (.getfield 339, 3) := by decide +kernel
theorem dX12_close_48 : decode cX12_close 48 = .ok (.invokevirtual 417, 3) := by decide +kernel
theorem dX12_close_51 : decode cX12_close 51 = .ok (.aload_n 0, 1) := by decide +kernel
theorem dX12_close_52 : decode cX12_close 52 = .ok (.aload_n 0, 1) := by decide +kernel
theorem dX12_close_53 : decode cX12_close 53 = .ok (.getfield 414, 3) := by decide +kernel
theorem dX12_close_56 : decode cX12_close 56 = .ok (.iconst (-1), 1) := by decide +kernel
theorem dX12_close_57 : decode cX12_close 57 = .ok (.invokevirtual 345, 3) := by decide +kernel
theorem dX12_close_60 : decode cX12_close 60 = .ok (.ireturn, 1) := by decide +kernel
theorem dX12_closes_0 : decode cX12_closes 0 = .ok (.iconst 0, 1) := by decide +kernel
theorem dX12_closes_1 : decode cX12_closes 1 = .ok (.istore_n 3, 1) := by decide +kernel
theorem dX12_closes_2 : decode cX12_closes 2 = .ok (.iload_n 3, 1) := by decide +kernel
theorem dX12_closes_3 : decode cX12_closes 3 = .ok (.aload_n 0, 1) := by decide +kernel
theorem dX12_closes_4 : decode cX12_closes 4 = .ok (.getfield 90, 3) := by decide +kernel
theorem dX12_closes_7 : decode cX12_closes 7 = .ok (.iload_n 2, 1) := by decide +kernel
theorem dX12_closes_8 : decode cX12_closes 8 = .ok (.iaload, 1) := by decide +kernel
theorem dX12_closes_9 : decode cX12_closes 9 = .ok (.if_icmp .ge 32, 3) := by decide +kernel
theorem dX12_closes_12 : decode cX12_closes 12 = .ok (.aload_n 1, 1) := by decide +kernel
theorem dX12_closes_13 : decode cX12_closes 13 = .ok (.iload_n 3, 1) := by decide +kernel
theorem dX12_closes_14 : decode cX12_closes 14 = .ok (.baload, 1) := by decide +kernel
theorem dX12_closes_15 : decode cX12_closes 15 = .ok (.ifCond .eq 20, 3) := by decide +kernel
theorem dX12_closes_18 : decode cX12_closes 18 = .ok (.aload_n 0, 1) := by decide +kernel
theorem dX12_closes_19 : decode cX12_closes 19 = .ok (.getfield 93, 3) := by decide +kernel
theorem dX12_closes_22 : decode cX12_closes 22 = .ok (.iload_n 2, 1) := by decide +kernel
theorem dX12_closes_23 : decode cX12_closes 23 = .ok (.aaload, 1) := by decide +kernel
theorem dX12_closes_24 : decode cX12_closes 24 = .ok (.iload_n 3, 1) := by decide +kernel
theorem dX12_closes_25 : decode cX12_closes 25 = .ok (.iaload, 1) := by decide +kernel
theorem dX12_closes_26 : decode cX12_closes 26 = .ok (.ifCond .eq 9, 3) := by decide +kernel
theorem dX12_closes_29 : decode cX12_closes 29 = .ok (.aload_n 1, 1) := by decide +kernel
theorem dX12_closes_30 : decode cX12_closes 30 = .ok (.iload_n 3, 1) := by decide +kernel
theorem dX12_closes_31 : decode cX12_closes 31 = .ok (.iconst 1, 1) := by decide +kernel
theorem dX12_closes_32 : decode cX12_closes 32 = .ok (.iadd, 1) := by decide +kernel
theorem dX12_closes_33 : decode cX12_closes 33 = .ok (.iconst 1, 1) := by decide +kernel
theorem dX12_closes_34 : decode cX12_closes 34 = .ok (.bastore, 1) := by decide +kernel
theorem dX12_closes_35 : decode cX12_closes 35 = .ok (.iinc 3 1, 3) := by decide +kernel
theorem dX12_closes_38 : decode cX12_closes 38 = .ok (.goto (-36), 3) := by decide +kernel
theorem dX12_closes_41 : decode cX12_closes 41 = .ok (.return_, 1) := by decide +kernel
theorem dX12_comes_0 : decode cX12_comes 0 = .ok (.aload_n 0, 1) := by decide +kernel
theorem dX12_comes_1 : decode cX12_comes 1 = .ok (.getfield 339, 3) := by decide +kernel
theorem dX12_comes_4 : decode cX12_comes 4 = .ok (.istore_n 2, 1) := by decide +kernel
theorem dX12_comes_5 : decode cX12_comes 5 = .ok (.iconst 0, 1) := by decide +kernel
theorem dX12_comes_6 : decode cX12_comes 6 = .ok (.istore_n 3, 1) := by decide +kernel
theorem dX12_comes_7 : decode cX12_comes 7 = .ok (.iload_n 3, 1) := by decide +kernel
theorem dX12_comes_8 : decode cX12_comes 8 = .ok (.aload_n 0, 1) := by decide +kernel
theorem dX12_comes_9 : decode cX12_comes 9 = .ok (.getfield 258, 3) := by decide +kernel
theorem dX12_comes_12 : decode cX12_comes 12 = .ok (.if_icmp .ge 36, 3) := by decide +kernel
theorem dX12_comes_15 : decode cX12_comes 15 = .ok (.aload_n 0, 1) := by decide +kernel
theorem dX12_comes_16 : decode cX12_comes 16 = .ok (.getfield 121, 3) := by decide +kernel
theorem dX12_comes_19 : decode cX12_comes 19 = .ok (.iload_n 3, 1) := by decide +kernel
theorem dX12_comes_20 : decode cX12_comes 20 = .ok (.iaload, 1) := by decide +kernel
theorem dX12_comes_21 : decode cX12_comes 21 = .ok (.iconst (-1), 1) := by decide +kernel
theorem dX12_comes_22 : decode cX12_comes 22 = .ok (.if_icmp .ne 20, 3) := by decide +kernel
theorem dX12_comes_25 : decode cX12_comes 25 = .ok (.aload_n 0, 1) := by decide +kernel
theorem dX12_comes_26 : decode cX12_comes 26 = .ok (.getfield 121, 3) := by decide +kernel
theorem dX12_comes_29 : decode cX12_comes 29 = .ok (.iload_n 3, 1) := by decide +kernel
theorem dX12_comes_30 : decode cX12_comes 30 = .ok (.aload_n 0, 1) := by decide +kernel
theorem dX12_comes_31 : decode cX12_comes 31 = .ok (.aload_n 0, 1) := by decide +kernel
theorem dX12_comes_32 : decode cX12_comes 32 = .ok (.getfield 65, 3) := by decide +kernel
theorem dX12_comes_35 : decode cX12_comes 35 = .ok (.iload_n 3, 1) := by decide +kernel
theorem dX12_comes_36 : decode cX12_comes 36 = .ok (.iaload, 1) := by decide +kernel
theorem dX12_comes_37 : decode cX12_comes 37 = .ok (.iload_n 2, 1) := by decide +kernel
theorem dX12_comes_38 : decode cX12_comes 38 = .ok (.invokevirtual 342, 3) := by decide +kernel
theorem dX12_comes_41 : decode cX12_comes 41 = .ok (.iastore, 1) := by decide +kernel
theorem dX12_comes_42 : decode cX12_comes 42 = .ok (.iinc 3 1, 3) := by decide +kernel
theorem dX12_comes_45 : decode cX12_comes 45 = .ok (.goto (-38), 3) := by decide +kernel
theorem dX12_comes_48 : decode cX12_comes 48 = .ok (.iconst 0, 1) := by decide +kernel
theorem dX12_comes_49 : decode cX12_comes 49 = .ok (.istore_n 3, 1) := by decide +kernel
theorem dX12_comes_50 : decode cX12_comes 50 = .ok (.iload_n 3, 1) := by decide +kernel
theorem dX12_comes_51 : decode cX12_comes 51 = .ok (.aload_n 0, 1) := by decide +kernel
theorem dX12_comes_52 : decode cX12_comes 52 = .ok (.getfield 258, 3) := by decide +kernel
theorem dX12_comes_55 : decode cX12_comes 55 = .ok (.if_icmp .ge 95, 3) := by decide +kernel
theorem dX12_comes_58 : decode cX12_comes 58 = .ok (.aload_n 0, 1) := by decide +kernel
theorem dX12_comes_59 : decode cX12_comes 59 = .ok (.getfield 121, 3) := by decide +kernel
theorem dX12_comes_62 : decode cX12_comes 62 = .ok (.iload_n 3, 1) := by decide +kernel
theorem dX12_comes_63 : decode cX12_comes 63 = .ok (.iaload, 1) := by decide +kernel
theorem dX12_comes_64 : decode cX12_comes 64 = .ok (.istore 4, 2) := by decide +kernel
theorem dX12_comes_66 : decode cX12_comes 66 = .ok (.aload_n 0, 1) := by decide +kernel
theorem dX12_comes_67 : decode cX12_comes 67 = .ok (.getfield 45, 3) := by decide +kernel
theorem dX12_comes_70 : decode cX12_comes 70 = .ok (.iload_n 2, 1) := by decide +kernel
theorem dX12_comes_71 : decode cX12_comes 71 = .ok (.aaload, 1) := by decide +kernel
theorem dX12_comes_72 : decode cX12_comes 72 = .ok (.iload 4, 2) := by decide +kernel
theorem dX12_comes_74 : decode cX12_comes 74 = .ok (.iconst 1, 1) := by decide +kernel
theorem dX12_comes_75 : decode cX12_comes 75 = .ok (.bastore, 1) := by decide +kernel
theorem dX12_comes_76 : decode cX12_comes 76 = .ok (.aload_n 0, 1) := by decide +kernel
theorem dX12_comes_77 : decode cX12_comes 77 = .ok (.getfield 50, 3) := by decide +kernel
theorem dX12_comes_80 : decode cX12_comes 80 = .ok (.iload_n 2, 1) := by decide +kernel
theorem dX12_comes_81 : decode cX12_comes 81 = .ok (.aaload, 1) := by decide +kernel
theorem dX12_comes_82 : decode cX12_comes 82 = .ok (.iload 4, 2) := by decide +kernel
theorem dX12_comes_84 : decode cX12_comes 84 = .ok (.aload_n 0, 1) := by decide +kernel
theorem dX12_comes_85 : decode cX12_comes 85 = .ok (.getfield 50, 3) := by decide +kernel
theorem dX12_comes_88 : decode cX12_comes 88 = .ok (.bipush 15, 2) := by decide +kernel
theorem dX12_comes_90 : decode cX12_comes 90 = .ok (.aaload, 1) := by decide +kernel
theorem dX12_comes_91 : decode cX12_comes 91 = .ok (.iload_n 3, 1) := by decide +kernel
theorem dX12_comes_92 : decode cX12_comes 92 = .ok (.laload, 1) := by decide +kernel
theorem dX12_comes_93 : decode cX12_comes 93 = .ok (.lastore, 1) := by decide +kernel
theorem dX12_comes_94 : decode cX12_comes 94 = .ok (.aload_n 0, 1) := by decide +kernel
theorem dX12_comes_95 : decode cX12_comes 95 = .ok (.getfield 53, 3) := by decide +kernel
theorem dX12_comes_98 : decode cX12_comes 98 = .ok (.iload_n 2, 1) := by decide +kernel
theorem dX12_comes_99 : decode cX12_comes 99 = .ok (.aaload, 1) := by decide +kernel
theorem dX12_comes_100 : decode cX12_comes 100 = .ok (.iload 4, 2) := by decide +kernel
theorem dX12_comes_102 : decode cX12_comes 102 = .ok (.aload_n 0, 1) := by decide +kernel
theorem dX12_comes_103 : decode cX12_comes 103 = .ok (.getfield 53, 3) := by decide +kernel
theorem dX12_comes_106 : decode cX12_comes 106 = .ok (.bipush 15, 2) := by decide +kernel
theorem dX12_comes_108 : decode cX12_comes 108 = .ok (.aaload, 1) := by decide +kernel
theorem dX12_comes_109 : decode cX12_comes 109 = .ok (.iload_n 3, 1) := by decide +kernel
theorem dX12_comes_110 : decode cX12_comes 110 = .ok (.iaload, 1) := by decide +kernel
theorem dX12_comes_111 : decode cX12_comes 111 = .ok (.iconst (-1), 1) := by decide +kernel
theorem dX12_comes_112 : decode cX12_comes 112 = .ok (.if_icmp .ne 7, 3) := by decide +kernel
theorem dX12_comes_115 : decode cX12_comes 115 = .ok (.iconst (-1), 1) := by decide +kernel
theorem dX12_comes_116 : decode cX12_comes 116 = .ok (.goto 17, 3) := by decide +kernel
theorem dX12_comes_119 : decode cX12_comes 119 = .ok (.aload_n 0, 1) := by decide +kernel
theorem dX12_comes_120 : decode cX12_comes 120 = .ok (.getfield 121, 3) := by decide +kernel
theorem dX12_comes_123 : decode cX12_comes 123 = .ok (.aload_n 0, 1) := by decide +kernel
theorem dX12_comes_124 : decode cX12_comes 124 = .ok (.getfield 53, 3) := by decide +kernel
theorem dX12_comes_127 : decode cX12_comes 127 = .ok (.bipush 15, 2) := by decide +kernel
theorem dX12_comes_129 : decode cX12_comes 129 = .ok (.aaload, 1) := by decide +kernel
theorem dX12_comes_130 : decode cX12_comes 130 = .ok (.iload_n 3, 1) := by decide +kernel
theorem dX12_comes_131 : decode cX12_comes 131 = .ok (.iaload, 1) := by decide +kernel
theorem dX12_comes_132 : decode cX12_comes 132 = .ok (.iaload, 1) := by decide +kernel
theorem dX12_comes_133 : decode cX12_comes 133 = .ok (.iastore, 1) := by decide +kernel
theorem dX12_comes_134 : decode cX12_comes 134 = .ok (.aload_n 0, 1) := by decide +kernel
theorem dX12_comes_135 : decode cX12_comes 135 = .ok (.getfield 56, 3) := by decide +kernel
theorem dX12_comes_138 : decode cX12_comes 138 = .ok (.iload_n 2, 1) := by decide +kernel
theorem dX12_comes_139 : decode cX12_comes 139 = .ok (.aaload, 1) := by decide +kernel
theorem dX12_comes_140 : decode cX12_comes 140 = .ok (.iload 4, 2) := by decide +kernel
theorem dX12_comes_142 : decode cX12_comes 142 = .ok (.iload_n 3, 1) := by decide +kernel
theorem dX12_comes_143 : decode cX12_comes 143 = .ok (.iastore, 1) := by decide +kernel
theorem dX12_comes_144 : decode cX12_comes 144 = .ok (.iinc 3 1, 3) := by decide +kernel
theorem dX12_comes_147 : decode cX12_comes 147 = .ok (.goto (-97), 3) := by decide +kernel
theorem dX12_comes_150 : decode cX12_comes 150 = .ok (.aload_n 0, 1) := by decide +kernel
theorem dX12_comes_151 : decode cX12_comes 151 = .ok (.iload_n 2, 1) := by decide +kernel
theorem dX12_comes_152 : decode cX12_comes 152 = .ok (.invokevirtual 275, 3) := by decide +kernel
theorem dX12_comes_155 : decode cX12_comes 155 = .ok (.aload_n 0, 1) := by decide +kernel
theorem dX12_comes_156 : decode cX12_comes 156 = .ok (.iconst 0, 1) := by decide +kernel
theorem dX12_comes_157 : decode cX12_comes 157 = .ok (.putfield 163, 3) := by decide +kernel
theorem dX12_comes_160 : decode cX12_comes 160 = .ok (.aload_n 0, 1) := by decide +kernel
theorem dX12_comes_161 : decode cX12_comes 161 = .ok (.iload_n 1, 1) := by decide +kernel
theorem dX12_comes_162 : decode cX12_comes 162 = .ok (.iconst (-1), 1) := by decide +kernel
theorem dX12_comes_163 : decode cX12_comes 163 = .ok (.invokevirtual 345, 3) := by decide +kernel
theorem dX12_comes_166 : decode cX12_comes 166 = .ok (.ireturn, 1) := by decide +kernel
theorem dX12_copies_0 : decode cX12_copies 0 = .ok (.iconst 0, 1) := by decide +kernel
theorem dX12_copies_1 : decode cX12_copies 1 = .ok (.istore_n 3, 1) := by decide +kernel
theorem dX12_copies_2 : decode cX12_copies 2 = .ok (.iload_n 3, 1) := by decide +kernel
theorem dX12_copies_3 : decode cX12_copies 3 = .ok (.sipush 150, 3) := by decide +kernel
theorem dX12_copies_6 : decode cX12_copies 6 = .ok (.if_icmp .ge 73, 3) := by decide +kernel
theorem dX12_copies_9 : decode cX12_copies 9 = .ok (.aload_n 0, 1) := by decide +kernel
theorem dX12_copies_10 : decode cX12_copies 10 = .ok (.getfield 45, 3) := by decide +kernel
theorem dX12_copies_13 : decode cX12_copies 13 = .ok (.iload_n 2, 1) := by decide +kernel
theorem dX12_copies_14 : decode cX12_copies 14 = .ok (.aaload, 1) := by decide +kernel
theorem dX12_copies_15 : decode cX12_copies 15 = .ok (.iload_n 3, 1) := by decide +kernel
theorem dX12_copies_16 : decode cX12_copies 16 = .ok (.aload_n 0, 1) := by decide +kernel
theorem dX12_copies_17 : decode cX12_copies 17 = .ok (.getfield 45, 3) := by decide +kernel
theorem dX12_copies_20 : decode cX12_copies 20 = .ok (.iload_n 1, 1) := by decide +kernel
theorem dX12_copies_21 : decode cX12_copies 21 = .ok (.aaload, 1) := by decide +kernel
theorem dX12_copies_22 : decode cX12_copies 22 = .ok (.iload_n 3, 1) := by decide +kernel
theorem dX12_copies_23 : decode cX12_copies 23 = .ok (.baload, 1) := by decide +kernel
theorem dX12_copies_24 : decode cX12_copies 24 = .ok (.bastore, 1) := by decide +kernel
theorem dX12_copies_25 : decode cX12_copies 25 = .ok (.aload_n 0, 1) := by decide +kernel
theorem dX12_copies_26 : decode cX12_copies 26 = .ok (.getfield 50, 3) := by decide +kernel
theorem dX12_copies_29 : decode cX12_copies 29 = .ok (.iload_n 2, 1) := by decide +kernel
theorem dX12_copies_30 : decode cX12_copies 30 = .ok (.aaload, 1) := by decide +kernel
theorem dX12_copies_31 : decode cX12_copies 31 = .ok (.iload_n 3, 1) := by decide +kernel
theorem dX12_copies_32 : decode cX12_copies 32 = .ok (.aload_n 0, 1) := by decide +kernel
theorem dX12_copies_33 : decode cX12_copies 33 = .ok (.getfield 50, 3) := by decide +kernel
theorem dX12_copies_36 : decode cX12_copies 36 = .ok (.iload_n 1, 1) := by decide +kernel
theorem dX12_copies_37 : decode cX12_copies 37 = .ok (.aaload, 1) := by decide +kernel
theorem dX12_copies_38 : decode cX12_copies 38 = .ok (.iload_n 3, 1) := by decide +kernel
theorem dX12_copies_39 : decode cX12_copies 39 = .ok (.laload, 1) := by decide +kernel
theorem dX12_copies_40 : decode cX12_copies 40 = .ok (.lastore, 1) := by decide +kernel
theorem dX12_copies_41 : decode cX12_copies 41 = .ok (.aload_n 0, 1) := by decide +kernel
theorem dX12_copies_42 : decode cX12_copies 42 = .ok (.getfield 53, 3) := by decide +kernel
theorem dX12_copies_45 : decode cX12_copies 45 = .ok (.iload_n 2, 1) := by decide +kernel
theorem dX12_copies_46 : decode cX12_copies 46 = .ok (.aaload, 1) := by decide +kernel
theorem dX12_copies_47 : decode cX12_copies 47 = .ok (.iload_n 3, 1) := by decide +kernel
theorem dX12_copies_48 : decode cX12_copies 48 = .ok (.aload_n 0, 1) := by decide +kernel
theorem dX12_copies_49 : decode cX12_copies 49 = .ok (.getfield 53, 3) := by decide +kernel
theorem dX12_copies_52 : decode cX12_copies 52 = .ok (.iload_n 1, 1) := by decide +kernel
theorem dX12_copies_53 : decode cX12_copies 53 = .ok (.aaload, 1) := by decide +kernel
theorem dX12_copies_54 : decode cX12_copies 54 = .ok (.iload_n 3, 1) := by decide +kernel
theorem dX12_copies_55 : decode cX12_copies 55 = .ok (.iaload, 1) := by decide +kernel
theorem dX12_copies_56 : decode cX12_copies 56 = .ok (.iastore, 1) := by decide +kernel
theorem dX12_copies_57 : decode cX12_copies 57 = .ok (.aload_n 0, 1) := by decide +kernel
theorem dX12_copies_58 : decode cX12_copies 58 = .ok (.getfield 56, 3) := by decide +kernel
theorem dX12_copies_61 : decode cX12_copies 61 = .ok (.iload_n 2, 1) := by decide +kernel
theorem dX12_copies_62 : decode cX12_copies 62 = .ok (.aaload, 1) := by decide +kernel
theorem dX12_copies_63 : decode cX12_copies 63 = .ok (.iload_n 3, 1) := by decide +kernel
theorem dX12_copies_64 : decode cX12_copies 64 = .ok (.aload_n 0, 1) := by decide +kernel
theorem dX12_copies_65 : decode cX12_copies 65 = .ok (.getfield 56, 3) := by decide +kernel
theorem dX12_copies_68 : decode cX12_copies 68 = .ok (.iload_n 1, 1) := by decide +kernel
theorem dX12_copies_69 : decode cX12_copies 69 = .ok (.aaload, 1) := by decide +kernel
theorem dX12_copies_70 : decode cX12_copies 70 = .ok (.iload_n 3, 1) := by decide +kernel
theorem dX12_copies_71 : decode cX12_copies 71 = .ok (.iaload, 1) := by decide +kernel
theorem dX12_copies_72 : decode cX12_copies 72 = .ok (.iastore, 1) := by decide +kernel
theorem dX12_copies_73 : decode cX12_copies 73 = .ok (.iinc 3 1, 3) := by decide +kernel
theorem dX12_copies_76 : decode cX12_copies 76 = .ok (.goto (-74), 3) := by decide +kernel
theorem dX12_copies_79 : decode cX12_copies 79 = .ok (.return_, 1) := by decide +kernel
theorem dX12_costNow_0 : decode cX12_costNow 0 = .ok (.iconst 0, 1) := by decide +kernel
theorem dX12_costNow_1 : decode cX12_costNow 1 = .ok (.istore_n 2, 1) := by decide +kernel
theorem dX12_costNow_2 : decode cX12_costNow 2 = .ok (.iconst 0, 1) := by decide +kernel
theorem dX12_costNow_3 : decode cX12_costNow 3 = .ok (.istore_n 3, 1) := by decide +kernel
theorem dX12_costNow_4 : decode cX12_costNow 4 = .ok (.iconst 0, 1) := by decide +kernel
theorem dX12_costNow_5 : decode cX12_costNow 5 = .ok (.istore 4, 2) := by decide +kernel
theorem dX12_costNow_7 : decode cX12_costNow 7 = .ok (.iload 4, 2) := by decide +kernel
theorem dX12_costNow_9 : decode cX12_costNow 9 = .ok (.aload_n 0, 1) := by decide +kernel
theorem dX12_costNow_10 : decode cX12_costNow 10 = .ok (.getfield 354, 3) := by decide +kernel
theorem dX12_costNow_13 : decode cX12_costNow 13 = .ok (.if_icmp .ge 91, 3) := by decide +kernel
theorem dX12_costNow_16 : decode cX12_costNow 16 = .ok (.aload_n 0, 1) := by decide +kernel
theorem dX12_costNow_17 : decode cX12_costNow 17 = .ok (.getfield 127, 3) := by decide +kernel
theorem dX12_costNow_20 : decode cX12_costNow 20 = .ok (.iload 4, 2) := by decide +kernel
theorem dX12_costNow_22 : decode cX12_costNow 22 = .ok (.iaload, 1) := by decide +kernel
theorem dX12_costNow_23 : decode cX12_costNow 23 = .ok (.istore 5, 2) := by decide +kernel
theorem dX12_costNow_25 : decode cX12_costNow 25 = .ok (.iload 5, 2) := by decide +kernel
theorem dX12_costNow_27 : decode cX12_costNow 27 = .ok (.iconst (-1), 1) := by decide +kernel
theorem dX12_costNow_28 : decode cX12_costNow 28 = .ok (.if_icmp .ne 6, 3) := by decide +kernel
theorem dX12_costNow_31 : decode cX12_costNow 31 = .ok (.goto 67, 3) := by decide +kernel
theorem dX12_costNow_34 : decode cX12_costNow 34 = .ok (.iinc 3 1, 3) := by decide +kernel
theorem dX12_costNow_37 : decode cX12_costNow 37 = .ok (.iload_n 2, 1) := by decide +kernel
theorem dX12_costNow_38 : decode cX12_costNow 38 = .ok (.aload_n 0, 1) := by decide +kernel
theorem dX12_costNow_39 : decode cX12_costNow 39 = .ok (.getfield 50, 3) := by decide +kernel
theorem dX12_costNow_42 : decode cX12_costNow 42 = .ok (.iload_n 1, 1) := by decide +kernel
theorem dX12_costNow_43 : decode cX12_costNow 43 = .ok (.aaload, 1) := by decide +kernel
theorem dX12_costNow_44 : decode cX12_costNow 44 = .ok (.aload_n 0, 1) := by decide +kernel
theorem dX12_costNow_45 : decode cX12_costNow 45 = .ok (.getfield 124, 3) := by decide +kernel
theorem dX12_costNow_48 : decode cX12_costNow 48 = .ok (.iload 4, 2) := by decide +kernel
theorem dX12_costNow_50 : decode cX12_costNow 50 = .ok (.iaload, 1) := by decide +kernel
theorem dX12_costNow_51 : decode cX12_costNow 51 = .ok (.laload, 1) := by decide +kernel
theorem dX12_costNow_52 : decode cX12_costNow 52 = .ok (.aload_n 0, 1) := by decide +kernel
theorem dX12_costNow_53 : decode cX12_costNow 53 = .ok (.getfield 50, 3) := by decide +kernel
theorem dX12_costNow_56 : decode cX12_costNow 56 = .ok (.bipush 15, 2) := by decide +kernel
theorem dX12_costNow_58 : decode cX12_costNow 58 = .ok (.aaload, 1) := by decide +kernel
theorem dX12_costNow_59 : decode cX12_costNow 59 = .ok (.iload 5, 2) := by decide +kernel
theorem dX12_costNow_61 : decode cX12_costNow 61 = .ok (.laload, 1) := by decide +kernel
theorem dX12_costNow_62 : decode cX12_costNow 62 = .ok (.lcmp, 1) := by decide +kernel
theorem dX12_costNow_63 : decode cX12_costNow 63 = .ok (.ifCond .ne 7, 3) := by decide +kernel
theorem dX12_costNow_66 : decode cX12_costNow 66 = .ok (.iconst 0, 1) := by decide +kernel
theorem dX12_costNow_67 : decode cX12_costNow 67 = .ok (.goto 4, 3) := by decide +kernel
theorem dX12_costNow_70 : decode cX12_costNow 70 = .ok (.iconst 1, 1) := by decide +kernel
theorem dX12_costNow_71 : decode cX12_costNow 71 = .ok (.iadd, 1) := by decide +kernel
theorem dX12_costNow_72 : decode cX12_costNow 72 = .ok (.istore_n 2, 1) := by decide +kernel
theorem dX12_costNow_73 : decode cX12_costNow 73 = .ok (.iload_n 2, 1) := by decide +kernel
theorem dX12_costNow_74 : decode cX12_costNow 74 = .ok (.iload 4, 2) := by decide +kernel
theorem dX12_costNow_76 : decode cX12_costNow 76 = .ok (.ifCond .eq 15, 3) := by decide +kernel
theorem dX12_costNow_79 : decode cX12_costNow 79 = .ok (.aload_n 0, 1) := by decide +kernel
theorem dX12_costNow_80 : decode cX12_costNow 80 = .ok (.iload_n 1, 1) := by decide +kernel
theorem dX12_costNow_81 : decode cX12_costNow 81 = .ok (.iload 4, 2) := by decide +kernel
theorem dX12_costNow_83 : decode cX12_costNow 83 = .ok (.iload 5, 2) := by decide +kernel
theorem dX12_costNow_85 : decode cX12_costNow 85 = .ok (.invokevirtual 360, 3) := by decide +kernel
theorem dX12_costNow_88 : decode cX12_costNow 88 = .ok (.ifCond .eq 7, 3) := by decide +kernel
theorem dX12_costNow_91 : decode cX12_costNow 91 = .ok (.iconst 0, 1) := by decide +kernel
theorem dX12_costNow_92 : decode cX12_costNow 92 = .ok (.goto 4, 3) := by decide +kernel
theorem dX12_costNow_95 : decode cX12_costNow 95 = .ok (.iconst 1, 1) := by decide +kernel
theorem dX12_costNow_96 : decode cX12_costNow 96 = .ok (.iadd, 1) := by decide +kernel
theorem dX12_costNow_97 : decode cX12_costNow 97 = .ok (.istore_n 2, 1) := by decide +kernel
theorem dX12_costNow_98 : decode cX12_costNow 98 = .ok (.iinc 4 1, 3) := by decide +kernel
theorem dX12_costNow_101 : decode cX12_costNow 101 = .ok (.goto (-94), 3) := by decide +kernel
theorem dX12_costNow_104 : decode cX12_costNow 104 = .ok (.iload_n 2, 1) := by decide +kernel
theorem dX12_costNow_105 : decode cX12_costNow 105 = .ok (.iconst 2, 1) := by decide +kernel
theorem dX12_costNow_106 : decode cX12_costNow 106 = .ok (.aload_n 0, 1) := by decide +kernel
theorem dX12_costNow_107 : decode cX12_costNow 107 = .ok (.getfield 354, 3) := by decide +kernel
theorem dX12_costNow_110 : decode cX12_costNow 110 = .ok (.iload_n 3, 1) := by decide +kernel
theorem dX12_costNow_111 : decode cX12_costNow 111 = .ok (.isub, 1) := by decide +kernel
theorem dX12_costNow_112 : decode cX12_costNow 112 = .ok (.imul, 1) := by decide +kernel
theorem dX12_costNow_113 : decode cX12_costNow 113 = .ok (.iadd, 1) := by decide +kernel
theorem dX12_costNow_114 : decode cX12_costNow 114 = .ok (.iconst 2, 1) := by decide +kernel
theorem dX12_costNow_115 : decode cX12_costNow 115 = .ok (.aload_n 0, 1) := by decide +kernel
theorem dX12_costNow_116 : decode cX12_costNow 116 = .ok (.getfield 258, 3) := by decide +kernel
theorem dX12_costNow_119 : decode cX12_costNow 119 = .ok (.iload_n 3, 1) := by decide +kernel
theorem dX12_costNow_120 : decode cX12_costNow 120 = .ok (.isub, 1) := by decide +kernel
theorem dX12_costNow_121 : decode cX12_costNow 121 = .ok (.imul, 1) := by decide +kernel
theorem dX12_costNow_122 : decode cX12_costNow 122 = .ok (.iadd, 1) := by decide +kernel
theorem dX12_costNow_123 : decode cX12_costNow 123 = .ok (.ireturn, 1) := by decide +kernel
theorem dX12_count_0 : decode cX12_count 0 = .ok (.iload_n 1, 1) := by decide +kernel
theorem dX12_count_1 : decode cX12_count 1 = .ok (.tableswitch 77 0 5 #[39, 44, 49, 54, 59, 72], 39) := by decide +kernel
theorem dX12_count_40 : decode cX12_count 40 = .ok (.aload_n 0, 1) := by decide +kernel
theorem dX12_count_41 : decode cX12_count 41 = .ok (.getfield 251, 3) := by decide +kernel
theorem dX12_count_44 : decode cX12_count 44 = .ok (.ireturn, 1) := by decide +kernel
theorem dX12_count_45 : decode cX12_count 45 = .ok (.aload_n 0, 1) := by decide +kernel
theorem dX12_count_46 : decode cX12_count 46 = .ok (.getfield 339, 3) := by decide +kernel
theorem dX12_count_49 : decode cX12_count 49 = .ok (.ireturn, 1) := by decide +kernel
theorem dX12_count_50 : decode cX12_count 50 = .ok (.aload_n 0, 1) := by decide +kernel
theorem dX12_count_51 : decode cX12_count 51 = .ok (.getfield 336, 3) := by decide +kernel
theorem dX12_count_54 : decode cX12_count 54 = .ok (.ireturn, 1) := by decide +kernel
theorem dX12_count_55 : decode cX12_count 55 = .ok (.aload_n 0, 1) := by decide +kernel
theorem dX12_count_56 : decode cX12_count 56 = .ok (.getfield 163, 3) := by decide +kernel
theorem dX12_count_59 : decode cX12_count 59 = .ok (.ireturn, 1) := by decide +kernel
theorem dX12_count_60 : decode cX12_count 60 = .ok (.aload_n 0, 1) := by decide +kernel
theorem dX12_count_61 : decode cX12_count 61 = .ok (.getfield 407, 3) := by decide +kernel
theorem dX12_count_64 : decode cX12_count 64 = .ok (.ifCond .eq 7, 3) := by decide +kernel
theorem dX12_count_67 : decode cX12_count 67 = .ok (.iconst 1, 1) := by decide +kernel
theorem dX12_count_68 : decode cX12_count 68 = .ok (.goto 4, 3) := by decide +kernel
theorem dX12_count_71 : decode cX12_count 71 = .ok (.iconst 0, 1) := by decide +kernel
theorem dX12_count_72 : decode cX12_count 72 = .ok (.ireturn, 1) := by decide +kernel
theorem dX12_count_73 : decode cX12_count 73 = .ok (.aload_n 0, 1) := by decide +kernel
theorem dX12_count_74 : decode cX12_count 74 = .ok (.getfield 447, 3) := by decide +kernel
theorem dX12_count_77 : decode cX12_count 77 = .ok (.ireturn, 1) := by decide +kernel
theorem dX12_count_78 : decode cX12_count 78 = .ok (.iconst (-1), 1) := by decide +kernel
theorem dX12_count_79 : decode cX12_count 79 = .ok (.ireturn, 1) := by decide +kernel
theorem dX12_deepOf_0 : decode cX12_deepOf 0 = .ok (.iconst 0, 1) := by decide +kernel
theorem dX12_deepOf_1 : decode cX12_deepOf 1 = .ok (.istore_n 3, 1) := by decide +kernel
theorem dX12_deepOf_2 : decode cX12_deepOf 2 = .ok (.iload_n 2, 1) := by decide +kernel
theorem dX12_deepOf_3 : decode cX12_deepOf 3 = .ok (.istore 4, 2) := by decide +kernel
theorem dX12_deepOf_5 : decode cX12_deepOf 5 = .ok (.iload 4, 2) := by decide +kernel
theorem dX12_deepOf_7 : decode cX12_deepOf 7 = .ok (.iconst (-1), 1) := by decide +kernel
theorem dX12_deepOf_8 : decode cX12_deepOf 8 = .ok (.if_icmp .eq 20, 3) := by decide +kernel
theorem dX12_deepOf_11 : decode cX12_deepOf 11 = .ok (.iinc 3 1, 3) := by decide +kernel
theorem dX12_deepOf_14 : decode cX12_deepOf 14 = .ok (.aload_n 0, 1) := by decide +kernel
theorem dX12_deepOf_15 : decode cX12_deepOf 15 = .ok (.getfield 53, 3) := by decide +kernel
theorem dX12_deepOf_18 : decode cX12_deepOf 18 = .ok (.iload_n 1, 1) := by decide +kernel
theorem dX12_deepOf_19 : decode cX12_deepOf 19 = .ok (.aaload, 1) := by decide +kernel
theorem dX12_deepOf_20 : decode cX12_deepOf 20 = .ok (.iload 4, 2) := by decide +kernel
theorem dX12_deepOf_22 : decode cX12_deepOf 22 = .ok (.iaload, 1) := by decide +kernel
theorem dX12_deepOf_23 : decode cX12_deepOf 23 = .ok (.istore 4, 2) := by decide +kernel
theorem dX12_deepOf_25 : decode cX12_deepOf 25 = .ok (.goto (-20), 3) := by decide +kernel
theorem dX12_deepOf_28 : decode cX12_deepOf 28 = .ok (.iload_n 3, 1) := by decide +kernel
theorem dX12_deepOf_29 : decode cX12_deepOf 29 = .ok (.ireturn, 1) := by decide +kernel
theorem dX12_drop_0 : decode cX12_drop 0 = .ok (.aload_n 0, 1) := by decide +kernel
theorem dX12_drop_1 : decode cX12_drop 1 = .ok (.getfield 407, 3) := by decide +kernel
theorem dX12_drop_4 : decode cX12_drop 4 = .ok (.ifCond .ne 5, 3) := by decide +kernel
theorem dX12_drop_7 : decode cX12_drop 7 = .ok (.iconst 0, 1) := by decide +kernel
theorem dX12_drop_8 : decode cX12_drop 8 = .ok (.ireturn, 1) := by decide +kernel
theorem dX12_drop_9 : decode cX12_drop 9 = .ok (.aload_n 0, 1) := by decide +kernel
theorem dX12_drop_10 : decode cX12_drop 10 = .ok (.iconst 0, 1) := by decide +kernel
theorem dX12_drop_11 : decode cX12_drop 11 = .ok (.putfield 407, 3) := by decide +kernel
theorem dX12_drop_14 : decode cX12_drop 14 = .ok (.aload_n 0, 1) := by decide +kernel
theorem dX12_drop_15 : decode cX12_drop 15 = .ok (.iconst (-1), 1) := by decide +kernel
theorem dX12_drop_16 : decode cX12_drop 16 = .ok (.invokevirtual 417, 3) := by decide +kernel
theorem dX12_drop_19 : decode cX12_drop 19 = .ok (.iconst 1, 1) := by decide +kernel
theorem dX12_drop_20 : decode cX12_drop 20 = .ok (.ireturn, 1) := by decide +kernel
theorem dX12_edition_0 : decode cX12_edition 0 = .ok (.aload_n 0, 1) := by decide +kernel
theorem dX12_edition_1 : decode cX12_edition 1 = .ok (.getfield 72, 3) := by decide +kernel
theorem dX12_edition_4 : decode cX12_edition 4 = .ok (.aload_n 0, 1) := by decide +kernel
theorem dX12_edition_5 : decode cX12_edition 5 = .ok (.getfield 339, 3) := by decide +kernel
theorem dX12_edition_8 : decode cX12_edition 8 = .ok (.iload_n 1, 1) := by decide +kernel
theorem dX12_edition_9 : decode cX12_edition 9 = .ok (.iastore, 1) := by decide +kernel
theorem dX12_edition_10 : decode cX12_edition 10 = .ok (.aload_n 0, 1) := by decide +kernel
theorem dX12_edition_11 : decode cX12_edition 11 = .ok (.getfield 75, 3) := by decide +kernel
theorem dX12_edition_14 : decode cX12_edition 14 = .ok (.aload_n 0, 1) := by decide +kernel
theorem dX12_edition_15 : decode cX12_edition 15 = .ok (.getfield 339, 3) := by decide +kernel
theorem dX12_edition_18 : decode cX12_edition 18 = .ok (.iload_n 2, 1) := by decide +kernel
theorem dX12_edition_19 : decode cX12_edition 19 = .ok (.iastore, 1) := by decide +kernel
theorem dX12_edition_20 : decode cX12_edition 20 = .ok (.aload_n 0, 1) := by decide +kernel
theorem dX12_edition_21 : decode cX12_edition 21 = .ok (.dup, 1) := by decide +kernel
theorem dX12_edition_22 : decode cX12_edition 22 = .ok (.getfield 339, 3) := by decide +kernel
theorem dX12_edition_25 : decode cX12_edition 25 = .ok (.iconst 1, 1) := by decide +kernel
theorem dX12_edition_26 : decode cX12_edition 26 = .ok (.iadd, 1) := by decide +kernel
theorem dX12_edition_27 : decode cX12_edition 27 = .ok (.putfield 339, 3) := by decide +kernel
theorem dX12_edition_30 : decode cX12_edition 30 = .ok (.aload_n 0, 1) := by decide +kernel
theorem dX12_edition_31 : decode cX12_edition 31 = .ok (.getfield 339, 3) := by decide +kernel
theorem dX12_edition_34 : decode cX12_edition 34 = .ok (.iconst 1, 1) := by decide +kernel
theorem dX12_edition_35 : decode cX12_edition 35 = .ok (.isub, 1) := by decide +kernel
theorem dX12_edition_36 : decode cX12_edition 36 = .ok (.ireturn, 1) := by decide +kernel
theorem dX12_end_0 : decode cX12_end 0 = .ok (.iload_n 1, 1) := by decide +kernel
theorem dX12_end_1 : decode cX12_end 1 = .ok (.i2l, 1) := by decide +kernel
theorem dX12_end_2 : decode cX12_end 2 = .ok (.lconst 0, 1) := by decide +kernel
theorem dX12_end_3 : decode cX12_end 3 = .ok (.aload_n 0, 1) := by decide +kernel
theorem dX12_end_4 : decode cX12_end 4 = .ok (.getfield 163, 3) := by decide +kernel
theorem dX12_end_7 : decode cX12_end 7 = .ok (.i2l, 1) := by decide +kernel
theorem dX12_end_8 : decode cX12_end 8 = .ok (.invokestatic 171, 3) := by decide +kernel
theorem dX12_end_11 : decode cX12_end 11 = .ok (.ifCond .ne 5, 3) := by decide +kernel
theorem dX12_end_14 : decode cX12_end 14 = .ok (.iconst 0, 1) := by decide +kernel
theorem dX12_end_15 : decode cX12_end 15 = .ok (.ireturn, 1) := by decide +kernel
theorem dX12_end_16 : decode cX12_end 16 = .ok (.aload_n 0, 1) := by decide +kernel
theorem dX12_end_17 : decode cX12_end 17 = .ok (.iload_n 1, 1) := by decide +kernel
theorem dX12_end_18 : decode cX12_end 18 = .ok (.putfield 163, 3) := by decide +kernel
theorem dX12_end_21 : decode cX12_end 21 = .ok (.iconst 1, 1) := by decide +kernel
theorem dX12_end_22 : decode cX12_end 22 = .ok (.ireturn, 1) := by decide +kernel
theorem dX12_fails_0 : decode cX12_fails 0 = .ok (.aload_n 0, 1) := by decide +kernel
theorem dX12_fails_1 : decode cX12_fails 1 = .ok (.getfield 193, 3) := by decide +kernel
theorem dX12_fails_4 : decode cX12_fails 4 = .ok (.iconst (-1), 1) := by decide +kernel
theorem dX12_fails_5 : decode cX12_fails 5 = .ok (.if_icmp .ne 11, 3) := by decide +kernel
theorem dX12_fails_8 : decode cX12_fails 8 = .ok (.aload_n 0, 1) := by decide +kernel
theorem dX12_fails_9 : decode cX12_fails 9 = .ok (.aload_n 0, 1) := by decide +kernel
theorem dX12_fails_10 : decode cX12_fails 10 = .ok (.getfield 179, 3) := by decide +kernel
theorem dX12_fails_13 : decode cX12_fails 13 = .ok (.putfield 193, 3) := by decide +kernel
theorem dX12_fails_16 : decode cX12_fails 16 = .ok (.iconst 0, 1) := by decide +kernel
theorem dX12_fails_17 : decode cX12_fails 17 = .ok (.ireturn, 1) := by decide +kernel
theorem dX12_fault_0 : decode cX12_fault 0 = .ok (.iload_n 1, 1) := by decide +kernel
theorem dX12_fault_1 : decode cX12_fault 1 = .ok (.ifCond .eq 10, 3) := by decide +kernel
theorem dX12_fault_4 : decode cX12_fault 4 = .ok (.aload_n 0, 1) := by decide +kernel
theorem dX12_fault_5 : decode cX12_fault 5 = .ok (.invokevirtual 282, 3) := by decide +kernel
theorem dX12_fault_8 : decode cX12_fault 8 = .ok (.goto 7, 3) := by decide +kernel
theorem dX12_fault_11 : decode cX12_fault 11 = .ok (.aload_n 0, 1) := by decide +kernel
theorem dX12_fault_12 : decode cX12_fault 12 = .ok (.invokevirtual 285, 3) := by decide +kernel
theorem dX12_fault_15 : decode cX12_fault 15 = .ok (.aload_n 0, 1) := by decide +kernel
theorem dX12_fault_16 : decode cX12_fault 16 = .ok (.getfield 193, 3) := by decide +kernel
theorem dX12_fault_19 : decode cX12_fault 19 = .ok (.ireturn, 1) := by decide +kernel
theorem dX12_feed_0 : decode cX12_feed 0 = .ok (.aload_n 0, 1) := by decide +kernel
theorem dX12_feed_1 : decode cX12_feed 1 = .ok (.getfield 163, 3) := by decide +kernel
theorem dX12_feed_4 : decode cX12_feed 4 = .ok (.bipush 20, 2) := by decide +kernel
theorem dX12_feed_6 : decode cX12_feed 6 = .ok (.iadd, 1) := by decide +kernel
theorem dX12_feed_7 : decode cX12_feed 7 = .ok (.sipush 500, 3) := by decide +kernel
theorem dX12_feed_10 : decode cX12_feed 10 = .ok (.if_icmp .le 5, 3) := by decide +kernel
theorem dX12_feed_13 : decode cX12_feed 13 = .ok (.iconst (-1), 1) := by decide +kernel
theorem dX12_feed_14 : decode cX12_feed 14 = .ok (.ireturn, 1) := by decide +kernel
theorem dX12_feed_15 : decode cX12_feed 15 = .ok (.aload_n 0, 1) := by decide +kernel
theorem dX12_feed_16 : decode cX12_feed 16 = .ok (.iload_n 1, 1) := by decide +kernel
theorem dX12_feed_17 : decode cX12_feed 17 = .ok (.invokevirtual 167, 3) := by decide +kernel
theorem dX12_feed_20 : decode cX12_feed 20 = .ok (.aload_n 0, 1) := by decide +kernel
theorem dX12_feed_21 : decode cX12_feed 21 = .ok (.iload_n 2, 1) := by decide +kernel
theorem dX12_feed_22 : decode cX12_feed 22 = .ok (.invokevirtual 167, 3) := by decide +kernel
theorem dX12_feed_25 : decode cX12_feed 25 = .ok (.aload_n 0, 1) := by decide +kernel
theorem dX12_feed_26 : decode cX12_feed 26 = .ok (.iload_n 3, 1) := by decide +kernel
theorem dX12_feed_27 : decode cX12_feed 27 = .ok (.invokevirtual 167, 3) := by decide +kernel
theorem dX12_feed_30 : decode cX12_feed 30 = .ok (.aload_n 0, 1) := by decide +kernel
theorem dX12_feed_31 : decode cX12_feed 31 = .ok (.iload 4, 2) := by decide +kernel
theorem dX12_feed_33 : decode cX12_feed 33 = .ok (.invokevirtual 167, 3) := by decide +kernel
theorem dX12_feed_36 : decode cX12_feed 36 = .ok (.aload_n 0, 1) := by decide +kernel
theorem dX12_feed_37 : decode cX12_feed 37 = .ok (.iload 5, 2) := by decide +kernel
theorem dX12_feed_39 : decode cX12_feed 39 = .ok (.invokevirtual 167, 3) := by decide +kernel
theorem dX12_feed_42 : decode cX12_feed 42 = .ok (.aload_n 0, 1) := by decide +kernel
theorem dX12_feed_43 : decode cX12_feed 43 = .ok (.getfield 163, 3) := by decide +kernel
theorem dX12_feed_46 : decode cX12_feed 46 = .ok (.ireturn, 1) := by decide +kernel
theorem dX12_feeds_0 : decode cX12_feeds 0 = .ok (.iconst 3, 1) := by decide +kernel
theorem dX12_feeds_1 : decode cX12_feeds 1 = .ok (.istore_n 2, 1) := by decide +kernel
theorem dX12_feeds_2 : decode cX12_feeds 2 = .ok (.iload_n 2, 1) := by decide +kernel
theorem dX12_feeds_3 : decode cX12_feeds 3 = .ok (.ifCond .lt 35, 3) := by decide +kernel
theorem dX12_feeds_6 : decode cX12_feeds 6 = .ok (.aload_n 0, 1) := by decide +kernel
theorem dX12_feeds_7 : decode cX12_feeds 7 = .ok (.getfield 9, 3) := by decide +kernel
theorem dX12_feeds_10 : decode cX12_feeds 10 = .ok (.aload_n 0, 1) := by decide +kernel
theorem dX12_feeds_11 : decode cX12_feeds 11 = .ok (.getfield 163, 3) := by decide +kernel
theorem dX12_feeds_14 : decode cX12_feeds 14 = .ok (.iload_n 1, 1) := by decide +kernel
theorem dX12_feeds_15 : decode cX12_feeds 15 = .ok (.bipush 8, 2) := by decide +kernel
theorem dX12_feeds_17 : decode cX12_feeds 17 = .ok (.iload_n 2, 1) := by decide +kernel
theorem dX12_feeds_18 : decode cX12_feeds 18 = .ok (.imul, 1) := by decide +kernel
theorem dX12_feeds_19 : decode cX12_feeds 19 = .ok (.iushr, 1) := by decide +kernel
theorem dX12_feeds_20 : decode cX12_feeds 20 = .ok (.i2b, 1) := by decide +kernel
theorem dX12_feeds_21 : decode cX12_feeds 21 = .ok (.bastore, 1) := by decide +kernel
theorem dX12_feeds_22 : decode cX12_feeds 22 = .ok (.aload_n 0, 1) := by decide +kernel
theorem dX12_feeds_23 : decode cX12_feeds 23 = .ok (.dup, 1) := by decide +kernel
theorem dX12_feeds_24 : decode cX12_feeds 24 = .ok (.getfield 163, 3) := by decide +kernel
theorem dX12_feeds_27 : decode cX12_feeds 27 = .ok (.iconst 1, 1) := by decide +kernel
theorem dX12_feeds_28 : decode cX12_feeds 28 = .ok (.iadd, 1) := by decide +kernel
theorem dX12_feeds_29 : decode cX12_feeds 29 = .ok (.putfield 163, 3) := by decide +kernel
theorem dX12_feeds_32 : decode cX12_feeds 32 = .ok (.iinc 2 (-1), 3) := by decide +kernel
theorem dX12_feeds_35 : decode cX12_feeds 35 = .ok (.goto (-33), 3) := by decide +kernel
theorem dX12_feeds_38 : decode cX12_feeds 38 = .ok (.return_, 1) := by decide +kernel
theorem dX12_first_0 : decode cX12_first 0 = .ok (.aload_n 0, 1) := by decide +kernel
theorem dX12_first_1 : decode cX12_first 1 = .ok (.invokevirtual 348, 3) := by decide +kernel
theorem dX12_first_4 : decode cX12_first 4 = .ok (.ifCond .eq 18, 3) := by decide +kernel
theorem dX12_first_7 : decode cX12_first 7 = .ok (.aload_n 0, 1) := by decide +kernel
theorem dX12_first_8 : decode cX12_first 8 = .ok (.getfield 336, 3) := by decide +kernel
theorem dX12_first_11 : decode cX12_first 11 = .ok (.aload_n 0, 1) := by decide +kernel
theorem dX12_first_12 : decode cX12_first 12 = .ok (.getfield 258, 3) := by decide +kernel
theorem dX12_first_15 : decode cX12_first 15 = .ok (.iadd, 1) := by decide +kernel
theorem dX12_first_16 : decode cX12_first 16 = .ok (.sipush 150, 3) := by decide +kernel
theorem dX12_first_19 : decode cX12_first 19 = .ok (.if_icmp .le 5, 3) := by decide +kernel
theorem dX12_first_22 : decode cX12_first 22 = .ok (.iconst (-1), 1) := by decide +kernel
theorem dX12_first_23 : decode cX12_first 23 = .ok (.ireturn, 1) := by decide +kernel
theorem dX12_first_24 : decode cX12_first 24 = .ok (.iconst 0, 1) := by decide +kernel
theorem dX12_first_25 : decode cX12_first 25 = .ok (.istore_n 1, 1) := by decide +kernel
theorem dX12_first_26 : decode cX12_first 26 = .ok (.iload_n 1, 1) := by decide +kernel
theorem dX12_first_27 : decode cX12_first 27 = .ok (.aload_n 0, 1) := by decide +kernel
theorem dX12_first_28 : decode cX12_first 28 = .ok (.getfield 258, 3) := by decide +kernel
theorem dX12_first_31 : decode cX12_first 31 = .ok (.if_icmp .ge 16, 3) := by decide +kernel
theorem dX12_first_34 : decode cX12_first 34 = .ok (.aload_n 0, 1) := by decide +kernel
theorem dX12_first_35 : decode cX12_first 35 = .ok (.getfield 121, 3) := by decide +kernel
theorem dX12_first_38 : decode cX12_first 38 = .ok (.iload_n 1, 1) := by decide +kernel
theorem dX12_first_39 : decode cX12_first 39 = .ok (.iconst (-1), 1) := by decide +kernel
theorem dX12_first_40 : decode cX12_first 40 = .ok (.iastore, 1) := by decide +kernel
theorem dX12_first_41 : decode cX12_first 41 = .ok (.iinc 1 1, 3) := by decide +kernel
theorem dX12_first_44 : decode cX12_first 44 = .ok (.goto (-18), 3) := by decide +kernel
theorem dX12_first_47 : decode cX12_first 47 = .ok (.aload_n 0, 1) := by decide +kernel
theorem dX12_first_48 : decode cX12_first 48 = .ok (.iconst (-1), 1) := by decide +kernel
theorem dX12_first_49 : decode cX12_first 49 = .ok (.invokevirtual 351, 3) := by decide +kernel
theorem dX12_first_52 : decode cX12_first 52 = .ok (.ireturn, 1) := by decide +kernel
theorem dX12_firstBreak_0 : decode cX12_firstBreak 0 = .ok (.aload_n 0, 1) := by decide +kernel
theorem dX12_firstBreak_1 : decode cX12_firstBreak 1 = .ok (.iload_n 1, 1) := by decide +kernel
theorem dX12_firstBreak_2 : decode cX12_firstBreak 2 = .ok (.invokevirtual 324, 3) := by decide +kernel
theorem dX12_firstBreak_5 : decode cX12_firstBreak 5 = .ok (.istore_n 2, 1) := by decide +kernel
theorem dX12_firstBreak_6 : decode cX12_firstBreak 6 = .ok (.iload_n 2, 1) := by decide +kernel
theorem dX12_firstBreak_7 : decode cX12_firstBreak 7 = .ok (.istore_n 3, 1) := by decide +kernel
theorem dX12_firstBreak_8 : decode cX12_firstBreak 8 = .ok (.iload_n 3, 1) := by decide +kernel
theorem dX12_firstBreak_9 : decode cX12_firstBreak 9 = .ok (.iconst (-1), 1) := by decide +kernel
theorem dX12_firstBreak_10 : decode cX12_firstBreak 10 = .ok (.if_icmp .eq 48, 3) := by decide +kernel
theorem dX12_firstBreak_13 : decode cX12_firstBreak 13 = .ok (.iload_n 3, 1) := by decide +kernel
theorem dX12_firstBreak_14 : decode cX12_firstBreak 14 = .ok (.iload_n 2, 1) := by decide +kernel
theorem dX12_firstBreak_15 : decode cX12_firstBreak 15 = .ok (.if_icmp .ne 12, 3) := by decide +kernel
theorem dX12_firstBreak_18 : decode cX12_firstBreak 18 = .ok (.aload_n 0, 1) := by decide +kernel
theorem dX12_firstBreak_19 : decode cX12_firstBreak 19 = .ok (.iload_n 1, 1) := by decide +kernel
theorem dX12_firstBreak_20 : decode cX12_firstBreak 20 = .ok (.iload_n 3, 1) := by decide +kernel
theorem dX12_firstBreak_21 : decode cX12_firstBreak 21 = .ok (.invokevirtual 301, 3) := by decide +kernel
theorem dX12_firstBreak_24 : decode cX12_firstBreak 24 = .ok (.ifCond .ne 21, 3) := by decide +kernel
theorem dX12_firstBreak_27 : decode cX12_firstBreak 27 = .ok (.aload_n 0, 1) := by decide +kernel
theorem dX12_firstBreak_28 : decode cX12_firstBreak 28 = .ok (.iload_n 1, 1) := by decide +kernel
theorem dX12_firstBreak_29 : decode cX12_firstBreak 29 = .ok (.iload_n 3, 1) := by decide +kernel
theorem dX12_firstBreak_30 : decode cX12_firstBreak 30 = .ok (.invokevirtual 327, 3) := by decide +kernel
theorem dX12_firstBreak_33 : decode cX12_firstBreak 33 = .ok (.ifCond .eq 12, 3) := by decide +kernel
theorem dX12_firstBreak_36 : decode cX12_firstBreak 36 = .ok (.aload_n 0, 1) := by decide +kernel
theorem dX12_firstBreak_37 : decode cX12_firstBreak 37 = .ok (.iload_n 1, 1) := by decide +kernel
theorem dX12_firstBreak_38 : decode cX12_firstBreak 38 = .ok (.iload_n 3, 1) := by decide +kernel
theorem dX12_firstBreak_39 : decode cX12_firstBreak 39 = .ok (.invokevirtual 330, 3) := by decide +kernel
theorem dX12_firstBreak_42 : decode cX12_firstBreak 42 = .ok (.ifCond .eq 5, 3) := by decide +kernel
theorem dX12_firstBreak_45 : decode cX12_firstBreak 45 = .ok (.iload_n 3, 1) := by decide +kernel
theorem dX12_firstBreak_46 : decode cX12_firstBreak 46 = .ok (.ireturn, 1) := by decide +kernel
theorem dX12_firstBreak_47 : decode cX12_firstBreak 47 = .ok (.aload_n 0, 1) := by decide +kernel
theorem dX12_firstBreak_48 : decode cX12_firstBreak 48 = .ok (.iload_n 1, 1) := by decide +kernel
theorem dX12_firstBreak_49 : decode cX12_firstBreak 49 = .ok (.iload_n 3, 1) := by decide +kernel
theorem dX12_firstBreak_50 : decode cX12_firstBreak 50 = .ok (.iload_n 2, 1) := by decide +kernel
theorem dX12_firstBreak_51 : decode cX12_firstBreak 51 = .ok (.invokevirtual 278, 3) := by decide +kernel
theorem dX12_firstBreak_54 : decode cX12_firstBreak 54 = .ok (.istore_n 3, 1) := by decide +kernel
theorem dX12_firstBreak_55 : decode cX12_firstBreak 55 = .ok (.goto (-47), 3) := by decide +kernel
theorem dX12_firstBreak_58 : decode cX12_firstBreak 58 = .ok (.iconst (-1), 1) := by decide +kernel
theorem dX12_firstBreak_59 : decode cX12_firstBreak 59 = .ok (.ireturn, 1) := by decide +kernel
theorem dX12_firstKid_0 : decode cX12_firstKid 0 = .ok (.aload_n 0, 1) := by decide +kernel
theorem dX12_firstKid_1 : decode cX12_firstKid 1 = .ok (.iload_n 1, 1) := by decide +kernel
theorem dX12_firstKid_2 : decode cX12_firstKid 2 = .ok (.iload_n 2, 1) := by decide +kernel
theorem dX12_firstKid_3 : decode cX12_firstKid 3 = .ok (.iconst (-1), 1) := by decide +kernel
theorem dX12_firstKid_4 : decode cX12_firstKid 4 = .ok (.invokevirtual 288, 3) := by decide +kernel
theorem dX12_firstKid_7 : decode cX12_firstKid 7 = .ok (.ireturn, 1) := by decide +kernel
theorem dX12_firstQuarrels_0 : decode cX12_firstQuarrels 0 = .ok (.aload_n 0, 1) := by decide +kernel
theorem dX12_firstQuarrels_1 : decode cX12_firstQuarrels 1 = .ok (.iconst 0, 1) := by decide +kernel
theorem dX12_firstQuarrels_2 : decode cX12_firstQuarrels 2 = .ok (.putfield 455, 3) := by decide +kernel
theorem dX12_firstQuarrels_5 : decode cX12_firstQuarrels 5 = .ok (.iconst 0, 1) := by decide +kernel
theorem dX12_firstQuarrels_6 : decode cX12_firstQuarrels 6 = .ok (.istore 4, 2) := by decide +kernel
theorem dX12_firstQuarrels_8 : decode cX12_firstQuarrels 8 = .ok (.iload 4, 2) := by decide +kernel
theorem dX12_firstQuarrels_10 : decode cX12_firstQuarrels 10 = .ok (.aload_n 0, 1) := by decide +kernel
theorem dX12_firstQuarrels_11 : decode cX12_firstQuarrels 11 = .ok (.getfield 336, 3) := by decide +kernel
theorem dX12_firstQuarrels_14 : decode cX12_firstQuarrels 14 = .ok (.if_icmp .ge 92, 3) := by decide +kernel
theorem dX12_firstQuarrels_17 : decode cX12_firstQuarrels 17 = .ok (.aload_n 0, 1) := by decide +kernel
theorem dX12_firstQuarrels_18 : decode cX12_firstQuarrels 18 = .ok (.getfield 45, 3) := by decide +kernel
theorem dX12_firstQuarrels_21 : decode cX12_firstQuarrels 21 = .ok (.iload_n 3, 1) := by decide +kernel
theorem dX12_firstQuarrels_22 : decode cX12_firstQuarrels 22 = .ok (.aaload, 1) := by decide +kernel
theorem dX12_firstQuarrels_23 : decode cX12_firstQuarrels 23 = .ok (.iload 4, 2) := by decide +kernel
theorem dX12_firstQuarrels_25 : decode cX12_firstQuarrels 25 = .ok (.baload, 1) := by decide +kernel
theorem dX12_firstQuarrels_26 : decode cX12_firstQuarrels 26 = .ok (.ifCond .eq 74, 3) := by decide +kernel
theorem dX12_firstQuarrels_29 : decode cX12_firstQuarrels 29 = .ok (.aload_n 0, 1) := by decide +kernel
theorem dX12_firstQuarrels_30 : decode cX12_firstQuarrels 30 = .ok (.getfield 45, 3) := by decide +kernel
theorem dX12_firstQuarrels_33 : decode cX12_firstQuarrels 33 = .ok (.iload_n 1, 1) := by decide +kernel
theorem dX12_firstQuarrels_34 : decode cX12_firstQuarrels 34 = .ok (.aaload, 1) := by decide +kernel
theorem dX12_firstQuarrels_35 : decode cX12_firstQuarrels 35 = .ok (.iload 4, 2) := by decide +kernel
theorem dX12_firstQuarrels_37 : decode cX12_firstQuarrels 37 = .ok (.baload, 1) := by decide +kernel
theorem dX12_firstQuarrels_38 : decode cX12_firstQuarrels 38 = .ok (.aload_n 0, 1) := by decide +kernel
theorem dX12_firstQuarrels_39 : decode cX12_firstQuarrels 39 = .ok (.getfield 45, 3) := by decide +kernel
theorem dX12_firstQuarrels_42 : decode cX12_firstQuarrels 42 = .ok (.iload_n 2, 1) := by decide +kernel
theorem dX12_firstQuarrels_43 : decode cX12_firstQuarrels 43 = .ok (.aaload, 1) := by decide +kernel
theorem dX12_firstQuarrels_44 : decode cX12_firstQuarrels 44 = .ok (.iload 4, 2) := by decide +kernel
theorem dX12_firstQuarrels_46 : decode cX12_firstQuarrels 46 = .ok (.baload, 1) := by decide +kernel
theorem dX12_firstQuarrels_47 : decode cX12_firstQuarrels 47 = .ok (.if_icmp .ne 6, 3) := by decide +kernel
theorem dX12_firstQuarrels_50 : decode cX12_firstQuarrels 50 = .ok (.goto 50, 3) := by decide +kernel
theorem dX12_firstQuarrels_53 : decode cX12_firstQuarrels 53 = .ok (.aload_n 0, 1) := by decide +kernel
theorem dX12_firstQuarrels_54 : decode cX12_firstQuarrels 54 = .ok (.aload_n 0, 1) := by decide +kernel
theorem dX12_firstQuarrels_55 : decode cX12_firstQuarrels 55 = .ok (.getfield 45, 3) := by decide +kernel
theorem dX12_firstQuarrels_58 : decode cX12_firstQuarrels 58 = .ok (.iload_n 1, 1) := by decide +kernel
theorem dX12_firstQuarrels_59 : decode cX12_firstQuarrels 59 = .ok (.aaload, 1) := by decide +kernel
theorem dX12_firstQuarrels_60 : decode cX12_firstQuarrels 60 = .ok (.iload 4, 2) := by decide +kernel
theorem dX12_firstQuarrels_62 : decode cX12_firstQuarrels 62 = .ok (.baload, 1) := by decide +kernel
theorem dX12_firstQuarrels_63 : decode cX12_firstQuarrels 63 = .ok (.ifCond .eq 7, 3) := by decide +kernel
theorem dX12_firstQuarrels_66 : decode cX12_firstQuarrels 66 = .ok (.iload_n 1, 1) := by decide +kernel
theorem dX12_firstQuarrels_67 : decode cX12_firstQuarrels 67 = .ok (.goto 4, 3) := by decide +kernel
theorem dX12_firstQuarrels_70 : decode cX12_firstQuarrels 70 = .ok (.iload_n 2, 1) := by decide +kernel
theorem dX12_firstQuarrels_71 : decode cX12_firstQuarrels 71 = .ok (.iload 4, 2) := by decide +kernel
theorem dX12_firstQuarrels_73 : decode cX12_firstQuarrels 73 = .ok (.iload_n 3, 1) := by decide +kernel
theorem dX12_firstQuarrels_74 : decode cX12_firstQuarrels 74 = .ok (.invokevirtual 465, 3) := by decide +kernel
theorem dX12_firstQuarrels_77 : decode cX12_firstQuarrels 77 = .ok (.ifCond .eq 23, 3) := by decide +kernel
theorem dX12_firstQuarrels_80 : decode cX12_firstQuarrels 80 = .ok (.aload_n 0, 1) := by decide +kernel
theorem dX12_firstQuarrels_81 : decode cX12_firstQuarrels 81 = .ok (.iload 4, 2) := by decide +kernel
theorem dX12_firstQuarrels_83 : decode cX12_firstQuarrels 83 = .ok (.iconst 1, 1) := by decide +kernel
theorem dX12_firstQuarrels_84 : decode cX12_firstQuarrels 84 = .ok (.iload_n 1, 1) := by decide +kernel
theorem dX12_firstQuarrels_85 : decode cX12_firstQuarrels 85 = .ok (.iload_n 2, 1) := by decide +kernel
theorem dX12_firstQuarrels_86 : decode cX12_firstQuarrels 86 = .ok (.invokevirtual 461, 3) := by decide +kernel
theorem dX12_firstQuarrels_89 : decode cX12_firstQuarrels 89 = .ok (.iconst (-1), 1) := by decide +kernel
theorem dX12_firstQuarrels_90 : decode cX12_firstQuarrels 90 = .ok (.if_icmp .ne 10, 3) := by decide +kernel
theorem dX12_firstQuarrels_93 : decode cX12_firstQuarrels 93 = .ok (.aload_n 0, 1) := by decide +kernel
theorem dX12_firstQuarrels_94 : decode cX12_firstQuarrels 94 = .ok (.iconst 1, 1) := by decide +kernel
theorem dX12_firstQuarrels_95 : decode cX12_firstQuarrels 95 = .ok (.iload 4, 2) := by decide +kernel
theorem dX12_firstQuarrels_97 : decode cX12_firstQuarrels 97 = .ok (.invokevirtual 468, 3) := by decide +kernel
theorem dX12_firstQuarrels_100 : decode cX12_firstQuarrels 100 = .ok (.iinc 4 1, 3) := by decide +kernel
theorem dX12_firstQuarrels_103 : decode cX12_firstQuarrels 103 = .ok (.goto (-95), 3) := by decide +kernel
theorem dX12_firstQuarrels_106 : decode cX12_firstQuarrels 106 = .ok (.iconst 2, 1) := by decide +kernel
theorem dX12_firstQuarrels_107 : decode cX12_firstQuarrels 107 = .ok (.istore 4, 2) := by decide +kernel
theorem dX12_firstQuarrels_109 : decode cX12_firstQuarrels 109 = .ok (.iload 4, 2) := by decide +kernel
theorem dX12_firstQuarrels_111 : decode cX12_firstQuarrels 111 = .ok (.iconst 3, 1) := by decide +kernel
theorem dX12_firstQuarrels_112 : decode cX12_firstQuarrels 112 = .ok (.if_icmp .gt 83, 3) := by decide +kernel
theorem dX12_firstQuarrels_115 : decode cX12_firstQuarrels 115 = .ok (.iconst 0, 1) := by decide +kernel
theorem dX12_firstQuarrels_116 : decode cX12_firstQuarrels 116 = .ok (.istore 5, 2) := by decide +kernel
theorem dX12_firstQuarrels_118 : decode cX12_firstQuarrels 118 = .ok (.iload 5, 2) := by decide +kernel
theorem dX12_firstQuarrels_120 : decode cX12_firstQuarrels 120 = .ok (.aload_n 0, 1) := by decide +kernel
theorem dX12_firstQuarrels_121 : decode cX12_firstQuarrels 121 = .ok (.getfield 336, 3) := by decide +kernel
theorem dX12_firstQuarrels_124 : decode cX12_firstQuarrels 124 = .ok (.if_icmp .ge 65, 3) := by decide +kernel
theorem dX12_firstQuarrels_127 : decode cX12_firstQuarrels 127 = .ok (.aload_n 0, 1) := by decide +kernel
theorem dX12_firstQuarrels_128 : decode cX12_firstQuarrels 128 = .ok (.getfield 45, 3) := by decide +kernel
theorem dX12_firstQuarrels_131 : decode cX12_firstQuarrels 131 = .ok (.iload_n 1, 1) := by decide +kernel
theorem dX12_firstQuarrels_132 : decode cX12_firstQuarrels 132 = .ok (.aaload, 1) := by decide +kernel
theorem dX12_firstQuarrels_133 : decode cX12_firstQuarrels 133 = .ok (.iload 5, 2) := by decide +kernel
theorem dX12_firstQuarrels_135 : decode cX12_firstQuarrels 135 = .ok (.baload, 1) := by decide +kernel
theorem dX12_firstQuarrels_136 : decode cX12_firstQuarrels 136 = .ok (.ifCond .eq 47, 3) := by decide +kernel
theorem dX12_firstQuarrels_139 : decode cX12_firstQuarrels 139 = .ok (.aload_n 0, 1) := by decide +kernel
theorem dX12_firstQuarrels_140 : decode cX12_firstQuarrels 140 = .ok (.getfield 45, 3) := by decide +kernel
theorem dX12_firstQuarrels_143 : decode cX12_firstQuarrels 143 = .ok (.iload_n 2, 1) := by decide +kernel
theorem dX12_firstQuarrels_144 : decode cX12_firstQuarrels 144 = .ok (.aaload, 1) := by decide +kernel
theorem dX12_firstQuarrels_145 : decode cX12_firstQuarrels 145 = .ok (.iload 5, 2) := by decide +kernel
theorem dX12_firstQuarrels_147 : decode cX12_firstQuarrels 147 = .ok (.baload, 1) := by decide +kernel
theorem dX12_firstQuarrels_148 : decode cX12_firstQuarrels 148 = .ok (.ifCond .eq 35, 3) := by decide +kernel
theorem dX12_firstQuarrels_151 : decode cX12_firstQuarrels 151 = .ok (.aload_n 0, 1) := by decide +kernel
theorem dX12_firstQuarrels_152 : decode cX12_firstQuarrels 152 = .ok (.iload 5, 2) := by decide +kernel
theorem dX12_firstQuarrels_154 : decode cX12_firstQuarrels 154 = .ok (.iload_n 1, 1) := by decide +kernel
theorem dX12_firstQuarrels_155 : decode cX12_firstQuarrels 155 = .ok (.iload_n 2, 1) := by decide +kernel
theorem dX12_firstQuarrels_156 : decode cX12_firstQuarrels 156 = .ok (.iload_n 3, 1) := by decide +kernel
theorem dX12_firstQuarrels_157 : decode cX12_firstQuarrels 157 = .ok (.iload 4, 2) := by decide +kernel
theorem dX12_firstQuarrels_159 : decode cX12_firstQuarrels 159 = .ok (.iconst 2, 1) := by decide +kernel
theorem dX12_firstQuarrels_160 : decode cX12_firstQuarrels 160 = .ok (.if_icmp .ne 7, 3) := by decide +kernel
theorem dX12_firstQuarrels_163 : decode cX12_firstQuarrels 163 = .ok (.iconst 1, 1) := by decide +kernel
theorem dX12_firstQuarrels_164 : decode cX12_firstQuarrels 164 = .ok (.goto 4, 3) := by decide +kernel
theorem dX12_firstQuarrels_167 : decode cX12_firstQuarrels 167 = .ok (.iconst 0, 1) := by decide +kernel
theorem dX12_firstQuarrels_168 : decode cX12_firstQuarrels 168 = .ok (.invokevirtual 470, 3) := by decide +kernel
theorem dX12_firstQuarrels_171 : decode cX12_firstQuarrels 171 = .ok (.iconst (-1), 1) := by decide +kernel
theorem dX12_firstQuarrels_172 : decode cX12_firstQuarrels 172 = .ok (.if_icmp .ge 11, 3) := by decide +kernel
theorem dX12_firstQuarrels_175 : decode cX12_firstQuarrels 175 = .ok (.aload_n 0, 1) := by decide +kernel
theorem dX12_firstQuarrels_176 : decode cX12_firstQuarrels 176 = .ok (.iload 4, 2) := by decide +kernel
theorem dX12_firstQuarrels_178 : decode cX12_firstQuarrels 178 = .ok (.iload 5, 2) := by decide +kernel
theorem dX12_firstQuarrels_180 : decode cX12_firstQuarrels 180 = .ok (.invokevirtual 468, 3) := by decide +kernel
theorem dX12_firstQuarrels_183 : decode cX12_firstQuarrels 183 = .ok (.iinc 5 1, 3) := by decide +kernel
theorem dX12_firstQuarrels_186 : decode cX12_firstQuarrels 186 = .ok (.goto (-68), 3) := by decide +kernel
theorem dX12_firstQuarrels_189 : decode cX12_firstQuarrels 189 = .ok (.iinc 4 1, 3) := by decide +kernel
theorem dX12_firstQuarrels_192 : decode cX12_firstQuarrels 192 = .ok (.goto (-83), 3) := by decide +kernel
theorem dX12_firstQuarrels_195 : decode cX12_firstQuarrels 195 = .ok (.return_, 1) := by decide +kernel
theorem dX12_fitsBut_0 : decode cX12_fitsBut 0 = .ok (.aload_n 0, 1) := by decide +kernel
theorem dX12_fitsBut_1 : decode cX12_fitsBut 1 = .ok (.iload_n 1, 1) := by decide +kernel
theorem dX12_fitsBut_2 : decode cX12_fitsBut 2 = .ok (.iload_n 2, 1) := by decide +kernel
theorem dX12_fitsBut_3 : decode cX12_fitsBut 3 = .ok (.invokevirtual 301, 3) := by decide +kernel
theorem dX12_fitsBut_6 : decode cX12_fitsBut 6 = .ok (.istore_n 3, 1) := by decide +kernel
theorem dX12_fitsBut_7 : decode cX12_fitsBut 7 = .ok (.aload_n 0, 1) := by decide +kernel
theorem dX12_fitsBut_8 : decode cX12_fitsBut 8 = .ok (.getfield 87, 3) := by decide +kernel
theorem dX12_fitsBut_11 : decode cX12_fitsBut 11 = .ok (.iload_n 3, 1) := by decide +kernel
theorem dX12_fitsBut_12 : decode cX12_fitsBut 12 = .ok (.iaload, 1) := by decide +kernel
theorem dX12_fitsBut_13 : decode cX12_fitsBut 13 = .ok (.ifCond .ne 18, 3) := by decide +kernel
theorem dX12_fitsBut_16 : decode cX12_fitsBut 16 = .ok (.aload_n 0, 1) := by decide +kernel
theorem dX12_fitsBut_17 : decode cX12_fitsBut 17 = .ok (.iload_n 1, 1) := by decide +kernel
theorem dX12_fitsBut_18 : decode cX12_fitsBut 18 = .ok (.iload_n 2, 1) := by decide +kernel
theorem dX12_fitsBut_19 : decode cX12_fitsBut 19 = .ok (.invokevirtual 315, 3) := by decide +kernel
theorem dX12_fitsBut_22 : decode cX12_fitsBut 22 = .ok (.ifCond .ne 7, 3) := by decide +kernel
theorem dX12_fitsBut_25 : decode cX12_fitsBut 25 = .ok (.iconst 1, 1) := by decide +kernel
theorem dX12_fitsBut_26 : decode cX12_fitsBut 26 = .ok (.goto 4, 3) := by decide +kernel
theorem dX12_fitsBut_29 : decode cX12_fitsBut 29 = .ok (.iconst 0, 1) := by decide +kernel
theorem dX12_fitsBut_30 : decode cX12_fitsBut 30 = .ok (.ireturn, 1) := by decide +kernel
theorem dX12_fitsBut_31 : decode cX12_fitsBut 31 = .ok (.aload_n 0, 1) := by decide +kernel
theorem dX12_fitsBut_32 : decode cX12_fitsBut 32 = .ok (.getfield 87, 3) := by decide +kernel
theorem dX12_fitsBut_35 : decode cX12_fitsBut 35 = .ok (.iload_n 3, 1) := by decide +kernel
theorem dX12_fitsBut_36 : decode cX12_fitsBut 36 = .ok (.iaload, 1) := by decide +kernel
theorem dX12_fitsBut_37 : decode cX12_fitsBut 37 = .ok (.iconst 1, 1) := by decide +kernel
theorem dX12_fitsBut_38 : decode cX12_fitsBut 38 = .ok (.if_icmp .ne 13, 3) := by decide +kernel
theorem dX12_fitsBut_41 : decode cX12_fitsBut 41 = .ok (.aload_n 0, 1) := by decide +kernel
theorem dX12_fitsBut_42 : decode cX12_fitsBut 42 = .ok (.iload_n 1, 1) := by decide +kernel
theorem dX12_fitsBut_43 : decode cX12_fitsBut 43 = .ok (.iload_n 2, 1) := by decide +kernel
theorem dX12_fitsBut_44 : decode cX12_fitsBut 44 = .ok (.iload_n 3, 1) := by decide +kernel
theorem dX12_fitsBut_45 : decode cX12_fitsBut 45 = .ok (.invokevirtual 318, 3) := by decide +kernel
theorem dX12_fitsBut_48 : decode cX12_fitsBut 48 = .ok (.goto 10, 3) := by decide +kernel
theorem dX12_fitsBut_51 : decode cX12_fitsBut 51 = .ok (.aload_n 0, 1) := by decide +kernel
theorem dX12_fitsBut_52 : decode cX12_fitsBut 52 = .ok (.iload_n 1, 1) := by decide +kernel
theorem dX12_fitsBut_53 : decode cX12_fitsBut 53 = .ok (.iload_n 2, 1) := by decide +kernel
theorem dX12_fitsBut_54 : decode cX12_fitsBut 54 = .ok (.iload_n 3, 1) := by decide +kernel
theorem dX12_fitsBut_55 : decode cX12_fitsBut 55 = .ok (.invokevirtual 321, 3) := by decide +kernel
theorem dX12_fitsBut_58 : decode cX12_fitsBut 58 = .ok (.ireturn, 1) := by decide +kernel
theorem dX12_fitsList_0 : decode cX12_fitsList 0 = .ok (.aload_n 0, 1) := by decide +kernel
theorem dX12_fitsList_1 : decode cX12_fitsList 1 = .ok (.getfield 90, 3) := by decide +kernel
theorem dX12_fitsList_4 : decode cX12_fitsList 4 = .ok (.iload_n 3, 1) := by decide +kernel
theorem dX12_fitsList_5 : decode cX12_fitsList 5 = .ok (.iaload, 1) := by decide +kernel
theorem dX12_fitsList_6 : decode cX12_fitsList 6 = .ok (.istore 4, 2) := by decide +kernel
theorem dX12_fitsList_8 : decode cX12_fitsList 8 = .ok (.iconst 0, 1) := by decide +kernel
theorem dX12_fitsList_9 : decode cX12_fitsList 9 = .ok (.istore 5, 2) := by decide +kernel
theorem dX12_fitsList_11 : decode cX12_fitsList 11 = .ok (.iload 5, 2) := by decide +kernel
theorem dX12_fitsList_13 : decode cX12_fitsList 13 = .ok (.iload 4, 2) := by decide +kernel
theorem dX12_fitsList_15 : decode cX12_fitsList 15 = .ok (.if_icmp .gt 26, 3) := by decide +kernel
theorem dX12_fitsList_18 : decode cX12_fitsList 18 = .ok (.aload_n 0, 1) := by decide +kernel
theorem dX12_fitsList_19 : decode cX12_fitsList 19 = .ok (.getfield 115, 3) := by decide +kernel
theorem dX12_fitsList_22 : decode cX12_fitsList 22 = .ok (.iload 5, 2) := by decide +kernel
theorem dX12_fitsList_24 : decode cX12_fitsList 24 = .ok (.iload 5, 2) := by decide +kernel
theorem dX12_fitsList_26 : decode cX12_fitsList 26 = .ok (.ifCond .ne 7, 3) := by decide +kernel
theorem dX12_fitsList_29 : decode cX12_fitsList 29 = .ok (.iconst 1, 1) := by decide +kernel
theorem dX12_fitsList_30 : decode cX12_fitsList 30 = .ok (.goto 4, 3) := by decide +kernel
theorem dX12_fitsList_33 : decode cX12_fitsList 33 = .ok (.iconst 0, 1) := by decide +kernel
theorem dX12_fitsList_34 : decode cX12_fitsList 34 = .ok (.bastore, 1) := by decide +kernel
theorem dX12_fitsList_35 : decode cX12_fitsList 35 = .ok (.iinc 5 1, 3) := by decide +kernel
theorem dX12_fitsList_38 : decode cX12_fitsList 38 = .ok (.goto (-27), 3) := by decide +kernel
theorem dX12_fitsList_41 : decode cX12_fitsList 41 = .ok (.aload_n 0, 1) := by decide +kernel
theorem dX12_fitsList_42 : decode cX12_fitsList 42 = .ok (.aload_n 0, 1) := by decide +kernel
theorem dX12_fitsList_43 : decode cX12_fitsList 43 = .ok (.getfield 115, 3) := by decide +kernel
theorem dX12_fitsList_46 : decode cX12_fitsList 46 = .ok (.iload_n 3, 1) := by decide +kernel
theorem dX12_fitsList_47 : decode cX12_fitsList 47 = .ok (.invokevirtual 311, 3) := by decide +kernel
theorem dX12_fitsList_50 : decode cX12_fitsList 50 = .ok (.aload_n 0, 1) := by decide +kernel
theorem dX12_fitsList_51 : decode cX12_fitsList 51 = .ok (.iload_n 1, 1) := by decide +kernel
theorem dX12_fitsList_52 : decode cX12_fitsList 52 = .ok (.iload_n 2, 1) := by decide +kernel
theorem dX12_fitsList_53 : decode cX12_fitsList 53 = .ok (.invokevirtual 291, 3) := by decide +kernel
theorem dX12_fitsList_56 : decode cX12_fitsList 56 = .ok (.istore 5, 2) := by decide +kernel
theorem dX12_fitsList_58 : decode cX12_fitsList 58 = .ok (.iload 5, 2) := by decide +kernel
theorem dX12_fitsList_60 : decode cX12_fitsList 60 = .ok (.iconst (-1), 1) := by decide +kernel
theorem dX12_fitsList_61 : decode cX12_fitsList 61 = .ok (.if_icmp .eq 161, 3) := by decide +kernel
theorem dX12_fitsList_64 : decode cX12_fitsList 64 = .ok (.iconst 0, 1) := by decide +kernel
theorem dX12_fitsList_65 : decode cX12_fitsList 65 = .ok (.istore 6, 2) := by decide +kernel
theorem dX12_fitsList_67 : decode cX12_fitsList 67 = .ok (.iload 6, 2) := by decide +kernel
theorem dX12_fitsList_69 : decode cX12_fitsList 69 = .ok (.iload 4, 2) := by decide +kernel
theorem dX12_fitsList_71 : decode cX12_fitsList 71 = .ok (.if_icmp .gt 17, 3) := by decide +kernel
theorem dX12_fitsList_74 : decode cX12_fitsList 74 = .ok (.aload_n 0, 1) := by decide +kernel
theorem dX12_fitsList_75 : decode cX12_fitsList 75 = .ok (.getfield 118, 3) := by decide +kernel
theorem dX12_fitsList_78 : decode cX12_fitsList 78 = .ok (.iload 6, 2) := by decide +kernel
theorem dX12_fitsList_80 : decode cX12_fitsList 80 = .ok (.iconst 0, 1) := by decide +kernel
theorem dX12_fitsList_81 : decode cX12_fitsList 81 = .ok (.bastore, 1) := by decide +kernel
theorem dX12_fitsList_82 : decode cX12_fitsList 82 = .ok (.iinc 6 1, 3) := by decide +kernel
theorem dX12_fitsList_85 : decode cX12_fitsList 85 = .ok (.goto (-18), 3) := by decide +kernel
theorem dX12_fitsList_88 : decode cX12_fitsList 88 = .ok (.iconst 0, 1) := by decide +kernel
theorem dX12_fitsList_89 : decode cX12_fitsList 89 = .ok (.istore 6, 2) := by decide +kernel
theorem dX12_fitsList_91 : decode cX12_fitsList 91 = .ok (.iload 6, 2) := by decide +kernel
theorem dX12_fitsList_93 : decode cX12_fitsList 93 = .ok (.iload 4, 2) := by decide +kernel
theorem dX12_fitsList_95 : decode cX12_fitsList 95 = .ok (.if_icmp .ge 76, 3) := by decide +kernel
theorem dX12_fitsList_98 : decode cX12_fitsList 98 = .ok (.aload_n 0, 1) := by decide +kernel
theorem dX12_fitsList_99 : decode cX12_fitsList 99 = .ok (.getfield 115, 3) := by decide +kernel
theorem dX12_fitsList_102 : decode cX12_fitsList 102 = .ok (.iload 6, 2) := by decide +kernel
theorem dX12_fitsList_104 : decode cX12_fitsList 104 = .ok (.baload, 1) := by decide +kernel
theorem dX12_fitsList_105 : decode cX12_fitsList 105 = .ok (.ifCond .eq 60, 3) := by decide +kernel
theorem dX12_fitsList_108 : decode cX12_fitsList 108 = .ok (.aload_n 0, 1) := by decide +kernel
theorem dX12_fitsList_109 : decode cX12_fitsList 109 = .ok (.getfield 96, 3) := by decide +kernel
theorem dX12_fitsList_112 : decode cX12_fitsList 112 = .ok (.iload_n 3, 1) := by decide +kernel
theorem dX12_fitsList_113 : decode cX12_fitsList 113 = .ok (.aaload, 1) := by decide +kernel
theorem dX12_fitsList_114 : decode cX12_fitsList 114 = .ok (.iload 6, 2) := by decide +kernel
theorem dX12_fitsList_116 : decode cX12_fitsList 116 = .ok (.iaload, 1) := by decide +kernel
theorem dX12_fitsList_117 : decode cX12_fitsList 117 = .ok (.aload_n 0, 1) := by decide +kernel
theorem dX12_fitsList_118 : decode cX12_fitsList 118 = .ok (.iload_n 1, 1) := by decide +kernel
theorem dX12_fitsList_119 : decode cX12_fitsList 119 = .ok (.iload 5, 2) := by decide +kernel
theorem dX12_fitsList_121 : decode cX12_fitsList 121 = .ok (.invokevirtual 301, 3) := by decide +kernel
theorem dX12_fitsList_124 : decode cX12_fitsList 124 = .ok (.if_icmp .eq 6, 3) := by decide +kernel
theorem dX12_fitsList_127 : decode cX12_fitsList 127 = .ok (.goto 38, 3) := by decide +kernel
theorem dX12_fitsList_130 : decode cX12_fitsList 130 = .ok (.aload_n 0, 1) := by decide +kernel
theorem dX12_fitsList_131 : decode cX12_fitsList 131 = .ok (.getfield 93, 3) := by decide +kernel
theorem dX12_fitsList_134 : decode cX12_fitsList 134 = .ok (.iload_n 3, 1) := by decide +kernel
theorem dX12_fitsList_135 : decode cX12_fitsList 135 = .ok (.aaload, 1) := by decide +kernel
theorem dX12_fitsList_136 : decode cX12_fitsList 136 = .ok (.iload 6, 2) := by decide +kernel
theorem dX12_fitsList_138 : decode cX12_fitsList 138 = .ok (.iaload, 1) := by decide +kernel
theorem dX12_fitsList_139 : decode cX12_fitsList 139 = .ok (.bipush 42, 2) := by decide +kernel
theorem dX12_fitsList_141 : decode cX12_fitsList 141 = .ok (.if_icmp .ne 14, 3) := by decide +kernel
theorem dX12_fitsList_144 : decode cX12_fitsList 144 = .ok (.aload_n 0, 1) := by decide +kernel
theorem dX12_fitsList_145 : decode cX12_fitsList 145 = .ok (.getfield 118, 3) := by decide +kernel
theorem dX12_fitsList_148 : decode cX12_fitsList 148 = .ok (.iload 6, 2) := by decide +kernel
theorem dX12_fitsList_150 : decode cX12_fitsList 150 = .ok (.iconst 1, 1) := by decide +kernel
theorem dX12_fitsList_151 : decode cX12_fitsList 151 = .ok (.bastore, 1) := by decide +kernel
theorem dX12_fitsList_152 : decode cX12_fitsList 152 = .ok (.goto 13, 3) := by decide +kernel
theorem dX12_fitsList_155 : decode cX12_fitsList 155 = .ok (.aload_n 0, 1) := by decide +kernel
theorem dX12_fitsList_156 : decode cX12_fitsList 156 = .ok (.getfield 118, 3) := by decide +kernel
theorem dX12_fitsList_159 : decode cX12_fitsList 159 = .ok (.iload 6, 2) := by decide +kernel
theorem dX12_fitsList_161 : decode cX12_fitsList 161 = .ok (.iconst 1, 1) := by decide +kernel
theorem dX12_fitsList_162 : decode cX12_fitsList 162 = .ok (.iadd, 1) := by decide +kernel
theorem dX12_fitsList_163 : decode cX12_fitsList 163 = .ok (.iconst 1, 1) := by decide +kernel
theorem dX12_fitsList_164 : decode cX12_fitsList 164 = .ok (.bastore, 1) := by decide +kernel
theorem dX12_fitsList_165 : decode cX12_fitsList 165 = .ok (.iinc 6 1, 3) := by decide +kernel
theorem dX12_fitsList_168 : decode cX12_fitsList 168 = .ok (.goto (-77), 3) := by decide +kernel
theorem dX12_fitsList_171 : decode cX12_fitsList 171 = .ok (.aload_n 0, 1) := by decide +kernel
theorem dX12_fitsList_172 : decode cX12_fitsList 172 = .ok (.aload_n 0, 1) := by decide +kernel
theorem dX12_fitsList_173 : decode cX12_fitsList 173 = .ok (.getfield 118, 3) := by decide +kernel
theorem dX12_fitsList_176 : decode cX12_fitsList 176 = .ok (.iload_n 3, 1) := by decide +kernel
theorem dX12_fitsList_177 : decode cX12_fitsList 177 = .ok (.invokevirtual 311, 3) := by decide +kernel
theorem dX12_fitsList_180 : decode cX12_fitsList 180 = .ok (.iconst 0, 1) := by decide +kernel
theorem dX12_fitsList_181 : decode cX12_fitsList 181 = .ok (.istore 6, 2) := by decide +kernel
theorem dX12_fitsList_183 : decode cX12_fitsList 183 = .ok (.iload 6, 2) := by decide +kernel
theorem dX12_fitsList_185 : decode cX12_fitsList 185 = .ok (.iload 4, 2) := by decide +kernel
theorem dX12_fitsList_187 : decode cX12_fitsList 187 = .ok (.if_icmp .gt 23, 3) := by decide +kernel
theorem dX12_fitsList_190 : decode cX12_fitsList 190 = .ok (.aload_n 0, 1) := by decide +kernel
theorem dX12_fitsList_191 : decode cX12_fitsList 191 = .ok (.getfield 115, 3) := by decide +kernel
theorem dX12_fitsList_194 : decode cX12_fitsList 194 = .ok (.iload 6, 2) := by decide +kernel
theorem dX12_fitsList_196 : decode cX12_fitsList 196 = .ok (.aload_n 0, 1) := by decide +kernel
theorem dX12_fitsList_197 : decode cX12_fitsList 197 = .ok (.getfield 118, 3) := by decide +kernel
theorem dX12_fitsList_200 : decode cX12_fitsList 200 = .ok (.iload 6, 2) := by decide +kernel
theorem dX12_fitsList_202 : decode cX12_fitsList 202 = .ok (.baload, 1) := by decide +kernel
theorem dX12_fitsList_203 : decode cX12_fitsList 203 = .ok (.bastore, 1) := by decide +kernel
theorem dX12_fitsList_204 : decode cX12_fitsList 204 = .ok (.iinc 6 1, 3) := by decide +kernel
theorem dX12_fitsList_207 : decode cX12_fitsList 207 = .ok (.goto (-24), 3) := by decide +kernel
theorem dX12_fitsList_210 : decode cX12_fitsList 210 = .ok (.aload_n 0, 1) := by decide +kernel
theorem dX12_fitsList_211 : decode cX12_fitsList 211 = .ok (.iload_n 1, 1) := by decide +kernel
theorem dX12_fitsList_212 : decode cX12_fitsList 212 = .ok (.iload 5, 2) := by decide +kernel
theorem dX12_fitsList_214 : decode cX12_fitsList 214 = .ok (.invokevirtual 294, 3) := by decide +kernel
theorem dX12_fitsList_217 : decode cX12_fitsList 217 = .ok (.istore 5, 2) := by decide +kernel
theorem dX12_fitsList_219 : decode cX12_fitsList 219 = .ok (.goto (-161), 3) := by decide +kernel
theorem dX12_fitsList_222 : decode cX12_fitsList 222 = .ok (.aload_n 0, 1) := by decide +kernel
theorem dX12_fitsList_223 : decode cX12_fitsList 223 = .ok (.getfield 115, 3) := by decide +kernel
theorem dX12_fitsList_226 : decode cX12_fitsList 226 = .ok (.iload 4, 2) := by decide +kernel
theorem dX12_fitsList_228 : decode cX12_fitsList 228 = .ok (.baload, 1) := by decide +kernel
theorem dX12_fitsList_229 : decode cX12_fitsList 229 = .ok (.ireturn, 1) := by decide +kernel
theorem dX12_fitsSet_0 : decode cX12_fitsSet 0 = .ok (.iconst 0, 1) := by decide +kernel
theorem dX12_fitsSet_1 : decode cX12_fitsSet 1 = .ok (.istore 4, 2) := by decide +kernel
theorem dX12_fitsSet_3 : decode cX12_fitsSet 3 = .ok (.iload 4, 2) := by decide +kernel
theorem dX12_fitsSet_5 : decode cX12_fitsSet 5 = .ok (.sipush 150, 3) := by decide +kernel
theorem dX12_fitsSet_8 : decode cX12_fitsSet 8 = .ok (.if_icmp .ge 98, 3) := by decide +kernel
theorem dX12_fitsSet_11 : decode cX12_fitsSet 11 = .ok (.aload_n 0, 1) := by decide +kernel
theorem dX12_fitsSet_12 : decode cX12_fitsSet 12 = .ok (.getfield 45, 3) := by decide +kernel
theorem dX12_fitsSet_15 : decode cX12_fitsSet 15 = .ok (.iload_n 1, 1) := by decide +kernel
theorem dX12_fitsSet_16 : decode cX12_fitsSet 16 = .ok (.aaload, 1) := by decide +kernel
theorem dX12_fitsSet_17 : decode cX12_fitsSet 17 = .ok (.iload 4, 2) := by decide +kernel
theorem dX12_fitsSet_19 : decode cX12_fitsSet 19 = .ok (.baload, 1) := by decide +kernel
theorem dX12_fitsSet_20 : decode cX12_fitsSet 20 = .ok (.ifCond .eq 80, 3) := by decide +kernel
theorem dX12_fitsSet_23 : decode cX12_fitsSet 23 = .ok (.aload_n 0, 1) := by decide +kernel
theorem dX12_fitsSet_24 : decode cX12_fitsSet 24 = .ok (.getfield 53, 3) := by decide +kernel
theorem dX12_fitsSet_27 : decode cX12_fitsSet 27 = .ok (.iload_n 1, 1) := by decide +kernel
theorem dX12_fitsSet_28 : decode cX12_fitsSet 28 = .ok (.aaload, 1) := by decide +kernel
theorem dX12_fitsSet_29 : decode cX12_fitsSet 29 = .ok (.iload 4, 2) := by decide +kernel
theorem dX12_fitsSet_31 : decode cX12_fitsSet 31 = .ok (.iaload, 1) := by decide +kernel
theorem dX12_fitsSet_32 : decode cX12_fitsSet 32 = .ok (.iload_n 2, 1) := by decide +kernel
theorem dX12_fitsSet_33 : decode cX12_fitsSet 33 = .ok (.if_icmp .eq 6, 3) := by decide +kernel
theorem dX12_fitsSet_36 : decode cX12_fitsSet 36 = .ok (.goto 64, 3) := by decide +kernel
theorem dX12_fitsSet_39 : decode cX12_fitsSet 39 = .ok (.iconst 0, 1) := by decide +kernel
theorem dX12_fitsSet_40 : decode cX12_fitsSet 40 = .ok (.istore 5, 2) := by decide +kernel
theorem dX12_fitsSet_42 : decode cX12_fitsSet 42 = .ok (.iconst 0, 1) := by decide +kernel
theorem dX12_fitsSet_43 : decode cX12_fitsSet 43 = .ok (.istore 6, 2) := by decide +kernel
theorem dX12_fitsSet_45 : decode cX12_fitsSet 45 = .ok (.iload 6, 2) := by decide +kernel
theorem dX12_fitsSet_47 : decode cX12_fitsSet 47 = .ok (.aload_n 0, 1) := by decide +kernel
theorem dX12_fitsSet_48 : decode cX12_fitsSet 48 = .ok (.getfield 90, 3) := by decide +kernel
theorem dX12_fitsSet_51 : decode cX12_fitsSet 51 = .ok (.iload_n 3, 1) := by decide +kernel
theorem dX12_fitsSet_52 : decode cX12_fitsSet 52 = .ok (.iaload, 1) := by decide +kernel
theorem dX12_fitsSet_53 : decode cX12_fitsSet 53 = .ok (.if_icmp .ge 40, 3) := by decide +kernel
theorem dX12_fitsSet_56 : decode cX12_fitsSet 56 = .ok (.iload 5, 2) := by decide +kernel
theorem dX12_fitsSet_58 : decode cX12_fitsSet 58 = .ok (.ifCond .ne 22, 3) := by decide +kernel
theorem dX12_fitsSet_61 : decode cX12_fitsSet 61 = .ok (.aload_n 0, 1) := by decide +kernel
theorem dX12_fitsSet_62 : decode cX12_fitsSet 62 = .ok (.getfield 96, 3) := by decide +kernel
theorem dX12_fitsSet_65 : decode cX12_fitsSet 65 = .ok (.iload_n 3, 1) := by decide +kernel
theorem dX12_fitsSet_66 : decode cX12_fitsSet 66 = .ok (.aaload, 1) := by decide +kernel
theorem dX12_fitsSet_67 : decode cX12_fitsSet 67 = .ok (.iload 6, 2) := by decide +kernel
theorem dX12_fitsSet_69 : decode cX12_fitsSet 69 = .ok (.iaload, 1) := by decide +kernel
theorem dX12_fitsSet_70 : decode cX12_fitsSet 70 = .ok (.aload_n 0, 1) := by decide +kernel
theorem dX12_fitsSet_71 : decode cX12_fitsSet 71 = .ok (.iload_n 1, 1) := by decide +kernel
theorem dX12_fitsSet_72 : decode cX12_fitsSet 72 = .ok (.iload 4, 2) := by decide +kernel
theorem dX12_fitsSet_74 : decode cX12_fitsSet 74 = .ok (.invokevirtual 301, 3) := by decide +kernel
theorem dX12_fitsSet_77 : decode cX12_fitsSet 77 = .ok (.if_icmp .ne 7, 3) := by decide +kernel
theorem dX12_fitsSet_80 : decode cX12_fitsSet 80 = .ok (.iconst 1, 1) := by decide +kernel
theorem dX12_fitsSet_81 : decode cX12_fitsSet 81 = .ok (.goto 4, 3) := by decide +kernel
theorem dX12_fitsSet_84 : decode cX12_fitsSet 84 = .ok (.iconst 0, 1) := by decide +kernel
theorem dX12_fitsSet_85 : decode cX12_fitsSet 85 = .ok (.istore 5, 2) := by decide +kernel
theorem dX12_fitsSet_87 : decode cX12_fitsSet 87 = .ok (.iinc 6 1, 3) := by decide +kernel
theorem dX12_fitsSet_90 : decode cX12_fitsSet 90 = .ok (.goto (-45), 3) := by decide +kernel
theorem dX12_fitsSet_93 : decode cX12_fitsSet 93 = .ok (.iload 5, 2) := by decide +kernel
theorem dX12_fitsSet_95 : decode cX12_fitsSet 95 = .ok (.ifCond .ne 5, 3) := by decide +kernel
theorem dX12_fitsSet_98 : decode cX12_fitsSet 98 = .ok (.iconst 0, 1) := by decide +kernel
theorem dX12_fitsSet_99 : decode cX12_fitsSet 99 = .ok (.ireturn, 1) := by decide +kernel
theorem dX12_fitsSet_100 : decode cX12_fitsSet 100 = .ok (.iinc 4 1, 3) := by decide +kernel
theorem dX12_fitsSet_103 : decode cX12_fitsSet 103 = .ok (.goto (-100), 3) := by decide +kernel
theorem dX12_fitsSet_106 : decode cX12_fitsSet 106 = .ok (.iconst 1, 1) := by decide +kernel
theorem dX12_fitsSet_107 : decode cX12_fitsSet 107 = .ok (.ireturn, 1) := by decide +kernel
theorem dX12_from_0 : decode cX12_from 0 = .ok (.aload_n 0, 1) := by decide +kernel
theorem dX12_from_1 : decode cX12_from 1 = .ok (.iload_n 1, 1) := by decide +kernel
theorem dX12_from_2 : decode cX12_from 2 = .ok (.invokevirtual 396, 3) := by decide +kernel
theorem dX12_from_5 : decode cX12_from 5 = .ok (.ifCond .eq 24, 3) := by decide +kernel
theorem dX12_from_8 : decode cX12_from 8 = .ok (.aload_n 0, 1) := by decide +kernel
theorem dX12_from_9 : decode cX12_from 9 = .ok (.iload_n 2, 1) := by decide +kernel
theorem dX12_from_10 : decode cX12_from 10 = .ok (.invokevirtual 396, 3) := by decide +kernel
theorem dX12_from_13 : decode cX12_from 13 = .ok (.ifCond .eq 16, 3) := by decide +kernel
theorem dX12_from_16 : decode cX12_from 16 = .ok (.aload_n 0, 1) := by decide +kernel
theorem dX12_from_17 : decode cX12_from 17 = .ok (.iload_n 1, 1) := by decide +kernel
theorem dX12_from_18 : decode cX12_from 18 = .ok (.iload_n 2, 1) := by decide +kernel
theorem dX12_from_19 : decode cX12_from 19 = .ok (.invokevirtual 512, 3) := by decide +kernel
theorem dX12_from_22 : decode cX12_from 22 = .ok (.ifCond .eq 7, 3) := by decide +kernel
theorem dX12_from_25 : decode cX12_from 25 = .ok (.iconst 1, 1) := by decide +kernel
theorem dX12_from_26 : decode cX12_from 26 = .ok (.goto 4, 3) := by decide +kernel
theorem dX12_from_29 : decode cX12_from 29 = .ok (.iconst 0, 1) := by decide +kernel
theorem dX12_from_30 : decode cX12_from 30 = .ok (.ireturn, 1) := by decide +kernel
theorem dX12_goesOn_0 : decode cX12_goesOn 0 = .ok (.aload_n 0, 1) := by decide +kernel
theorem dX12_goesOn_1 : decode cX12_goesOn 1 = .ok (.aload_n 0, 1) := by decide +kernel
theorem dX12_goesOn_2 : decode cX12_goesOn 2 = .ok (.getfield 182, 3) := by decide +kernel
theorem dX12_goesOn_5 : decode cX12_goesOn 5 = .ok (.putfield 179, 3) := by decide +kernel
theorem dX12_goesOn_8 : decode cX12_goesOn 8 = .ok (.aload_n 0, 1) := by decide +kernel
theorem dX12_goesOn_9 : decode cX12_goesOn 9 = .ok (.invokevirtual 190, 3) := by decide +kernel
theorem dX12_goesOn_12 : decode cX12_goesOn 12 = .ok (.return_, 1) := by decide +kernel
theorem dX12_grammar_0 : decode cX12_grammar 0 = .ok (.aload_n 0, 1) := by decide +kernel
theorem dX12_grammar_1 : decode cX12_grammar 1 = .ok (.getfield 251, 3) := by decide +kernel
theorem dX12_grammar_4 : decode cX12_grammar 4 = .ok (.ifCond .le 5, 3) := by decide +kernel
theorem dX12_grammar_7 : decode cX12_grammar 7 = .ok (.iconst (-1), 1) := by decide +kernel
theorem dX12_grammar_8 : decode cX12_grammar 8 = .ok (.ireturn, 1) := by decide +kernel
theorem dX12_grammar_9 : decode cX12_grammar 9 = .ok (.aload_n 0, 1) := by decide +kernel
theorem dX12_grammar_10 : decode cX12_grammar 10 = .ok (.invokevirtual 285, 3) := by decide +kernel
theorem dX12_grammar_13 : decode cX12_grammar 13 = .ok (.aload_n 0, 1) := by decide +kernel
theorem dX12_grammar_14 : decode cX12_grammar 14 = .ok (.getfield 193, 3) := by decide +kernel
theorem dX12_grammar_17 : decode cX12_grammar 17 = .ok (.iconst (-1), 1) := by decide +kernel
theorem dX12_grammar_18 : decode cX12_grammar 18 = .ok (.if_icmp .eq 5, 3) := by decide +kernel
theorem dX12_grammar_21 : decode cX12_grammar 21 = .ok (.iconst (-1), 1) := by decide +kernel
theorem dX12_grammar_22 : decode cX12_grammar 22 = .ok (.ireturn, 1) := by decide +kernel
theorem dX12_grammar_23 : decode cX12_grammar 23 = .ok (.aload_n 0, 1) := by decide +kernel
theorem dX12_grammar_24 : decode cX12_grammar 24 = .ok (.aload_n 0, 1) := by decide +kernel
theorem dX12_grammar_25 : decode cX12_grammar 25 = .ok (.getfield 227, 3) := by decide +kernel
theorem dX12_grammar_28 : decode cX12_grammar 28 = .ok (.putfield 251, 3) := by decide +kernel
theorem dX12_grammar_31 : decode cX12_grammar 31 = .ok (.iconst 0, 1) := by decide +kernel
theorem dX12_grammar_32 : decode cX12_grammar 32 = .ok (.istore_n 1, 1) := by decide +kernel
theorem dX12_grammar_33 : decode cX12_grammar 33 = .ok (.iload_n 1, 1) := by decide +kernel
theorem dX12_grammar_34 : decode cX12_grammar 34 = .ok (.sipush 500, 3) := by decide +kernel
theorem dX12_grammar_37 : decode cX12_grammar 37 = .ok (.if_icmp .ge 21, 3) := by decide +kernel
theorem dX12_grammar_40 : decode cX12_grammar 40 = .ok (.aload_n 0, 1) := by decide +kernel
theorem dX12_grammar_41 : decode cX12_grammar 41 = .ok (.getfield 78, 3) := by decide +kernel
theorem dX12_grammar_44 : decode cX12_grammar 44 = .ok (.iload_n 1, 1) := by decide +kernel
theorem dX12_grammar_45 : decode cX12_grammar 45 = .ok (.aload_n 0, 1) := by decide +kernel
theorem dX12_grammar_46 : decode cX12_grammar 46 = .ok (.getfield 13, 3) := by decide +kernel
theorem dX12_grammar_49 : decode cX12_grammar 49 = .ok (.iload_n 1, 1) := by decide +kernel
theorem dX12_grammar_50 : decode cX12_grammar 50 = .ok (.baload, 1) := by decide +kernel
theorem dX12_grammar_51 : decode cX12_grammar 51 = .ok (.bastore, 1) := by decide +kernel
theorem dX12_grammar_52 : decode cX12_grammar 52 = .ok (.iinc 1 1, 3) := by decide +kernel
theorem dX12_grammar_55 : decode cX12_grammar 55 = .ok (.goto (-22), 3) := by decide +kernel
theorem dX12_grammar_58 : decode cX12_grammar 58 = .ok (.iconst 0, 1) := by decide +kernel
theorem dX12_grammar_59 : decode cX12_grammar 59 = .ok (.istore_n 1, 1) := by decide +kernel
theorem dX12_grammar_60 : decode cX12_grammar 60 = .ok (.iload_n 1, 1) := by decide +kernel
theorem dX12_grammar_61 : decode cX12_grammar 61 = .ok (.aload_n 0, 1) := by decide +kernel
theorem dX12_grammar_62 : decode cX12_grammar 62 = .ok (.getfield 251, 3) := by decide +kernel
theorem dX12_grammar_65 : decode cX12_grammar 65 = .ok (.if_icmp .ge 107, 3) := by decide +kernel
theorem dX12_grammar_68 : decode cX12_grammar 68 = .ok (.aload_n 0, 1) := by decide +kernel
theorem dX12_grammar_69 : decode cX12_grammar 69 = .ok (.getfield 81, 3) := by decide +kernel
theorem dX12_grammar_72 : decode cX12_grammar 72 = .ok (.iload_n 1, 1) := by decide +kernel
theorem dX12_grammar_73 : decode cX12_grammar 73 = .ok (.aload_n 0, 1) := by decide +kernel
theorem dX12_grammar_74 : decode cX12_grammar 74 = .ok (.getfield 16, 3) := by decide +kernel
theorem dX12_grammar_77 : decode cX12_grammar 77 = .ok (.iload_n 1, 1) := by decide +kernel
theorem dX12_grammar_78 : decode cX12_grammar 78 = .ok (.iaload, 1) := by decide +kernel
theorem dX12_grammar_79 : decode cX12_grammar 79 = .ok (.iastore, 1) := by decide +kernel
theorem dX12_grammar_80 : decode cX12_grammar 80 = .ok (.aload_n 0, 1) := by decide +kernel
theorem dX12_grammar_81 : decode cX12_grammar 81 = .ok (.getfield 84, 3) := by decide +kernel
theorem dX12_grammar_84 : decode cX12_grammar 84 = .ok (.iload_n 1, 1) := by decide +kernel
theorem dX12_grammar_85 : decode cX12_grammar 85 = .ok (.aload_n 0, 1) := by decide +kernel
theorem dX12_grammar_86 : decode cX12_grammar 86 = .ok (.getfield 20, 3) := by decide +kernel
theorem dX12_grammar_89 : decode cX12_grammar 89 = .ok (.iload_n 1, 1) := by decide +kernel
theorem dX12_grammar_90 : decode cX12_grammar 90 = .ok (.iaload, 1) := by decide +kernel
theorem dX12_grammar_91 : decode cX12_grammar 91 = .ok (.iastore, 1) := by decide +kernel
theorem dX12_grammar_92 : decode cX12_grammar 92 = .ok (.aload_n 0, 1) := by decide +kernel
theorem dX12_grammar_93 : decode cX12_grammar 93 = .ok (.getfield 87, 3) := by decide +kernel
theorem dX12_grammar_96 : decode cX12_grammar 96 = .ok (.iload_n 1, 1) := by decide +kernel
theorem dX12_grammar_97 : decode cX12_grammar 97 = .ok (.aload_n 0, 1) := by decide +kernel
theorem dX12_grammar_98 : decode cX12_grammar 98 = .ok (.getfield 23, 3) := by decide +kernel
theorem dX12_grammar_101 : decode cX12_grammar 101 = .ok (.iload_n 1, 1) := by decide +kernel
theorem dX12_grammar_102 : decode cX12_grammar 102 = .ok (.iaload, 1) := by decide +kernel
theorem dX12_grammar_103 : decode cX12_grammar 103 = .ok (.iastore, 1) := by decide +kernel
theorem dX12_grammar_104 : decode cX12_grammar 104 = .ok (.aload_n 0, 1) := by decide +kernel
theorem dX12_grammar_105 : decode cX12_grammar 105 = .ok (.getfield 90, 3) := by decide +kernel
theorem dX12_grammar_108 : decode cX12_grammar 108 = .ok (.iload_n 1, 1) := by decide +kernel
theorem dX12_grammar_109 : decode cX12_grammar 109 = .ok (.aload_n 0, 1) := by decide +kernel
theorem dX12_grammar_110 : decode cX12_grammar 110 = .ok (.getfield 26, 3) := by decide +kernel
theorem dX12_grammar_113 : decode cX12_grammar 113 = .ok (.iload_n 1, 1) := by decide +kernel
theorem dX12_grammar_114 : decode cX12_grammar 114 = .ok (.iaload, 1) := by decide +kernel
theorem dX12_grammar_115 : decode cX12_grammar 115 = .ok (.iastore, 1) := by decide +kernel
theorem dX12_grammar_116 : decode cX12_grammar 116 = .ok (.iconst 0, 1) := by decide +kernel
theorem dX12_grammar_117 : decode cX12_grammar 117 = .ok (.istore_n 2, 1) := by decide +kernel
theorem dX12_grammar_118 : decode cX12_grammar 118 = .ok (.iload_n 2, 1) := by decide +kernel
theorem dX12_grammar_119 : decode cX12_grammar 119 = .ok (.aload_n 0, 1) := by decide +kernel
theorem dX12_grammar_120 : decode cX12_grammar 120 = .ok (.getfield 26, 3) := by decide +kernel
theorem dX12_grammar_123 : decode cX12_grammar 123 = .ok (.iload_n 1, 1) := by decide +kernel
theorem dX12_grammar_124 : decode cX12_grammar 124 = .ok (.iaload, 1) := by decide +kernel
theorem dX12_grammar_125 : decode cX12_grammar 125 = .ok (.if_icmp .ge 41, 3) := by decide +kernel
theorem dX12_grammar_128 : decode cX12_grammar 128 = .ok (.aload_n 0, 1) := by decide +kernel
theorem dX12_grammar_129 : decode cX12_grammar 129 = .ok (.getfield 93, 3) := by decide +kernel
theorem dX12_grammar_132 : decode cX12_grammar 132 = .ok (.iload_n 1, 1) := by decide +kernel
theorem dX12_grammar_133 : decode cX12_grammar 133 = .ok (.aaload, 1) := by decide +kernel
theorem dX12_grammar_134 : decode cX12_grammar 134 = .ok (.iload_n 2, 1) := by decide +kernel
theorem dX12_grammar_135 : decode cX12_grammar 135 = .ok (.aload_n 0, 1) := by decide +kernel
theorem dX12_grammar_136 : decode cX12_grammar 136 = .ok (.getfield 37, 3) := by decide +kernel
theorem dX12_grammar_139 : decode cX12_grammar 139 = .ok (.iload_n 1, 1) := by decide +kernel
theorem dX12_grammar_140 : decode cX12_grammar 140 = .ok (.aaload, 1) := by decide +kernel
theorem dX12_grammar_141 : decode cX12_grammar 141 = .ok (.iload_n 2, 1) := by decide +kernel
theorem dX12_grammar_142 : decode cX12_grammar 142 = .ok (.iaload, 1) := by decide +kernel
theorem dX12_grammar_143 : decode cX12_grammar 143 = .ok (.iastore, 1) := by decide +kernel
theorem dX12_grammar_144 : decode cX12_grammar 144 = .ok (.aload_n 0, 1) := by decide +kernel
theorem dX12_grammar_145 : decode cX12_grammar 145 = .ok (.getfield 96, 3) := by decide +kernel
theorem dX12_grammar_148 : decode cX12_grammar 148 = .ok (.iload_n 1, 1) := by decide +kernel
theorem dX12_grammar_149 : decode cX12_grammar 149 = .ok (.aaload, 1) := by decide +kernel
theorem dX12_grammar_150 : decode cX12_grammar 150 = .ok (.iload_n 2, 1) := by decide +kernel
theorem dX12_grammar_151 : decode cX12_grammar 151 = .ok (.aload_n 0, 1) := by decide +kernel
theorem dX12_grammar_152 : decode cX12_grammar 152 = .ok (.getfield 40, 3) := by decide +kernel
theorem dX12_grammar_155 : decode cX12_grammar 155 = .ok (.iload_n 1, 1) := by decide +kernel
theorem dX12_grammar_156 : decode cX12_grammar 156 = .ok (.aaload, 1) := by decide +kernel
theorem dX12_grammar_157 : decode cX12_grammar 157 = .ok (.iload_n 2, 1) := by decide +kernel
theorem dX12_grammar_158 : decode cX12_grammar 158 = .ok (.iaload, 1) := by decide +kernel
theorem dX12_grammar_159 : decode cX12_grammar 159 = .ok (.iastore, 1) := by decide +kernel
theorem dX12_grammar_160 : decode cX12_grammar 160 = .ok (.iinc 2 1, 3) := by decide +kernel
theorem dX12_grammar_163 : decode cX12_grammar 163 = .ok (.goto (-45), 3) := by decide +kernel
theorem dX12_grammar_166 : decode cX12_grammar 166 = .ok (.iinc 1 1, 3) := by decide +kernel
theorem dX12_grammar_169 : decode cX12_grammar 169 = .ok (.goto (-109), 3) := by decide +kernel
theorem dX12_grammar_172 : decode cX12_grammar 172 = .ok (.aload_n 0, 1) := by decide +kernel
theorem dX12_grammar_173 : decode cX12_grammar 173 = .ok (.iconst 0, 1) := by decide +kernel
theorem dX12_grammar_174 : decode cX12_grammar 174 = .ok (.putfield 163, 3) := by decide +kernel
theorem dX12_grammar_177 : decode cX12_grammar 177 = .ok (.aload_n 0, 1) := by decide +kernel
theorem dX12_grammar_178 : decode cX12_grammar 178 = .ok (.getfield 251, 3) := by decide +kernel
theorem dX12_grammar_181 : decode cX12_grammar 181 = .ok (.ireturn, 1) := by decide +kernel
theorem dX12_hasLike_0 : decode cX12_hasLike 0 = .ok (.aload_n 0, 1) := by decide +kernel
theorem dX12_hasLike_1 : decode cX12_hasLike 1 = .ok (.getfield 87, 3) := by decide +kernel
theorem dX12_hasLike_4 : decode cX12_hasLike 4 = .ok (.aload_n 0, 1) := by decide +kernel
theorem dX12_hasLike_5 : decode cX12_hasLike 5 = .ok (.iload_n 1, 1) := by decide +kernel
theorem dX12_hasLike_6 : decode cX12_hasLike 6 = .ok (.iload_n 2, 1) := by decide +kernel
theorem dX12_hasLike_7 : decode cX12_hasLike 7 = .ok (.invokevirtual 301, 3) := by decide +kernel
theorem dX12_hasLike_10 : decode cX12_hasLike 10 = .ok (.iaload, 1) := by decide +kernel
theorem dX12_hasLike_11 : decode cX12_hasLike 11 = .ok (.iconst 1, 1) := by decide +kernel
theorem dX12_hasLike_12 : decode cX12_hasLike 12 = .ok (.if_icmp .eq 5, 3) := by decide +kernel
theorem dX12_hasLike_15 : decode cX12_hasLike 15 = .ok (.iconst 0, 1) := by decide +kernel
theorem dX12_hasLike_16 : decode cX12_hasLike 16 = .ok (.ireturn, 1) := by decide +kernel
theorem dX12_hasLike_17 : decode cX12_hasLike 17 = .ok (.iconst 0, 1) := by decide +kernel
theorem dX12_hasLike_18 : decode cX12_hasLike 18 = .ok (.istore_n 3, 1) := by decide +kernel
theorem dX12_hasLike_19 : decode cX12_hasLike 19 = .ok (.iload_n 3, 1) := by decide +kernel
theorem dX12_hasLike_20 : decode cX12_hasLike 20 = .ok (.sipush 150, 3) := by decide +kernel
theorem dX12_hasLike_23 : decode cX12_hasLike 23 = .ok (.if_icmp .ge 118, 3) := by decide +kernel
theorem dX12_hasLike_26 : decode cX12_hasLike 26 = .ok (.aload_n 0, 1) := by decide +kernel
theorem dX12_hasLike_27 : decode cX12_hasLike 27 = .ok (.getfield 45, 3) := by decide +kernel
theorem dX12_hasLike_30 : decode cX12_hasLike 30 = .ok (.iload_n 1, 1) := by decide +kernel
theorem dX12_hasLike_31 : decode cX12_hasLike 31 = .ok (.aaload, 1) := by decide +kernel
theorem dX12_hasLike_32 : decode cX12_hasLike 32 = .ok (.iload_n 3, 1) := by decide +kernel
theorem dX12_hasLike_33 : decode cX12_hasLike 33 = .ok (.baload, 1) := by decide +kernel
theorem dX12_hasLike_34 : decode cX12_hasLike 34 = .ok (.ifCond .eq 101, 3) := by decide +kernel
theorem dX12_hasLike_37 : decode cX12_hasLike 37 = .ok (.aload_n 0, 1) := by decide +kernel
theorem dX12_hasLike_38 : decode cX12_hasLike 38 = .ok (.getfield 53, 3) := by decide +kernel
theorem dX12_hasLike_41 : decode cX12_hasLike 41 = .ok (.iload_n 1, 1) := by decide +kernel
theorem dX12_hasLike_42 : decode cX12_hasLike 42 = .ok (.aaload, 1) := by decide +kernel
theorem dX12_hasLike_43 : decode cX12_hasLike 43 = .ok (.iload_n 3, 1) := by decide +kernel
theorem dX12_hasLike_44 : decode cX12_hasLike 44 = .ok (.iaload, 1) := by decide +kernel
theorem dX12_hasLike_45 : decode cX12_hasLike 45 = .ok (.iload_n 2, 1) := by decide +kernel
theorem dX12_hasLike_46 : decode cX12_hasLike 46 = .ok (.if_icmp .eq 6, 3) := by decide +kernel
theorem dX12_hasLike_49 : decode cX12_hasLike 49 = .ok (.goto 86, 3) := by decide +kernel
theorem dX12_hasLike_52 : decode cX12_hasLike 52 = .ok (.iload_n 3, 1) := by decide +kernel
theorem dX12_hasLike_53 : decode cX12_hasLike 53 = .ok (.iconst 1, 1) := by decide +kernel
theorem dX12_hasLike_54 : decode cX12_hasLike 54 = .ok (.iadd, 1) := by decide +kernel
theorem dX12_hasLike_55 : decode cX12_hasLike 55 = .ok (.istore 4, 2) := by decide +kernel
theorem dX12_hasLike_57 : decode cX12_hasLike 57 = .ok (.iload 4, 2) := by decide +kernel
theorem dX12_hasLike_59 : decode cX12_hasLike 59 = .ok (.sipush 150, 3) := by decide +kernel
theorem dX12_hasLike_62 : decode cX12_hasLike 62 = .ok (.if_icmp .ge 73, 3) := by decide +kernel
theorem dX12_hasLike_65 : decode cX12_hasLike 65 = .ok (.aload_n 0, 1) := by decide +kernel
theorem dX12_hasLike_66 : decode cX12_hasLike 66 = .ok (.getfield 45, 3) := by decide +kernel
theorem dX12_hasLike_69 : decode cX12_hasLike 69 = .ok (.iload_n 1, 1) := by decide +kernel
theorem dX12_hasLike_70 : decode cX12_hasLike 70 = .ok (.aaload, 1) := by decide +kernel
theorem dX12_hasLike_71 : decode cX12_hasLike 71 = .ok (.iload 4, 2) := by decide +kernel
theorem dX12_hasLike_73 : decode cX12_hasLike 73 = .ok (.baload, 1) := by decide +kernel
theorem dX12_hasLike_74 : decode cX12_hasLike 74 = .ok (.ifCond .eq 55, 3) := by decide +kernel
theorem dX12_hasLike_77 : decode cX12_hasLike 77 = .ok (.aload_n 0, 1) := by decide +kernel
theorem dX12_hasLike_78 : decode cX12_hasLike 78 = .ok (.getfield 53, 3) := by decide +kernel
theorem dX12_hasLike_81 : decode cX12_hasLike 81 = .ok (.iload_n 1, 1) := by decide +kernel
theorem dX12_hasLike_82 : decode cX12_hasLike 82 = .ok (.aaload, 1) := by decide +kernel
theorem dX12_hasLike_83 : decode cX12_hasLike 83 = .ok (.iload 4, 2) := by decide +kernel
theorem dX12_hasLike_85 : decode cX12_hasLike 85 = .ok (.iaload, 1) := by decide +kernel
theorem dX12_hasLike_86 : decode cX12_hasLike 86 = .ok (.iload_n 2, 1) := by decide +kernel
theorem dX12_hasLike_87 : decode cX12_hasLike 87 = .ok (.if_icmp .ne 42, 3) := by decide +kernel
theorem dX12_hasLike_90 : decode cX12_hasLike 90 = .ok (.aload_n 0, 1) := by decide +kernel
theorem dX12_hasLike_91 : decode cX12_hasLike 91 = .ok (.iload_n 1, 1) := by decide +kernel
theorem dX12_hasLike_92 : decode cX12_hasLike 92 = .ok (.iload_n 3, 1) := by decide +kernel
theorem dX12_hasLike_93 : decode cX12_hasLike 93 = .ok (.invokevirtual 301, 3) := by decide +kernel
theorem dX12_hasLike_96 : decode cX12_hasLike 96 = .ok (.aload_n 0, 1) := by decide +kernel
theorem dX12_hasLike_97 : decode cX12_hasLike 97 = .ok (.iload_n 1, 1) := by decide +kernel
theorem dX12_hasLike_98 : decode cX12_hasLike 98 = .ok (.iload 4, 2) := by decide +kernel
theorem dX12_hasLike_100 : decode cX12_hasLike 100 = .ok (.invokevirtual 301, 3) := by decide +kernel
theorem dX12_hasLike_103 : decode cX12_hasLike 103 = .ok (.if_icmp .ne 26, 3) := by decide +kernel
theorem dX12_hasLike_106 : decode cX12_hasLike 106 = .ok (.aload_n 0, 1) := by decide +kernel
theorem dX12_hasLike_107 : decode cX12_hasLike 107 = .ok (.getfield 50, 3) := by decide +kernel
theorem dX12_hasLike_110 : decode cX12_hasLike 110 = .ok (.iload_n 1, 1) := by decide +kernel
theorem dX12_hasLike_111 : decode cX12_hasLike 111 = .ok (.aaload, 1) := by decide +kernel
theorem dX12_hasLike_112 : decode cX12_hasLike 112 = .ok (.iload_n 3, 1) := by decide +kernel
theorem dX12_hasLike_113 : decode cX12_hasLike 113 = .ok (.laload, 1) := by decide +kernel
theorem dX12_hasLike_114 : decode cX12_hasLike 114 = .ok (.aload_n 0, 1) := by decide +kernel
theorem dX12_hasLike_115 : decode cX12_hasLike 115 = .ok (.getfield 50, 3) := by decide +kernel
theorem dX12_hasLike_118 : decode cX12_hasLike 118 = .ok (.iload_n 1, 1) := by decide +kernel
theorem dX12_hasLike_119 : decode cX12_hasLike 119 = .ok (.aaload, 1) := by decide +kernel
theorem dX12_hasLike_120 : decode cX12_hasLike 120 = .ok (.iload 4, 2) := by decide +kernel
theorem dX12_hasLike_122 : decode cX12_hasLike 122 = .ok (.laload, 1) := by decide +kernel
theorem dX12_hasLike_123 : decode cX12_hasLike 123 = .ok (.lcmp, 1) := by decide +kernel
theorem dX12_hasLike_124 : decode cX12_hasLike 124 = .ok (.ifCond .ne 5, 3) := by decide +kernel
theorem dX12_hasLike_127 : decode cX12_hasLike 127 = .ok (.iconst 1, 1) := by decide +kernel
theorem dX12_hasLike_128 : decode cX12_hasLike 128 = .ok (.ireturn, 1) := by decide +kernel
theorem dX12_hasLike_129 : decode cX12_hasLike 129 = .ok (.iinc 4 1, 3) := by decide +kernel
theorem dX12_hasLike_132 : decode cX12_hasLike 132 = .ok (.goto (-75), 3) := by decide +kernel
theorem dX12_hasLike_135 : decode cX12_hasLike 135 = .ok (.iinc 3 1, 3) := by decide +kernel
theorem dX12_hasLike_138 : decode cX12_hasLike 138 = .ok (.goto (-119), 3) := by decide +kernel
theorem dX12_hasLike_141 : decode cX12_hasLike 141 = .ok (.iconst 0, 1) := by decide +kernel
theorem dX12_hasLike_142 : decode cX12_hasLike 142 = .ok (.ireturn, 1) := by decide +kernel
theorem dX12_hasOneParent_0 : decode cX12_hasOneParent 0 = .ok (.aload_n 0, 1) := by decide +kernel
theorem dX12_hasOneParent_1 : decode cX12_hasOneParent 1 = .ok (.iload_n 1, 1) := by decide +kernel
theorem dX12_hasOneParent_2 : decode cX12_hasOneParent 2 = .ok (.invokevirtual 396, 3) := by decide +kernel
theorem dX12_hasOneParent_5 : decode cX12_hasOneParent 5 = .ok (.ifCond .eq 27, 3) := by decide +kernel
theorem dX12_hasOneParent_8 : decode cX12_hasOneParent 8 = .ok (.aload_n 0, 1) := by decide +kernel
theorem dX12_hasOneParent_9 : decode cX12_hasOneParent 9 = .ok (.getfield 72, 3) := by decide +kernel
theorem dX12_hasOneParent_12 : decode cX12_hasOneParent 12 = .ok (.iload_n 1, 1) := by decide +kernel
theorem dX12_hasOneParent_13 : decode cX12_hasOneParent 13 = .ok (.iaload, 1) := by decide +kernel
theorem dX12_hasOneParent_14 : decode cX12_hasOneParent 14 = .ok (.iconst (-1), 1) := by decide +kernel
theorem dX12_hasOneParent_15 : decode cX12_hasOneParent 15 = .ok (.if_icmp .eq 17, 3) := by decide +kernel
theorem dX12_hasOneParent_18 : decode cX12_hasOneParent 18 = .ok (.aload_n 0, 1) := by decide +kernel
theorem dX12_hasOneParent_19 : decode cX12_hasOneParent 19 = .ok (.getfield 75, 3) := by decide +kernel
theorem dX12_hasOneParent_22 : decode cX12_hasOneParent 22 = .ok (.iload_n 1, 1) := by decide +kernel
theorem dX12_hasOneParent_23 : decode cX12_hasOneParent 23 = .ok (.iaload, 1) := by decide +kernel
theorem dX12_hasOneParent_24 : decode cX12_hasOneParent 24 = .ok (.iconst (-1), 1) := by decide +kernel
theorem dX12_hasOneParent_25 : decode cX12_hasOneParent 25 = .ok (.if_icmp .ne 7, 3) := by decide +kernel
theorem dX12_hasOneParent_28 : decode cX12_hasOneParent 28 = .ok (.iconst 1, 1) := by decide +kernel
theorem dX12_hasOneParent_29 : decode cX12_hasOneParent 29 = .ok (.goto 4, 3) := by decide +kernel
theorem dX12_hasOneParent_32 : decode cX12_hasOneParent 32 = .ok (.iconst 0, 1) := by decide +kernel
theorem dX12_hasOneParent_33 : decode cX12_hasOneParent 33 = .ok (.ireturn, 1) := by decide +kernel
theorem dX12_in_0 : decode cX12_in 0 = .ok (.lload_n 0, 1) := by decide +kernel
theorem dX12_in_1 : decode cX12_in 1 = .ok (.lload_n 2, 1) := by decide +kernel
theorem dX12_in_2 : decode cX12_in 2 = .ok (.lcmp, 1) := by decide +kernel
theorem dX12_in_3 : decode cX12_in 3 = .ok (.ifCond .lt 14, 3) := by decide +kernel
theorem dX12_in_6 : decode cX12_in 6 = .ok (.lload_n 0, 1) := by decide +kernel
theorem dX12_in_7 : decode cX12_in 7 = .ok (.lload 4, 2) := by decide +kernel
theorem dX12_in_9 : decode cX12_in 9 = .ok (.lcmp, 1) := by decide +kernel
theorem dX12_in_10 : decode cX12_in 10 = .ok (.ifCond .gt 7, 3) := by decide +kernel
theorem dX12_in_13 : decode cX12_in 13 = .ok (.iconst 1, 1) := by decide +kernel
theorem dX12_in_14 : decode cX12_in 14 = .ok (.goto 4, 3) := by decide +kernel
theorem dX12_in_17 : decode cX12_in 17 = .ok (.iconst 0, 1) := by decide +kernel
theorem dX12_in_18 : decode cX12_in 18 = .ok (.ireturn, 1) := by decide +kernel
theorem dX12_inDraft_0 : decode cX12_inDraft 0 = .ok (.aload_n 0, 1) := by decide +kernel
theorem dX12_inDraft_1 : decode cX12_inDraft 1 = .ok (.getfield 407, 3) := by decide +kernel
theorem dX12_inDraft_4 : decode cX12_inDraft 4 = .ok (.ifCond .eq 35, 3) := by decide +kernel
theorem dX12_inDraft_7 : decode cX12_inDraft 7 = .ok (.iload_n 1, 1) := by decide +kernel
theorem dX12_inDraft_8 : decode cX12_inDraft 8 = .ok (.i2l, 1) := by decide +kernel
theorem dX12_inDraft_9 : decode cX12_inDraft 9 = .ok (.lconst 0, 1) := by decide +kernel
theorem dX12_inDraft_10 : decode cX12_inDraft 10 = .ok (.aload_n 0, 1) := by decide +kernel
theorem dX12_inDraft_11 : decode cX12_inDraft 11 = .ok (.getfield 336, 3) := by decide +kernel
theorem dX12_inDraft_14 : decode cX12_inDraft 14 = .ok (.iconst 1, 1) := by decide +kernel
theorem dX12_inDraft_15 : decode cX12_inDraft 15 = .ok (.isub, 1) := by decide +kernel
theorem dX12_inDraft_16 : decode cX12_inDraft 16 = .ok (.i2l, 1) := by decide +kernel
theorem dX12_inDraft_17 : decode cX12_inDraft 17 = .ok (.invokestatic 171, 3) := by decide +kernel
theorem dX12_inDraft_20 : decode cX12_inDraft 20 = .ok (.ifCond .eq 19, 3) := by decide +kernel
theorem dX12_inDraft_23 : decode cX12_inDraft 23 = .ok (.aload_n 0, 1) := by decide +kernel
theorem dX12_inDraft_24 : decode cX12_inDraft 24 = .ok (.getfield 45, 3) := by decide +kernel
theorem dX12_inDraft_27 : decode cX12_inDraft 27 = .ok (.bipush 12, 2) := by decide +kernel
theorem dX12_inDraft_29 : decode cX12_inDraft 29 = .ok (.aaload, 1) := by decide +kernel
theorem dX12_inDraft_30 : decode cX12_inDraft 30 = .ok (.iload_n 1, 1) := by decide +kernel
theorem dX12_inDraft_31 : decode cX12_inDraft 31 = .ok (.baload, 1) := by decide +kernel
theorem dX12_inDraft_32 : decode cX12_inDraft 32 = .ok (.ifCond .eq 7, 3) := by decide +kernel
theorem dX12_inDraft_35 : decode cX12_inDraft 35 = .ok (.iconst 1, 1) := by decide +kernel
theorem dX12_inDraft_36 : decode cX12_inDraft 36 = .ok (.goto 4, 3) := by decide +kernel
theorem dX12_inDraft_39 : decode cX12_inDraft 39 = .ok (.iconst 0, 1) := by decide +kernel
theorem dX12_inDraft_40 : decode cX12_inDraft 40 = .ok (.ireturn, 1) := by decide +kernel
theorem dX12_isAhead_0 : decode cX12_isAhead 0 = .ok (.aload_n 0, 1) := by decide +kernel
theorem dX12_isAhead_1 : decode cX12_isAhead 1 = .ok (.iload_n 1, 1) := by decide +kernel
theorem dX12_isAhead_2 : decode cX12_isAhead 2 = .ok (.iload_n 2, 1) := by decide +kernel
theorem dX12_isAhead_3 : decode cX12_isAhead 3 = .ok (.invokevirtual 301, 3) := by decide +kernel
theorem dX12_isAhead_6 : decode cX12_isAhead 6 = .ok (.aload_n 0, 1) := by decide +kernel
theorem dX12_isAhead_7 : decode cX12_isAhead 7 = .ok (.iload_n 1, 1) := by decide +kernel
theorem dX12_isAhead_8 : decode cX12_isAhead 8 = .ok (.iload_n 3, 1) := by decide +kernel
theorem dX12_isAhead_9 : decode cX12_isAhead 9 = .ok (.invokevirtual 301, 3) := by decide +kernel
theorem dX12_isAhead_12 : decode cX12_isAhead 12 = .ok (.if_icmp .eq 24, 3) := by decide +kernel
theorem dX12_isAhead_15 : decode cX12_isAhead 15 = .ok (.aload_n 0, 1) := by decide +kernel
theorem dX12_isAhead_16 : decode cX12_isAhead 16 = .ok (.iload_n 1, 1) := by decide +kernel
theorem dX12_isAhead_17 : decode cX12_isAhead 17 = .ok (.iload_n 2, 1) := by decide +kernel
theorem dX12_isAhead_18 : decode cX12_isAhead 18 = .ok (.invokevirtual 301, 3) := by decide +kernel
theorem dX12_isAhead_21 : decode cX12_isAhead 21 = .ok (.aload_n 0, 1) := by decide +kernel
theorem dX12_isAhead_22 : decode cX12_isAhead 22 = .ok (.iload_n 1, 1) := by decide +kernel
theorem dX12_isAhead_23 : decode cX12_isAhead 23 = .ok (.iload_n 3, 1) := by decide +kernel
theorem dX12_isAhead_24 : decode cX12_isAhead 24 = .ok (.invokevirtual 301, 3) := by decide +kernel
theorem dX12_isAhead_27 : decode cX12_isAhead 27 = .ok (.if_icmp .ge 7, 3) := by decide +kernel
theorem dX12_isAhead_30 : decode cX12_isAhead 30 = .ok (.iconst 1, 1) := by decide +kernel
theorem dX12_isAhead_31 : decode cX12_isAhead 31 = .ok (.goto 4, 3) := by decide +kernel
theorem dX12_isAhead_34 : decode cX12_isAhead 34 = .ok (.iconst 0, 1) := by decide +kernel
theorem dX12_isAhead_35 : decode cX12_isAhead 35 = .ok (.ireturn, 1) := by decide +kernel
theorem dX12_isAhead_36 : decode cX12_isAhead 36 = .ok (.aload_n 0, 1) := by decide +kernel
theorem dX12_isAhead_37 : decode cX12_isAhead 37 = .ok (.getfield 50, 3) := by decide +kernel
theorem dX12_isAhead_40 : decode cX12_isAhead 40 = .ok (.iload_n 1, 1) := by decide +kernel
theorem dX12_isAhead_41 : decode cX12_isAhead 41 = .ok (.aaload, 1) := by decide +kernel
theorem dX12_isAhead_42 : decode cX12_isAhead 42 = .ok (.iload_n 2, 1) := by decide +kernel
theorem dX12_isAhead_43 : decode cX12_isAhead 43 = .ok (.laload, 1) := by decide +kernel
theorem dX12_isAhead_44 : decode cX12_isAhead 44 = .ok (.aload_n 0, 1) := by decide +kernel
theorem dX12_isAhead_45 : decode cX12_isAhead 45 = .ok (.getfield 50, 3) := by decide +kernel
theorem dX12_isAhead_48 : decode cX12_isAhead 48 = .ok (.iload_n 1, 1) := by decide +kernel
theorem dX12_isAhead_49 : decode cX12_isAhead 49 = .ok (.aaload, 1) := by decide +kernel
theorem dX12_isAhead_50 : decode cX12_isAhead 50 = .ok (.iload_n 3, 1) := by decide +kernel
theorem dX12_isAhead_51 : decode cX12_isAhead 51 = .ok (.laload, 1) := by decide +kernel
theorem dX12_isAhead_52 : decode cX12_isAhead 52 = .ok (.lcmp, 1) := by decide +kernel
theorem dX12_isAhead_53 : decode cX12_isAhead 53 = .ok (.ifCond .eq 23, 3) := by decide +kernel
theorem dX12_isAhead_56 : decode cX12_isAhead 56 = .ok (.aload_n 0, 1) := by decide +kernel
theorem dX12_isAhead_57 : decode cX12_isAhead 57 = .ok (.getfield 50, 3) := by decide +kernel
theorem dX12_isAhead_60 : decode cX12_isAhead 60 = .ok (.iload_n 1, 1) := by decide +kernel
theorem dX12_isAhead_61 : decode cX12_isAhead 61 = .ok (.aaload, 1) := by decide +kernel
theorem dX12_isAhead_62 : decode cX12_isAhead 62 = .ok (.iload_n 2, 1) := by decide +kernel
theorem dX12_isAhead_63 : decode cX12_isAhead 63 = .ok (.laload, 1) := by decide +kernel
theorem dX12_isAhead_64 : decode cX12_isAhead 64 = .ok (.aload_n 0, 1) := by decide +kernel
theorem dX12_isAhead_65 : decode cX12_isAhead 65 = .ok (.getfield 50, 3) := by decide +kernel
theorem dX12_isAhead_68 : decode cX12_isAhead 68 = .ok (.iload_n 1, 1) := by decide +kernel
theorem dX12_isAhead_69 : decode cX12_isAhead 69 = .ok (.aaload, 1) := by decide +kernel
theorem dX12_isAhead_70 : decode cX12_isAhead 70 = .ok (.iload_n 3, 1) := by decide +kernel
theorem dX12_isAhead_71 : decode cX12_isAhead 71 = .ok (.laload, 1) := by decide +kernel
theorem dX12_isAhead_72 : decode cX12_isAhead 72 = .ok (.invokestatic 304, 3) := by decide +kernel
theorem dX12_isAhead_75 : decode cX12_isAhead 75 = .ok (.ireturn, 1) := by decide +kernel
theorem dX12_isAhead_76 : decode cX12_isAhead 76 = .ok (.iload_n 2, 1) := by decide +kernel
theorem dX12_isAhead_77 : decode cX12_isAhead 77 = .ok (.iload_n 3, 1) := by decide +kernel
theorem dX12_isAhead_78 : decode cX12_isAhead 78 = .ok (.if_icmp .ge 7, 3) := by decide +kernel
theorem dX12_isAhead_81 : decode cX12_isAhead 81 = .ok (.iconst 1, 1) := by decide +kernel
theorem dX12_isAhead_82 : decode cX12_isAhead 82 = .ok (.goto 4, 3) := by decide +kernel
theorem dX12_isAhead_85 : decode cX12_isAhead 85 = .ok (.iconst 0, 1) := by decide +kernel
theorem dX12_isAhead_86 : decode cX12_isAhead 86 = .ok (.ireturn, 1) := by decide +kernel
theorem dX12_isAlike_0 : decode cX12_isAlike 0 = .ok (.iconst 0, 1) := by decide +kernel
theorem dX12_isAlike_1 : decode cX12_isAlike 1 = .ok (.istore 4, 2) := by decide +kernel
theorem dX12_isAlike_3 : decode cX12_isAlike 3 = .ok (.iload 4, 2) := by decide +kernel
theorem dX12_isAlike_5 : decode cX12_isAlike 5 = .ok (.iload_n 3, 1) := by decide +kernel
theorem dX12_isAlike_6 : decode cX12_isAlike 6 = .ok (.if_icmp .ge 32, 3) := by decide +kernel
theorem dX12_isAlike_9 : decode cX12_isAlike 9 = .ok (.aload_n 0, 1) := by decide +kernel
theorem dX12_isAlike_10 : decode cX12_isAlike 10 = .ok (.getfield 13, 3) := by decide +kernel
theorem dX12_isAlike_13 : decode cX12_isAlike 13 = .ok (.iload_n 1, 1) := by decide +kernel
theorem dX12_isAlike_14 : decode cX12_isAlike 14 = .ok (.iload 4, 2) := by decide +kernel
theorem dX12_isAlike_16 : decode cX12_isAlike 16 = .ok (.iadd, 1) := by decide +kernel
theorem dX12_isAlike_17 : decode cX12_isAlike 17 = .ok (.baload, 1) := by decide +kernel
theorem dX12_isAlike_18 : decode cX12_isAlike 18 = .ok (.aload_n 0, 1) := by decide +kernel
theorem dX12_isAlike_19 : decode cX12_isAlike 19 = .ok (.getfield 13, 3) := by decide +kernel
theorem dX12_isAlike_22 : decode cX12_isAlike 22 = .ok (.iload_n 2, 1) := by decide +kernel
theorem dX12_isAlike_23 : decode cX12_isAlike 23 = .ok (.iload 4, 2) := by decide +kernel
theorem dX12_isAlike_25 : decode cX12_isAlike 25 = .ok (.iadd, 1) := by decide +kernel
theorem dX12_isAlike_26 : decode cX12_isAlike 26 = .ok (.baload, 1) := by decide +kernel
theorem dX12_isAlike_27 : decode cX12_isAlike 27 = .ok (.if_icmp .eq 5, 3) := by decide +kernel
theorem dX12_isAlike_30 : decode cX12_isAlike 30 = .ok (.iconst 0, 1) := by decide +kernel
theorem dX12_isAlike_31 : decode cX12_isAlike 31 = .ok (.ireturn, 1) := by decide +kernel
theorem dX12_isAlike_32 : decode cX12_isAlike 32 = .ok (.iinc 4 1, 3) := by decide +kernel
theorem dX12_isAlike_35 : decode cX12_isAlike 35 = .ok (.goto (-32), 3) := by decide +kernel
theorem dX12_isAlike_38 : decode cX12_isAlike 38 = .ok (.iconst 1, 1) := by decide +kernel
theorem dX12_isAlike_39 : decode cX12_isAlike 39 = .ok (.ireturn, 1) := by decide +kernel
theorem dX12_isBaseOf_0 : decode cX12_isBaseOf 0 = .ok (.aload_n 0, 1) := by decide +kernel
theorem dX12_isBaseOf_1 : decode cX12_isBaseOf 1 = .ok (.iload_n 2, 1) := by decide +kernel
theorem dX12_isBaseOf_2 : decode cX12_isBaseOf 2 = .ok (.iload_n 1, 1) := by decide +kernel
theorem dX12_isBaseOf_3 : decode cX12_isBaseOf 3 = .ok (.invokevirtual 512, 3) := by decide +kernel
theorem dX12_isBaseOf_6 : decode cX12_isBaseOf 6 = .ok (.ifCond .eq 12, 3) := by decide +kernel
theorem dX12_isBaseOf_9 : decode cX12_isBaseOf 9 = .ok (.aload_n 0, 1) := by decide +kernel
theorem dX12_isBaseOf_10 : decode cX12_isBaseOf 10 = .ok (.iload_n 3, 1) := by decide +kernel
theorem dX12_isBaseOf_11 : decode cX12_isBaseOf 11 = .ok (.iload_n 1, 1) := by decide +kernel
theorem dX12_isBaseOf_12 : decode cX12_isBaseOf 12 = .ok (.invokevirtual 512, 3) := by decide +kernel
theorem dX12_isBaseOf_15 : decode cX12_isBaseOf 15 = .ok (.ifCond .ne 5, 3) := by decide +kernel
theorem dX12_isBaseOf_18 : decode cX12_isBaseOf 18 = .ok (.iconst 0, 1) := by decide +kernel
theorem dX12_isBaseOf_19 : decode cX12_isBaseOf 19 = .ok (.ireturn, 1) := by decide +kernel
theorem dX12_isBaseOf_20 : decode cX12_isBaseOf 20 = .ok (.iconst 0, 1) := by decide +kernel
theorem dX12_isBaseOf_21 : decode cX12_isBaseOf 21 = .ok (.istore 4, 2) := by decide +kernel
theorem dX12_isBaseOf_23 : decode cX12_isBaseOf 23 = .ok (.iload 4, 2) := by decide +kernel
theorem dX12_isBaseOf_25 : decode cX12_isBaseOf 25 = .ok (.aload_n 0, 1) := by decide +kernel
theorem dX12_isBaseOf_26 : decode cX12_isBaseOf 26 = .ok (.getfield 339, 3) := by decide +kernel
theorem dX12_isBaseOf_29 : decode cX12_isBaseOf 29 = .ok (.if_icmp .ge 47, 3) := by decide +kernel
theorem dX12_isBaseOf_32 : decode cX12_isBaseOf 32 = .ok (.iload 4, 2) := by decide +kernel
theorem dX12_isBaseOf_34 : decode cX12_isBaseOf 34 = .ok (.iload_n 1, 1) := by decide +kernel
theorem dX12_isBaseOf_35 : decode cX12_isBaseOf 35 = .ok (.if_icmp .eq 35, 3) := by decide +kernel
theorem dX12_isBaseOf_38 : decode cX12_isBaseOf 38 = .ok (.aload_n 0, 1) := by decide +kernel
theorem dX12_isBaseOf_39 : decode cX12_isBaseOf 39 = .ok (.iload_n 2, 1) := by decide +kernel
theorem dX12_isBaseOf_40 : decode cX12_isBaseOf 40 = .ok (.iload 4, 2) := by decide +kernel
theorem dX12_isBaseOf_42 : decode cX12_isBaseOf 42 = .ok (.invokevirtual 512, 3) := by decide +kernel
theorem dX12_isBaseOf_45 : decode cX12_isBaseOf 45 = .ok (.ifCond .eq 25, 3) := by decide +kernel
theorem dX12_isBaseOf_48 : decode cX12_isBaseOf 48 = .ok (.aload_n 0, 1) := by decide +kernel
theorem dX12_isBaseOf_49 : decode cX12_isBaseOf 49 = .ok (.iload_n 3, 1) := by decide +kernel
theorem dX12_isBaseOf_50 : decode cX12_isBaseOf 50 = .ok (.iload 4, 2) := by decide +kernel
theorem dX12_isBaseOf_52 : decode cX12_isBaseOf 52 = .ok (.invokevirtual 512, 3) := by decide +kernel
theorem dX12_isBaseOf_55 : decode cX12_isBaseOf 55 = .ok (.ifCond .eq 15, 3) := by decide +kernel
theorem dX12_isBaseOf_58 : decode cX12_isBaseOf 58 = .ok (.aload_n 0, 1) := by decide +kernel
theorem dX12_isBaseOf_59 : decode cX12_isBaseOf 59 = .ok (.iload 4, 2) := by decide +kernel
theorem dX12_isBaseOf_61 : decode cX12_isBaseOf 61 = .ok (.iload_n 1, 1) := by decide +kernel
theorem dX12_isBaseOf_62 : decode cX12_isBaseOf 62 = .ok (.invokevirtual 512, 3) := by decide +kernel
theorem dX12_isBaseOf_65 : decode cX12_isBaseOf 65 = .ok (.ifCond .eq 5, 3) := by decide +kernel
theorem dX12_isBaseOf_68 : decode cX12_isBaseOf 68 = .ok (.iconst 0, 1) := by decide +kernel
theorem dX12_isBaseOf_69 : decode cX12_isBaseOf 69 = .ok (.ireturn, 1) := by decide +kernel
theorem dX12_isBaseOf_70 : decode cX12_isBaseOf 70 = .ok (.iinc 4 1, 3) := by decide +kernel
theorem dX12_isBaseOf_73 : decode cX12_isBaseOf 73 = .ok (.goto (-50), 3) := by decide +kernel
theorem dX12_isBaseOf_76 : decode cX12_isBaseOf 76 = .ok (.iconst 1, 1) := by decide +kernel
theorem dX12_isBaseOf_77 : decode cX12_isBaseOf 77 = .ok (.ireturn, 1) := by decide +kernel
theorem dX12_isCut_0 : decode cX12_isCut 0 = .ok (.aload_n 0, 1) := by decide +kernel
theorem dX12_isCut_1 : decode cX12_isCut 1 = .ok (.bipush 123, 2) := by decide +kernel
theorem dX12_isCut_3 : decode cX12_isCut 3 = .ok (.invokevirtual 221, 3) := by decide +kernel
theorem dX12_isCut_6 : decode cX12_isCut 6 = .ok (.ifCond .eq 10, 3) := by decide +kernel
theorem dX12_isCut_9 : decode cX12_isCut 9 = .ok (.aload_n 0, 1) := by decide +kernel
theorem dX12_isCut_10 : decode cX12_isCut 10 = .ok (.invokevirtual 224, 3) := by decide +kernel
theorem dX12_isCut_13 : decode cX12_isCut 13 = .ok (.ifCond .eq 5, 3) := by decide +kernel
theorem dX12_isCut_16 : decode cX12_isCut 16 = .ok (.iconst 0, 1) := by decide +kernel
theorem dX12_isCut_17 : decode cX12_isCut 17 = .ok (.ireturn, 1) := by decide +kernel
theorem dX12_isCut_18 : decode cX12_isCut 18 = .ok (.aload_n 0, 1) := by decide +kernel
theorem dX12_isCut_19 : decode cX12_isCut 19 = .ok (.getfield 179, 3) := by decide +kernel
theorem dX12_isCut_22 : decode cX12_isCut 22 = .ok (.iconst 1, 1) := by decide +kernel
theorem dX12_isCut_23 : decode cX12_isCut 23 = .ok (.iadd, 1) := by decide +kernel
theorem dX12_isCut_24 : decode cX12_isCut 24 = .ok (.istore_n 1, 1) := by decide +kernel
theorem dX12_isCut_25 : decode cX12_isCut 25 = .ok (.iload_n 1, 1) := by decide +kernel
theorem dX12_isCut_26 : decode cX12_isCut 26 = .ok (.aload_n 0, 1) := by decide +kernel
theorem dX12_isCut_27 : decode cX12_isCut 27 = .ok (.getfield 163, 3) := by decide +kernel
theorem dX12_isCut_30 : decode cX12_isCut 30 = .ok (.if_icmp .ge 21, 3) := by decide +kernel
theorem dX12_isCut_33 : decode cX12_isCut 33 = .ok (.aload_n 0, 1) := by decide +kernel
theorem dX12_isCut_34 : decode cX12_isCut 34 = .ok (.getfield 9, 3) := by decide +kernel
theorem dX12_isCut_37 : decode cX12_isCut 37 = .ok (.iload_n 1, 1) := by decide +kernel
theorem dX12_isCut_38 : decode cX12_isCut 38 = .ok (.baload, 1) := by decide +kernel
theorem dX12_isCut_39 : decode cX12_isCut 39 = .ok (.invokestatic 185, 3) := by decide +kernel
theorem dX12_isCut_42 : decode cX12_isCut 42 = .ok (.ifCond .eq 9, 3) := by decide +kernel
theorem dX12_isCut_45 : decode cX12_isCut 45 = .ok (.iinc 1 1, 3) := by decide +kernel
theorem dX12_isCut_48 : decode cX12_isCut 48 = .ok (.goto (-23), 3) := by decide +kernel
theorem dX12_isCut_51 : decode cX12_isCut 51 = .ok (.iload_n 1, 1) := by decide +kernel
theorem dX12_isCut_52 : decode cX12_isCut 52 = .ok (.aload_n 0, 1) := by decide +kernel
theorem dX12_isCut_53 : decode cX12_isCut 53 = .ok (.getfield 163, 3) := by decide +kernel
theorem dX12_isCut_56 : decode cX12_isCut 56 = .ok (.if_icmp .ne 18, 3) := by decide +kernel
theorem dX12_isCut_59 : decode cX12_isCut 59 = .ok (.iload_n 1, 1) := by decide +kernel
theorem dX12_isCut_60 : decode cX12_isCut 60 = .ok (.aload_n 0, 1) := by decide +kernel
theorem dX12_isCut_61 : decode cX12_isCut 61 = .ok (.getfield 179, 3) := by decide +kernel
theorem dX12_isCut_64 : decode cX12_isCut 64 = .ok (.isub, 1) := by decide +kernel
theorem dX12_isCut_65 : decode cX12_isCut 65 = .ok (.bipush 9, 2) := by decide +kernel
theorem dX12_isCut_67 : decode cX12_isCut 67 = .ok (.if_icmp .gt 7, 3) := by decide +kernel
theorem dX12_isCut_70 : decode cX12_isCut 70 = .ok (.iconst 1, 1) := by decide +kernel
theorem dX12_isCut_71 : decode cX12_isCut 71 = .ok (.goto 4, 3) := by decide +kernel
theorem dX12_isCut_74 : decode cX12_isCut 74 = .ok (.iconst 0, 1) := by decide +kernel
theorem dX12_isCut_75 : decode cX12_isCut 75 = .ok (.ireturn, 1) := by decide +kernel
theorem dX12_isEdition_0 : decode cX12_isEdition 0 = .ok (.iload_n 1, 1) := by decide +kernel
theorem dX12_isEdition_1 : decode cX12_isEdition 1 = .ok (.i2l, 1) := by decide +kernel
theorem dX12_isEdition_2 : decode cX12_isEdition 2 = .ok (.lconst 0, 1) := by decide +kernel
theorem dX12_isEdition_3 : decode cX12_isEdition 3 = .ok (.aload_n 0, 1) := by decide +kernel
theorem dX12_isEdition_4 : decode cX12_isEdition 4 = .ok (.getfield 339, 3) := by decide +kernel
theorem dX12_isEdition_7 : decode cX12_isEdition 7 = .ok (.iconst 1, 1) := by decide +kernel
theorem dX12_isEdition_8 : decode cX12_isEdition 8 = .ok (.isub, 1) := by decide +kernel
theorem dX12_isEdition_9 : decode cX12_isEdition 9 = .ok (.i2l, 1) := by decide +kernel
theorem dX12_isEdition_10 : decode cX12_isEdition 10 = .ok (.invokestatic 171, 3) := by decide +kernel
theorem dX12_isEdition_13 : decode cX12_isEdition 13 = .ok (.ireturn, 1) := by decide +kernel
theorem dX12_isExact_0 : decode cX12_isExact 0 = .ok (.aload_n 0, 1) := by decide +kernel
theorem dX12_isExact_1 : decode cX12_isExact 1 = .ok (.getfield 354, 3) := by decide +kernel
theorem dX12_isExact_4 : decode cX12_isExact 4 = .ok (.bipush 6, 2) := by decide +kernel
theorem dX12_isExact_6 : decode cX12_isExact 6 = .ok (.if_icmp .gt 16, 3) := by decide +kernel
theorem dX12_isExact_9 : decode cX12_isExact 9 = .ok (.aload_n 0, 1) := by decide +kernel
theorem dX12_isExact_10 : decode cX12_isExact 10 = .ok (.getfield 258, 3) := by decide +kernel
theorem dX12_isExact_13 : decode cX12_isExact 13 = .ok (.bipush 6, 2) := by decide +kernel
theorem dX12_isExact_15 : decode cX12_isExact 15 = .ok (.if_icmp .gt 7, 3) := by decide +kernel
theorem dX12_isExact_18 : decode cX12_isExact 18 = .ok (.iconst 1, 1) := by decide +kernel
theorem dX12_isExact_19 : decode cX12_isExact 19 = .ok (.goto 4, 3) := by decide +kernel
theorem dX12_isExact_22 : decode cX12_isExact 22 = .ok (.iconst 0, 1) := by decide +kernel
theorem dX12_isExact_23 : decode cX12_isExact 23 = .ok (.ireturn, 1) := by decide +kernel
theorem dX12_isFree_0 : decode cX12_isFree 0 = .ok (.iconst 0, 1) := by decide +kernel
theorem dX12_isFree_1 : decode cX12_isFree 1 = .ok (.istore 6, 2) := by decide +kernel
theorem dX12_isFree_3 : decode cX12_isFree 3 = .ok (.iload 6, 2) := by decide +kernel
theorem dX12_isFree_5 : decode cX12_isFree 5 = .ok (.sipush 150, 3) := by decide +kernel
theorem dX12_isFree_8 : decode cX12_isFree 8 = .ok (.if_icmp .ge 76, 3) := by decide +kernel
theorem dX12_isFree_11 : decode cX12_isFree 11 = .ok (.iload 6, 2) := by decide +kernel
theorem dX12_isFree_13 : decode cX12_isFree 13 = .ok (.iload 5, 2) := by decide +kernel
theorem dX12_isFree_15 : decode cX12_isFree 15 = .ok (.if_icmp .eq 63, 3) := by decide +kernel
theorem dX12_isFree_18 : decode cX12_isFree 18 = .ok (.aload_n 0, 1) := by decide +kernel
theorem dX12_isFree_19 : decode cX12_isFree 19 = .ok (.getfield 45, 3) := by decide +kernel
theorem dX12_isFree_22 : decode cX12_isFree 22 = .ok (.bipush 13, 2) := by decide +kernel
theorem dX12_isFree_24 : decode cX12_isFree 24 = .ok (.aaload, 1) := by decide +kernel
theorem dX12_isFree_25 : decode cX12_isFree 25 = .ok (.iload 6, 2) := by decide +kernel
theorem dX12_isFree_27 : decode cX12_isFree 27 = .ok (.baload, 1) := by decide +kernel
theorem dX12_isFree_28 : decode cX12_isFree 28 = .ok (.ifCond .eq 50, 3) := by decide +kernel
theorem dX12_isFree_31 : decode cX12_isFree 31 = .ok (.aload_n 0, 1) := by decide +kernel
theorem dX12_isFree_32 : decode cX12_isFree 32 = .ok (.getfield 53, 3) := by decide +kernel
theorem dX12_isFree_35 : decode cX12_isFree 35 = .ok (.bipush 13, 2) := by decide +kernel
theorem dX12_isFree_37 : decode cX12_isFree 37 = .ok (.aaload, 1) := by decide +kernel
theorem dX12_isFree_38 : decode cX12_isFree 38 = .ok (.iload 6, 2) := by decide +kernel
theorem dX12_isFree_40 : decode cX12_isFree 40 = .ok (.iaload, 1) := by decide +kernel
theorem dX12_isFree_41 : decode cX12_isFree 41 = .ok (.iload 4, 2) := by decide +kernel
theorem dX12_isFree_43 : decode cX12_isFree 43 = .ok (.if_icmp .ne 35, 3) := by decide +kernel
theorem dX12_isFree_46 : decode cX12_isFree 46 = .ok (.aload_n 0, 1) := by decide +kernel
theorem dX12_isFree_47 : decode cX12_isFree 47 = .ok (.getfield 151, 3) := by decide +kernel
theorem dX12_isFree_50 : decode cX12_isFree 50 = .ok (.iload 6, 2) := by decide +kernel
theorem dX12_isFree_52 : decode cX12_isFree 52 = .ok (.baload, 1) := by decide +kernel
theorem dX12_isFree_53 : decode cX12_isFree 53 = .ok (.ifCond .eq 6, 3) := by decide +kernel
theorem dX12_isFree_56 : decode cX12_isFree 56 = .ok (.goto 22, 3) := by decide +kernel
theorem dX12_isFree_59 : decode cX12_isFree 59 = .ok (.aload_n 0, 1) := by decide +kernel
theorem dX12_isFree_60 : decode cX12_isFree 60 = .ok (.iload_n 1, 1) := by decide +kernel
theorem dX12_isFree_61 : decode cX12_isFree 61 = .ok (.iload_n 2, 1) := by decide +kernel
theorem dX12_isFree_62 : decode cX12_isFree 62 = .ok (.iload_n 3, 1) := by decide +kernel
theorem dX12_isFree_63 : decode cX12_isFree 63 = .ok (.iload 4, 2) := by decide +kernel
theorem dX12_isFree_65 : decode cX12_isFree 65 = .ok (.iload 6, 2) := by decide +kernel
theorem dX12_isFree_67 : decode cX12_isFree 67 = .ok (.iload 5, 2) := by decide +kernel
theorem dX12_isFree_69 : decode cX12_isFree 69 = .ok (.invokevirtual 489, 3) := by decide +kernel
theorem dX12_isFree_72 : decode cX12_isFree 72 = .ok (.iconst 1, 1) := by decide +kernel
theorem dX12_isFree_73 : decode cX12_isFree 73 = .ok (.if_icmp .ne 5, 3) := by decide +kernel
theorem dX12_isFree_76 : decode cX12_isFree 76 = .ok (.iconst 0, 1) := by decide +kernel
theorem dX12_isFree_77 : decode cX12_isFree 77 = .ok (.ireturn, 1) := by decide +kernel
theorem dX12_isFree_78 : decode cX12_isFree 78 = .ok (.iinc 6 1, 3) := by decide +kernel
theorem dX12_isFree_81 : decode cX12_isFree 81 = .ok (.goto (-78), 3) := by decide +kernel
theorem dX12_isFree_84 : decode cX12_isFree 84 = .ok (.iconst 1, 1) := by decide +kernel
theorem dX12_isFree_85 : decode cX12_isFree 85 = .ok (.ireturn, 1) := by decide +kernel
theorem dX12_isFrom_0 : decode cX12_isFrom 0 = .ok (.iload_n 1, 1) := by decide +kernel
theorem dX12_isFrom_1 : decode cX12_isFrom 1 = .ok (.iload_n 2, 1) := by decide +kernel
theorem dX12_isFrom_2 : decode cX12_isFrom 2 = .ok (.if_icmp .ne 5, 3) := by decide +kernel
theorem dX12_isFrom_5 : decode cX12_isFrom 5 = .ok (.iconst 1, 1) := by decide +kernel
theorem dX12_isFrom_6 : decode cX12_isFrom 6 = .ok (.ireturn, 1) := by decide +kernel
theorem dX12_isFrom_7 : decode cX12_isFrom 7 = .ok (.aload_n 0, 1) := by decide +kernel
theorem dX12_isFrom_8 : decode cX12_isFrom 8 = .ok (.getfield 72, 3) := by decide +kernel
theorem dX12_isFrom_11 : decode cX12_isFrom 11 = .ok (.iload_n 1, 1) := by decide +kernel
theorem dX12_isFrom_12 : decode cX12_isFrom 12 = .ok (.iaload, 1) := by decide +kernel
theorem dX12_isFrom_13 : decode cX12_isFrom 13 = .ok (.iconst (-1), 1) := by decide +kernel
theorem dX12_isFrom_14 : decode cX12_isFrom 14 = .ok (.if_icmp .eq 17, 3) := by decide +kernel
theorem dX12_isFrom_17 : decode cX12_isFrom 17 = .ok (.aload_n 0, 1) := by decide +kernel
theorem dX12_isFrom_18 : decode cX12_isFrom 18 = .ok (.aload_n 0, 1) := by decide +kernel
theorem dX12_isFrom_19 : decode cX12_isFrom 19 = .ok (.getfield 72, 3) := by decide +kernel
theorem dX12_isFrom_22 : decode cX12_isFrom 22 = .ok (.iload_n 1, 1) := by decide +kernel
theorem dX12_isFrom_23 : decode cX12_isFrom 23 = .ok (.iaload, 1) := by decide +kernel
theorem dX12_isFrom_24 : decode cX12_isFrom 24 = .ok (.iload_n 2, 1) := by decide +kernel
theorem dX12_isFrom_25 : decode cX12_isFrom 25 = .ok (.invokevirtual 512, 3) := by decide +kernel
theorem dX12_isFrom_28 : decode cX12_isFrom 28 = .ok (.ifCond .ne 27, 3) := by decide +kernel
theorem dX12_isFrom_31 : decode cX12_isFrom 31 = .ok (.aload_n 0, 1) := by decide +kernel
theorem dX12_isFrom_32 : decode cX12_isFrom 32 = .ok (.getfield 75, 3) := by decide +kernel
theorem dX12_isFrom_35 : decode cX12_isFrom 35 = .ok (.iload_n 1, 1) := by decide +kernel
theorem dX12_isFrom_36 : decode cX12_isFrom 36 = .ok (.iaload, 1) := by decide +kernel
theorem dX12_isFrom_37 : decode cX12_isFrom 37 = .ok (.iconst (-1), 1) := by decide +kernel
theorem dX12_isFrom_38 : decode cX12_isFrom 38 = .ok (.if_icmp .eq 21, 3) := by decide +kernel
theorem dX12_isFrom_41 : decode cX12_isFrom 41 = .ok (.aload_n 0, 1) := by decide +kernel
theorem dX12_isFrom_42 : decode cX12_isFrom 42 = .ok (.aload_n 0, 1) := by decide +kernel
theorem dX12_isFrom_43 : decode cX12_isFrom 43 = .ok (.getfield 75, 3) := by decide +kernel
theorem dX12_isFrom_46 : decode cX12_isFrom 46 = .ok (.iload_n 1, 1) := by decide +kernel
theorem dX12_isFrom_47 : decode cX12_isFrom 47 = .ok (.iaload, 1) := by decide +kernel
theorem dX12_isFrom_48 : decode cX12_isFrom 48 = .ok (.iload_n 2, 1) := by decide +kernel
theorem dX12_isFrom_49 : decode cX12_isFrom 49 = .ok (.invokevirtual 512, 3) := by decide +kernel
theorem dX12_isFrom_52 : decode cX12_isFrom 52 = .ok (.ifCond .eq 7, 3) := by decide +kernel
theorem dX12_isFrom_55 : decode cX12_isFrom 55 = .ok (.iconst 1, 1) := by decide +kernel
theorem dX12_isFrom_56 : decode cX12_isFrom 56 = .ok (.goto 4, 3) := by decide +kernel
theorem dX12_isFrom_59 : decode cX12_isFrom 59 = .ok (.iconst 0, 1) := by decide +kernel
theorem dX12_isFrom_60 : decode cX12_isFrom 60 = .ok (.ireturn, 1) := by decide +kernel
theorem dX12_isGood_0 : decode cX12_isGood 0 = .ok (.iconst 0, 1) := by decide +kernel
theorem dX12_isGood_1 : decode cX12_isGood 1 = .ok (.istore_n 2, 1) := by decide +kernel
theorem dX12_isGood_2 : decode cX12_isGood 2 = .ok (.iload_n 2, 1) := by decide +kernel
theorem dX12_isGood_3 : decode cX12_isGood 3 = .ok (.bipush 8, 2) := by decide +kernel
theorem dX12_isGood_5 : decode cX12_isGood 5 = .ok (.if_icmp .ge 34, 3) := by decide +kernel
theorem dX12_isGood_8 : decode cX12_isGood 8 = .ok (.lload_n 0, 1) := by decide +kernel
theorem dX12_isGood_9 : decode cX12_isGood 9 = .ok (.bipush 8, 2) := by decide +kernel
theorem dX12_isGood_11 : decode cX12_isGood 11 = .ok (.iload_n 2, 1) := by decide +kernel
theorem dX12_isGood_12 : decode cX12_isGood 12 = .ok (.imul, 1) := by decide +kernel
theorem dX12_isGood_13 : decode cX12_isGood 13 = .ok (.lushr, 1) := by decide +kernel
theorem dX12_isGood_14 : decode cX12_isGood 14 = .ok (.ldc2_w 420, 3) := by decide +kernel
theorem dX12_isGood_17 : decode cX12_isGood 17 = .ok (.land, 1) := by decide +kernel
theorem dX12_isGood_18 : decode cX12_isGood 18 = .ok (.l2i, 1) := by decide +kernel
theorem dX12_isGood_19 : decode cX12_isGood 19 = .ok (.istore_n 3, 1) := by decide +kernel
theorem dX12_isGood_20 : decode cX12_isGood 20 = .ok (.iload_n 3, 1) := by decide +kernel
theorem dX12_isGood_21 : decode cX12_isGood 21 = .ok (.ifCond .eq 12, 3) := by decide +kernel
theorem dX12_isGood_24 : decode cX12_isGood 24 = .ok (.iload_n 3, 1) := by decide +kernel
theorem dX12_isGood_25 : decode cX12_isGood 25 = .ok (.invokestatic 185, 3) := by decide +kernel
theorem dX12_isGood_28 : decode cX12_isGood 28 = .ok (.ifCond .ne 5, 3) := by decide +kernel
theorem dX12_isGood_31 : decode cX12_isGood 31 = .ok (.iconst 0, 1) := by decide +kernel
theorem dX12_isGood_32 : decode cX12_isGood 32 = .ok (.ireturn, 1) := by decide +kernel
theorem dX12_isGood_33 : decode cX12_isGood 33 = .ok (.iinc 2 1, 3) := by decide +kernel
theorem dX12_isGood_36 : decode cX12_isGood 36 = .ok (.goto (-34), 3) := by decide +kernel
theorem dX12_isGood_39 : decode cX12_isGood 39 = .ok (.iconst 1, 1) := by decide +kernel
theorem dX12_isGood_40 : decode cX12_isGood 40 = .ok (.ireturn, 1) := by decide +kernel
theorem dX12_isLeastOfRing_0 : decode cX12_isLeastOfRing 0 = .ok (.aload_n 0, 1) := by decide +kernel
theorem dX12_isLeastOfRing_1 : decode cX12_isLeastOfRing 1 = .ok (.getfield 53, 3) := by decide +kernel
theorem dX12_isLeastOfRing_4 : decode cX12_isLeastOfRing 4 = .ok (.bipush 13, 2) := by decide +kernel
theorem dX12_isLeastOfRing_6 : decode cX12_isLeastOfRing 6 = .ok (.aaload, 1) := by decide +kernel
theorem dX12_isLeastOfRing_7 : decode cX12_isLeastOfRing 7 = .ok (.iload_n 1, 1) := by decide +kernel
theorem dX12_isLeastOfRing_8 : decode cX12_isLeastOfRing 8 = .ok (.iaload, 1) := by decide +kernel
theorem dX12_isLeastOfRing_9 : decode cX12_isLeastOfRing 9 = .ok (.istore_n 2, 1) := by decide +kernel
theorem dX12_isLeastOfRing_10 : decode cX12_isLeastOfRing 10 = .ok (.iconst 0, 1) := by decide +kernel
theorem dX12_isLeastOfRing_11 : decode cX12_isLeastOfRing 11 = .ok (.istore_n 3, 1) := by decide +kernel
theorem dX12_isLeastOfRing_12 : decode cX12_isLeastOfRing 12 = .ok (.iload_n 2, 1) := by decide +kernel
theorem dX12_isLeastOfRing_13 : decode cX12_isLeastOfRing 13 = .ok (.iconst (-1), 1) := by decide +kernel
theorem dX12_isLeastOfRing_14 : decode cX12_isLeastOfRing 14 = .ok (.if_icmp .eq 46, 3) := by decide +kernel
theorem dX12_isLeastOfRing_17 : decode cX12_isLeastOfRing 17 = .ok (.iload_n 2, 1) := by decide +kernel
theorem dX12_isLeastOfRing_18 : decode cX12_isLeastOfRing 18 = .ok (.iload_n 1, 1) := by decide +kernel
theorem dX12_isLeastOfRing_19 : decode cX12_isLeastOfRing 19 = .ok (.if_icmp .eq 41, 3) := by decide +kernel
theorem dX12_isLeastOfRing_22 : decode cX12_isLeastOfRing 22 = .ok (.iload_n 3, 1) := by decide +kernel
theorem dX12_isLeastOfRing_23 : decode cX12_isLeastOfRing 23 = .ok (.sipush 150, 3) := by decide +kernel
theorem dX12_isLeastOfRing_26 : decode cX12_isLeastOfRing 26 = .ok (.if_icmp .ge 34, 3) := by decide +kernel
theorem dX12_isLeastOfRing_29 : decode cX12_isLeastOfRing 29 = .ok (.iload_n 2, 1) := by decide +kernel
theorem dX12_isLeastOfRing_30 : decode cX12_isLeastOfRing 30 = .ok (.iload_n 1, 1) := by decide +kernel
theorem dX12_isLeastOfRing_31 : decode cX12_isLeastOfRing 31 = .ok (.if_icmp .ge 13, 3) := by decide +kernel
theorem dX12_isLeastOfRing_34 : decode cX12_isLeastOfRing 34 = .ok (.aload_n 0, 1) := by decide +kernel
theorem dX12_isLeastOfRing_35 : decode cX12_isLeastOfRing 35 = .ok (.iload_n 2, 1) := by decide +kernel
theorem dX12_isLeastOfRing_36 : decode cX12_isLeastOfRing 36 = .ok (.invokevirtual 477, 3) := by decide +kernel
theorem dX12_isLeastOfRing_39 : decode cX12_isLeastOfRing 39 = .ok (.ifCond .eq 5, 3) := by decide +kernel
theorem dX12_isLeastOfRing_42 : decode cX12_isLeastOfRing 42 = .ok (.iconst 0, 1) := by decide +kernel
theorem dX12_isLeastOfRing_43 : decode cX12_isLeastOfRing 43 = .ok (.ireturn, 1) := by decide +kernel
theorem dX12_isLeastOfRing_44 : decode cX12_isLeastOfRing 44 = .ok (.aload_n 0, 1) := by decide +kernel
theorem dX12_isLeastOfRing_45 : decode cX12_isLeastOfRing 45 = .ok (.getfield 53, 3) := by decide +kernel
theorem dX12_isLeastOfRing_48 : decode cX12_isLeastOfRing 48 = .ok (.bipush 13, 2) := by decide +kernel
theorem dX12_isLeastOfRing_50 : decode cX12_isLeastOfRing 50 = .ok (.aaload, 1) := by decide +kernel
theorem dX12_isLeastOfRing_51 : decode cX12_isLeastOfRing 51 = .ok (.iload_n 2, 1) := by decide +kernel
theorem dX12_isLeastOfRing_52 : decode cX12_isLeastOfRing 52 = .ok (.iaload, 1) := by decide +kernel
theorem dX12_isLeastOfRing_53 : decode cX12_isLeastOfRing 53 = .ok (.istore_n 2, 1) := by decide +kernel
theorem dX12_isLeastOfRing_54 : decode cX12_isLeastOfRing 54 = .ok (.iinc 3 1, 3) := by decide +kernel
theorem dX12_isLeastOfRing_57 : decode cX12_isLeastOfRing 57 = .ok (.goto (-45), 3) := by decide +kernel
theorem dX12_isLeastOfRing_60 : decode cX12_isLeastOfRing 60 = .ok (.iload_n 2, 1) := by decide +kernel
theorem dX12_isLeastOfRing_61 : decode cX12_isLeastOfRing 61 = .ok (.iload_n 1, 1) := by decide +kernel
theorem dX12_isLeastOfRing_62 : decode cX12_isLeastOfRing 62 = .ok (.if_icmp .ne 7, 3) := by decide +kernel
theorem dX12_isLeastOfRing_65 : decode cX12_isLeastOfRing 65 = .ok (.iconst 1, 1) := by decide +kernel
theorem dX12_isLeastOfRing_66 : decode cX12_isLeastOfRing 66 = .ok (.goto 4, 3) := by decide +kernel
theorem dX12_isLeastOfRing_69 : decode cX12_isLeastOfRing 69 = .ok (.iconst 0, 1) := by decide +kernel
theorem dX12_isLeastOfRing_70 : decode cX12_isLeastOfRing 70 = .ok (.ireturn, 1) := by decide +kernel
theorem dX12_isLess_0 : decode cX12_isLess 0 = .ok (.lload_n 0, 1) := by decide +kernel
theorem dX12_isLess_1 : decode cX12_isLess 1 = .ok (.lconst 0, 1) := by decide +kernel
theorem dX12_isLess_2 : decode cX12_isLess 2 = .ok (.lcmp, 1) := by decide +kernel
theorem dX12_isLess_3 : decode cX12_isLess 3 = .ok (.ifCond .ne 7, 3) := by decide +kernel
theorem dX12_isLess_6 : decode cX12_isLess 6 = .ok (.lconst 0, 1) := by decide +kernel
theorem dX12_isLess_7 : decode cX12_isLess 7 = .ok (.goto 15, 3) := by decide +kernel
theorem dX12_isLess_10 : decode cX12_isLess 10 = .ok (.lload_n 0, 1) := by decide +kernel
theorem dX12_isLess_11 : decode cX12_isLess 11 = .ok (.bipush 8, 2) := by decide +kernel
theorem dX12_isLess_13 : decode cX12_isLess 13 = .ok (.bipush 8, 2) := by decide +kernel
theorem dX12_isLess_15 : decode cX12_isLess 15 = .ok (.lload_n 0, 1) := by decide +kernel
theorem dX12_isLess_16 : decode cX12_isLess 16 = .ok (.invokestatic 297, 3) := by decide +kernel
theorem dX12_isLess_19 : decode cX12_isLess 19 = .ok (.isub, 1) := by decide +kernel
theorem dX12_isLess_20 : decode cX12_isLess 20 = .ok (.imul, 1) := by decide +kernel
theorem dX12_isLess_21 : decode cX12_isLess 21 = .ok (.lshl, 1) := by decide +kernel
theorem dX12_isLess_22 : decode cX12_isLess 22 = .ok (.lstore 4, 2) := by decide +kernel
theorem dX12_isLess_24 : decode cX12_isLess 24 = .ok (.lload_n 2, 1) := by decide +kernel
theorem dX12_isLess_25 : decode cX12_isLess 25 = .ok (.lconst 0, 1) := by decide +kernel
theorem dX12_isLess_26 : decode cX12_isLess 26 = .ok (.lcmp, 1) := by decide +kernel
theorem dX12_isLess_27 : decode cX12_isLess 27 = .ok (.ifCond .ne 7, 3) := by decide +kernel
theorem dX12_isLess_30 : decode cX12_isLess 30 = .ok (.lconst 0, 1) := by decide +kernel
theorem dX12_isLess_31 : decode cX12_isLess 31 = .ok (.goto 15, 3) := by decide +kernel
theorem dX12_isLess_34 : decode cX12_isLess 34 = .ok (.lload_n 2, 1) := by decide +kernel
theorem dX12_isLess_35 : decode cX12_isLess 35 = .ok (.bipush 8, 2) := by decide +kernel
theorem dX12_isLess_37 : decode cX12_isLess 37 = .ok (.bipush 8, 2) := by decide +kernel
theorem dX12_isLess_39 : decode cX12_isLess 39 = .ok (.lload_n 2, 1) := by decide +kernel
theorem dX12_isLess_40 : decode cX12_isLess 40 = .ok (.invokestatic 297, 3) := by decide +kernel
theorem dX12_isLess_43 : decode cX12_isLess 43 = .ok (.isub, 1) := by decide +kernel
theorem dX12_isLess_44 : decode cX12_isLess 44 = .ok (.imul, 1) := by decide +kernel
theorem dX12_isLess_45 : decode cX12_isLess 45 = .ok (.lshl, 1) := by decide +kernel
theorem dX12_isLess_46 : decode cX12_isLess 46 = .ok (.lstore 6, 2) := by decide +kernel
theorem dX12_isLess_48 : decode cX12_isLess 48 = .ok (.lload 4, 2) := by decide +kernel
theorem dX12_isLess_50 : decode cX12_isLess 50 = .ok (.lload 6, 2) := by decide +kernel
theorem dX12_isLess_52 : decode cX12_isLess 52 = .ok (.lcmp, 1) := by decide +kernel
theorem dX12_isLess_53 : decode cX12_isLess 53 = .ok (.ifCond .ge 7, 3) := by decide +kernel
theorem dX12_isLess_56 : decode cX12_isLess 56 = .ok (.iconst 1, 1) := by decide +kernel
theorem dX12_isLess_57 : decode cX12_isLess 57 = .ok (.goto 4, 3) := by decide +kernel
theorem dX12_isLess_60 : decode cX12_isLess 60 = .ok (.iconst 0, 1) := by decide +kernel
theorem dX12_isLess_61 : decode cX12_isLess 61 = .ok (.ireturn, 1) := by decide +kernel
theorem dX12_isLetter_0 : decode cX12_isLetter 0 = .ok (.iload_n 0, 1) := by decide +kernel
theorem dX12_isLetter_1 : decode cX12_isLetter 1 = .ok (.bipush 97, 2) := by decide +kernel
theorem dX12_isLetter_3 : decode cX12_isLetter 3 = .ok (.if_icmp .lt 13, 3) := by decide +kernel
theorem dX12_isLetter_6 : decode cX12_isLetter 6 = .ok (.iload_n 0, 1) := by decide +kernel
theorem dX12_isLetter_7 : decode cX12_isLetter 7 = .ok (.bipush 122, 2) := by decide +kernel
theorem dX12_isLetter_9 : decode cX12_isLetter 9 = .ok (.if_icmp .gt 7, 3) := by decide +kernel
theorem dX12_isLetter_12 : decode cX12_isLetter 12 = .ok (.iconst 1, 1) := by decide +kernel
theorem dX12_isLetter_13 : decode cX12_isLetter 13 = .ok (.goto 4, 3) := by decide +kernel
theorem dX12_isLetter_16 : decode cX12_isLetter 16 = .ok (.iconst 0, 1) := by decide +kernel
theorem dX12_isLetter_17 : decode cX12_isLetter 17 = .ok (.ireturn, 1) := by decide +kernel
theorem dX12_isName_0 : decode cX12_isName 0 = .ok (.aload_n 0, 1) := by decide +kernel
theorem dX12_isName_1 : decode cX12_isName 1 = .ok (.getfield 179, 3) := by decide +kernel
theorem dX12_isName_4 : decode cX12_isName 4 = .ok (.aload_n 0, 1) := by decide +kernel
theorem dX12_isName_5 : decode cX12_isName 5 = .ok (.getfield 163, 3) := by decide +kernel
theorem dX12_isName_8 : decode cX12_isName 8 = .ok (.if_icmp .ge 40, 3) := by decide +kernel
theorem dX12_isName_11 : decode cX12_isName 11 = .ok (.aload_n 0, 1) := by decide +kernel
theorem dX12_isName_12 : decode cX12_isName 12 = .ok (.getfield 9, 3) := by decide +kernel
theorem dX12_isName_15 : decode cX12_isName 15 = .ok (.aload_n 0, 1) := by decide +kernel
theorem dX12_isName_16 : decode cX12_isName 16 = .ok (.getfield 179, 3) := by decide +kernel
theorem dX12_isName_19 : decode cX12_isName 19 = .ok (.baload, 1) := by decide +kernel
theorem dX12_isName_20 : decode cX12_isName 20 = .ok (.invokestatic 175, 3) := by decide +kernel
theorem dX12_isName_23 : decode cX12_isName 23 = .ok (.ifCond .eq 25, 3) := by decide +kernel
theorem dX12_isName_26 : decode cX12_isName 26 = .ok (.aload_n 0, 1) := by decide +kernel
theorem dX12_isName_27 : decode cX12_isName 27 = .ok (.ldc 213, 2) := by decide +kernel
theorem dX12_isName_29 : decode cX12_isName 29 = .ok (.invokevirtual 215, 3) := by decide +kernel
theorem dX12_isName_32 : decode cX12_isName 32 = .ok (.ifCond .ne 16, 3) := by decide +kernel
theorem dX12_isName_35 : decode cX12_isName 35 = .ok (.aload_n 0, 1) := by decide +kernel
theorem dX12_isName_36 : decode cX12_isName 36 = .ok (.ldc 219, 2) := by decide +kernel
theorem dX12_isName_38 : decode cX12_isName 38 = .ok (.invokevirtual 215, 3) := by decide +kernel
theorem dX12_isName_41 : decode cX12_isName 41 = .ok (.ifCond .ne 7, 3) := by decide +kernel
theorem dX12_isName_44 : decode cX12_isName 44 = .ok (.iconst 1, 1) := by decide +kernel
theorem dX12_isName_45 : decode cX12_isName 45 = .ok (.goto 4, 3) := by decide +kernel
theorem dX12_isName_48 : decode cX12_isName 48 = .ok (.iconst 0, 1) := by decide +kernel
theorem dX12_isName_49 : decode cX12_isName 49 = .ok (.ireturn, 1) := by decide +kernel
theorem dX12_isNode_0 : decode cX12_isNode 0 = .ok (.aload_n 0, 1) := by decide +kernel
theorem dX12_isNode_1 : decode cX12_isNode 1 = .ok (.iload_n 1, 1) := by decide +kernel
theorem dX12_isNode_2 : decode cX12_isNode 2 = .ok (.invokevirtual 545, 3) := by decide +kernel
theorem dX12_isNode_5 : decode cX12_isNode 5 = .ok (.ifCond .eq 34, 3) := by decide +kernel
theorem dX12_isNode_8 : decode cX12_isNode 8 = .ok (.iload_n 2, 1) := by decide +kernel
theorem dX12_isNode_9 : decode cX12_isNode 9 = .ok (.i2l, 1) := by decide +kernel
theorem dX12_isNode_10 : decode cX12_isNode 10 = .ok (.lconst 0, 1) := by decide +kernel
theorem dX12_isNode_11 : decode cX12_isNode 11 = .ok (.aload_n 0, 1) := by decide +kernel
theorem dX12_isNode_12 : decode cX12_isNode 12 = .ok (.getfield 336, 3) := by decide +kernel
theorem dX12_isNode_15 : decode cX12_isNode 15 = .ok (.iconst 1, 1) := by decide +kernel
theorem dX12_isNode_16 : decode cX12_isNode 16 = .ok (.isub, 1) := by decide +kernel
theorem dX12_isNode_17 : decode cX12_isNode 17 = .ok (.i2l, 1) := by decide +kernel
theorem dX12_isNode_18 : decode cX12_isNode 18 = .ok (.invokestatic 171, 3) := by decide +kernel
theorem dX12_isNode_21 : decode cX12_isNode 21 = .ok (.ifCond .eq 18, 3) := by decide +kernel
theorem dX12_isNode_24 : decode cX12_isNode 24 = .ok (.aload_n 0, 1) := by decide +kernel
theorem dX12_isNode_25 : decode cX12_isNode 25 = .ok (.getfield 45, 3) := by decide +kernel
theorem dX12_isNode_28 : decode cX12_isNode 28 = .ok (.iload_n 1, 1) := by decide +kernel
theorem dX12_isNode_29 : decode cX12_isNode 29 = .ok (.aaload, 1) := by decide +kernel
theorem dX12_isNode_30 : decode cX12_isNode 30 = .ok (.iload_n 2, 1) := by decide +kernel
theorem dX12_isNode_31 : decode cX12_isNode 31 = .ok (.baload, 1) := by decide +kernel
theorem dX12_isNode_32 : decode cX12_isNode 32 = .ok (.ifCond .eq 7, 3) := by decide +kernel
theorem dX12_isNode_35 : decode cX12_isNode 35 = .ok (.iconst 1, 1) := by decide +kernel
theorem dX12_isNode_36 : decode cX12_isNode 36 = .ok (.goto 4, 3) := by decide +kernel
theorem dX12_isNode_39 : decode cX12_isNode 39 = .ok (.iconst 0, 1) := by decide +kernel
theorem dX12_isNode_40 : decode cX12_isNode 40 = .ok (.ireturn, 1) := by decide +kernel
theorem dX12_isOfWord_0 : decode cX12_isOfWord 0 = .ok (.iload_n 0, 1) := by decide +kernel
theorem dX12_isOfWord_1 : decode cX12_isOfWord 1 = .ok (.invokestatic 175, 3) := by decide +kernel
theorem dX12_isOfWord_4 : decode cX12_isOfWord 4 = .ok (.ifCond .ne 15, 3) := by decide +kernel
theorem dX12_isOfWord_7 : decode cX12_isOfWord 7 = .ok (.iload_n 0, 1) := by decide +kernel
theorem dX12_isOfWord_8 : decode cX12_isOfWord 8 = .ok (.bipush 48, 2) := by decide +kernel
theorem dX12_isOfWord_10 : decode cX12_isOfWord 10 = .ok (.if_icmp .lt 13, 3) := by decide +kernel
theorem dX12_isOfWord_13 : decode cX12_isOfWord 13 = .ok (.iload_n 0, 1) := by decide +kernel
theorem dX12_isOfWord_14 : decode cX12_isOfWord 14 = .ok (.bipush 57, 2) := by decide +kernel
theorem dX12_isOfWord_16 : decode cX12_isOfWord 16 = .ok (.if_icmp .gt 7, 3) := by decide +kernel
theorem dX12_isOfWord_19 : decode cX12_isOfWord 19 = .ok (.iconst 1, 1) := by decide +kernel
theorem dX12_isOfWord_20 : decode cX12_isOfWord 20 = .ok (.goto 4, 3) := by decide +kernel
theorem dX12_isOfWord_23 : decode cX12_isOfWord 23 = .ok (.iconst 0, 1) := by decide +kernel
theorem dX12_isOfWord_24 : decode cX12_isOfWord 24 = .ok (.ireturn, 1) := by decide +kernel
theorem dX12_isOther_0 : decode cX12_isOther 0 = .ok (.aload_n 0, 1) := by decide +kernel
theorem dX12_isOther_1 : decode cX12_isOther 1 = .ok (.getfield 45, 3) := by decide +kernel
theorem dX12_isOther_4 : decode cX12_isOther 4 = .ok (.iload_n 3, 1) := by decide +kernel
theorem dX12_isOther_5 : decode cX12_isOther 5 = .ok (.aaload, 1) := by decide +kernel
theorem dX12_isOther_6 : decode cX12_isOther 6 = .ok (.iload_n 2, 1) := by decide +kernel
theorem dX12_isOther_7 : decode cX12_isOther 7 = .ok (.baload, 1) := by decide +kernel
theorem dX12_isOther_8 : decode cX12_isOther 8 = .ok (.ifCond .eq 42, 3) := by decide +kernel
theorem dX12_isOther_11 : decode cX12_isOther 11 = .ok (.aload_n 0, 1) := by decide +kernel
theorem dX12_isOther_12 : decode cX12_isOther 12 = .ok (.getfield 50, 3) := by decide +kernel
theorem dX12_isOther_15 : decode cX12_isOther 15 = .ok (.iload_n 1, 1) := by decide +kernel
theorem dX12_isOther_16 : decode cX12_isOther 16 = .ok (.aaload, 1) := by decide +kernel
theorem dX12_isOther_17 : decode cX12_isOther 17 = .ok (.iload_n 2, 1) := by decide +kernel
theorem dX12_isOther_18 : decode cX12_isOther 18 = .ok (.laload, 1) := by decide +kernel
theorem dX12_isOther_19 : decode cX12_isOther 19 = .ok (.aload_n 0, 1) := by decide +kernel
theorem dX12_isOther_20 : decode cX12_isOther 20 = .ok (.getfield 50, 3) := by decide +kernel
theorem dX12_isOther_23 : decode cX12_isOther 23 = .ok (.iload_n 3, 1) := by decide +kernel
theorem dX12_isOther_24 : decode cX12_isOther 24 = .ok (.aaload, 1) := by decide +kernel
theorem dX12_isOther_25 : decode cX12_isOther 25 = .ok (.iload_n 2, 1) := by decide +kernel
theorem dX12_isOther_26 : decode cX12_isOther 26 = .ok (.laload, 1) := by decide +kernel
theorem dX12_isOther_27 : decode cX12_isOther 27 = .ok (.lcmp, 1) := by decide +kernel
theorem dX12_isOther_28 : decode cX12_isOther 28 = .ok (.ifCond .ne 22, 3) := by decide +kernel
theorem dX12_isOther_31 : decode cX12_isOther 31 = .ok (.aload_n 0, 1) := by decide +kernel
theorem dX12_isOther_32 : decode cX12_isOther 32 = .ok (.getfield 53, 3) := by decide +kernel
theorem dX12_isOther_35 : decode cX12_isOther 35 = .ok (.iload_n 1, 1) := by decide +kernel
theorem dX12_isOther_36 : decode cX12_isOther 36 = .ok (.aaload, 1) := by decide +kernel
theorem dX12_isOther_37 : decode cX12_isOther 37 = .ok (.iload_n 2, 1) := by decide +kernel
theorem dX12_isOther_38 : decode cX12_isOther 38 = .ok (.iaload, 1) := by decide +kernel
theorem dX12_isOther_39 : decode cX12_isOther 39 = .ok (.aload_n 0, 1) := by decide +kernel
theorem dX12_isOther_40 : decode cX12_isOther 40 = .ok (.getfield 53, 3) := by decide +kernel
theorem dX12_isOther_43 : decode cX12_isOther 43 = .ok (.iload_n 3, 1) := by decide +kernel
theorem dX12_isOther_44 : decode cX12_isOther 44 = .ok (.aaload, 1) := by decide +kernel
theorem dX12_isOther_45 : decode cX12_isOther 45 = .ok (.iload_n 2, 1) := by decide +kernel
theorem dX12_isOther_46 : decode cX12_isOther 46 = .ok (.iaload, 1) := by decide +kernel
theorem dX12_isOther_47 : decode cX12_isOther 47 = .ok (.if_icmp .eq 7, 3) := by decide +kernel
theorem dX12_isOther_50 : decode cX12_isOther 50 = .ok (.iconst 1, 1) := by decide +kernel
theorem dX12_isOther_51 : decode cX12_isOther 51 = .ok (.goto 4, 3) := by decide +kernel
theorem dX12_isOther_54 : decode cX12_isOther 54 = .ok (.iconst 0, 1) := by decide +kernel
theorem dX12_isOther_55 : decode cX12_isOther 55 = .ok (.ireturn, 1) := by decide +kernel
theorem dX12_isReserved_0 : decode cX12_isReserved 0 = .ok (.aload_n 0, 1) := by decide +kernel
theorem dX12_isReserved_1 : decode cX12_isReserved 1 = .ok (.getfield 179, 3) := by decide +kernel
theorem dX12_isReserved_4 : decode cX12_isReserved 4 = .ok (.aload_n 0, 1) := by decide +kernel
theorem dX12_isReserved_5 : decode cX12_isReserved 5 = .ok (.getfield 163, 3) := by decide +kernel
theorem dX12_isReserved_8 : decode cX12_isReserved 8 = .ok (.if_icmp .eq 19, 3) := by decide +kernel
theorem dX12_isReserved_11 : decode cX12_isReserved 11 = .ok (.aload_n 0, 1) := by decide +kernel
theorem dX12_isReserved_12 : decode cX12_isReserved 12 = .ok (.getfield 182, 3) := by decide +kernel
theorem dX12_isReserved_15 : decode cX12_isReserved 15 = .ok (.aload_n 0, 1) := by decide +kernel
theorem dX12_isReserved_16 : decode cX12_isReserved 16 = .ok (.getfield 179, 3) := by decide +kernel
theorem dX12_isReserved_19 : decode cX12_isReserved 19 = .ok (.isub, 1) := by decide +kernel
theorem dX12_isReserved_20 : decode cX12_isReserved 20 = .ok (.aload_n 1, 1) := by decide +kernel
theorem dX12_isReserved_21 : decode cX12_isReserved 21 = .ok (.invokevirtual 203, 3) := by decide +kernel
theorem dX12_isReserved_24 : decode cX12_isReserved 24 = .ok (.if_icmp .eq 5, 3) := by decide +kernel
theorem dX12_isReserved_27 : decode cX12_isReserved 27 = .ok (.iconst 0, 1) := by decide +kernel
theorem dX12_isReserved_28 : decode cX12_isReserved 28 = .ok (.ireturn, 1) := by decide +kernel
theorem dX12_isReserved_29 : decode cX12_isReserved 29 = .ok (.iconst 0, 1) := by decide +kernel
theorem dX12_isReserved_30 : decode cX12_isReserved 30 = .ok (.istore_n 2, 1) := by decide +kernel
theorem dX12_isReserved_31 : decode cX12_isReserved 31 = .ok (.iload_n 2, 1) := by decide +kernel
theorem dX12_isReserved_32 : decode cX12_isReserved 32 = .ok (.aload_n 1, 1) := by decide +kernel
theorem dX12_isReserved_33 : decode cX12_isReserved 33 = .ok (.invokevirtual 203, 3) := by decide +kernel
theorem dX12_isReserved_36 : decode cX12_isReserved 36 = .ok (.if_icmp .ge 30, 3) := by decide +kernel
theorem dX12_isReserved_39 : decode cX12_isReserved 39 = .ok (.aload_n 0, 1) := by decide +kernel
theorem dX12_isReserved_40 : decode cX12_isReserved 40 = .ok (.getfield 9, 3) := by decide +kernel
theorem dX12_isReserved_43 : decode cX12_isReserved 43 = .ok (.aload_n 0, 1) := by decide +kernel
theorem dX12_isReserved_44 : decode cX12_isReserved 44 = .ok (.getfield 179, 3) := by decide +kernel
theorem dX12_isReserved_47 : decode cX12_isReserved 47 = .ok (.iload_n 2, 1) := by decide +kernel
theorem dX12_isReserved_48 : decode cX12_isReserved 48 = .ok (.iadd, 1) := by decide +kernel
theorem dX12_isReserved_49 : decode cX12_isReserved 49 = .ok (.baload, 1) := by decide +kernel
theorem dX12_isReserved_50 : decode cX12_isReserved 50 = .ok (.aload_n 1, 1) := by decide +kernel
theorem dX12_isReserved_51 : decode cX12_isReserved 51 = .ok (.iload_n 2, 1) := by decide +kernel
theorem dX12_isReserved_52 : decode cX12_isReserved 52 = .ok (.invokevirtual 209, 3) := by decide +kernel
theorem dX12_isReserved_55 : decode cX12_isReserved 55 = .ok (.if_icmp .eq 5, 3) := by decide +kernel
theorem dX12_isReserved_58 : decode cX12_isReserved 58 = .ok (.iconst 0, 1) := by decide +kernel
theorem dX12_isReserved_59 : decode cX12_isReserved 59 = .ok (.ireturn, 1) := by decide +kernel
theorem dX12_isReserved_60 : decode cX12_isReserved 60 = .ok (.iinc 2 1, 3) := by decide +kernel
theorem dX12_isReserved_63 : decode cX12_isReserved 63 = .ok (.goto (-32), 3) := by decide +kernel
theorem dX12_isReserved_66 : decode cX12_isReserved 66 = .ok (.iconst 1, 1) := by decide +kernel
theorem dX12_isReserved_67 : decode cX12_isReserved 67 = .ok (.ireturn, 1) := by decide +kernel
theorem dX12_isRow_0 : decode cX12_isRow 0 = .ok (.aload_n 0, 1) := by decide +kernel
theorem dX12_isRow_1 : decode cX12_isRow 1 = .ok (.iload_n 1, 1) := by decide +kernel
theorem dX12_isRow_2 : decode cX12_isRow 2 = .ok (.invokevirtual 396, 3) := by decide +kernel
theorem dX12_isRow_5 : decode cX12_isRow 5 = .ok (.ifCond .ne 16, 3) := by decide +kernel
theorem dX12_isRow_8 : decode cX12_isRow 8 = .ok (.iload_n 1, 1) := by decide +kernel
theorem dX12_isRow_9 : decode cX12_isRow 9 = .ok (.bipush 12, 2) := by decide +kernel
theorem dX12_isRow_11 : decode cX12_isRow 11 = .ok (.if_icmp .ne 14, 3) := by decide +kernel
theorem dX12_isRow_14 : decode cX12_isRow 14 = .ok (.aload_n 0, 1) := by decide +kernel
theorem dX12_isRow_15 : decode cX12_isRow 15 = .ok (.getfield 407, 3) := by decide +kernel
theorem dX12_isRow_18 : decode cX12_isRow 18 = .ok (.ifCond .eq 7, 3) := by decide +kernel
theorem dX12_isRow_21 : decode cX12_isRow 21 = .ok (.iconst 1, 1) := by decide +kernel
theorem dX12_isRow_22 : decode cX12_isRow 22 = .ok (.goto 4, 3) := by decide +kernel
theorem dX12_isRow_25 : decode cX12_isRow 25 = .ok (.iconst 0, 1) := by decide +kernel
theorem dX12_isRow_26 : decode cX12_isRow 26 = .ok (.ireturn, 1) := by decide +kernel
theorem dX12_isSame_0 : decode cX12_isSame 0 = .ok (.aload_n 0, 1) := by decide +kernel
theorem dX12_isSame_1 : decode cX12_isSame 1 = .ok (.getfield 59, 3) := by decide +kernel
theorem dX12_isSame_4 : decode cX12_isSame 4 = .ok (.iload_n 2, 1) := by decide +kernel
theorem dX12_isSame_5 : decode cX12_isSame 5 = .ok (.iaload, 1) := by decide +kernel
theorem dX12_isSame_6 : decode cX12_isSame 6 = .ok (.aload_n 0, 1) := by decide +kernel
theorem dX12_isSame_7 : decode cX12_isSame 7 = .ok (.getfield 59, 3) := by decide +kernel
theorem dX12_isSame_10 : decode cX12_isSame 10 = .ok (.iload 4, 2) := by decide +kernel
theorem dX12_isSame_12 : decode cX12_isSame 12 = .ok (.iaload, 1) := by decide +kernel
theorem dX12_isSame_13 : decode cX12_isSame 13 = .ok (.if_icmp .ne 24, 3) := by decide +kernel
theorem dX12_isSame_16 : decode cX12_isSame 16 = .ok (.aload_n 0, 1) := by decide +kernel
theorem dX12_isSame_17 : decode cX12_isSame 17 = .ok (.getfield 50, 3) := by decide +kernel
theorem dX12_isSame_20 : decode cX12_isSame 20 = .ok (.iload_n 1, 1) := by decide +kernel
theorem dX12_isSame_21 : decode cX12_isSame 21 = .ok (.aaload, 1) := by decide +kernel
theorem dX12_isSame_22 : decode cX12_isSame 22 = .ok (.iload_n 2, 1) := by decide +kernel
theorem dX12_isSame_23 : decode cX12_isSame 23 = .ok (.laload, 1) := by decide +kernel
theorem dX12_isSame_24 : decode cX12_isSame 24 = .ok (.aload_n 0, 1) := by decide +kernel
theorem dX12_isSame_25 : decode cX12_isSame 25 = .ok (.getfield 50, 3) := by decide +kernel
theorem dX12_isSame_28 : decode cX12_isSame 28 = .ok (.iload_n 3, 1) := by decide +kernel
theorem dX12_isSame_29 : decode cX12_isSame 29 = .ok (.aaload, 1) := by decide +kernel
theorem dX12_isSame_30 : decode cX12_isSame 30 = .ok (.iload 4, 2) := by decide +kernel
theorem dX12_isSame_32 : decode cX12_isSame 32 = .ok (.laload, 1) := by decide +kernel
theorem dX12_isSame_33 : decode cX12_isSame 33 = .ok (.lcmp, 1) := by decide +kernel
theorem dX12_isSame_34 : decode cX12_isSame 34 = .ok (.ifCond .eq 5, 3) := by decide +kernel
theorem dX12_isSame_37 : decode cX12_isSame 37 = .ok (.iconst 0, 1) := by decide +kernel
theorem dX12_isSame_38 : decode cX12_isSame 38 = .ok (.ireturn, 1) := by decide +kernel
theorem dX12_isSame_39 : decode cX12_isSame 39 = .ok (.aload_n 0, 1) := by decide +kernel
theorem dX12_isSame_40 : decode cX12_isSame 40 = .ok (.iload_n 1, 1) := by decide +kernel
theorem dX12_isSame_41 : decode cX12_isSame 41 = .ok (.iload_n 2, 1) := by decide +kernel
theorem dX12_isSame_42 : decode cX12_isSame 42 = .ok (.invokevirtual 291, 3) := by decide +kernel
theorem dX12_isSame_45 : decode cX12_isSame 45 = .ok (.istore 5, 2) := by decide +kernel
theorem dX12_isSame_47 : decode cX12_isSame 47 = .ok (.aload_n 0, 1) := by decide +kernel
theorem dX12_isSame_48 : decode cX12_isSame 48 = .ok (.iload_n 3, 1) := by decide +kernel
theorem dX12_isSame_49 : decode cX12_isSame 49 = .ok (.iload 4, 2) := by decide +kernel
theorem dX12_isSame_51 : decode cX12_isSame 51 = .ok (.invokevirtual 291, 3) := by decide +kernel
theorem dX12_isSame_54 : decode cX12_isSame 54 = .ok (.istore 6, 2) := by decide +kernel
theorem dX12_isSame_56 : decode cX12_isSame 56 = .ok (.iload 5, 2) := by decide +kernel
theorem dX12_isSame_58 : decode cX12_isSame 58 = .ok (.iconst (-1), 1) := by decide +kernel
theorem dX12_isSame_59 : decode cX12_isSame 59 = .ok (.if_icmp .eq 45, 3) := by decide +kernel
theorem dX12_isSame_62 : decode cX12_isSame 62 = .ok (.iload 6, 2) := by decide +kernel
theorem dX12_isSame_64 : decode cX12_isSame 64 = .ok (.iconst (-1), 1) := by decide +kernel
theorem dX12_isSame_65 : decode cX12_isSame 65 = .ok (.if_icmp .eq 39, 3) := by decide +kernel
theorem dX12_isSame_68 : decode cX12_isSame 68 = .ok (.aload_n 0, 1) := by decide +kernel
theorem dX12_isSame_69 : decode cX12_isSame 69 = .ok (.iload_n 1, 1) := by decide +kernel
theorem dX12_isSame_70 : decode cX12_isSame 70 = .ok (.iload 5, 2) := by decide +kernel
theorem dX12_isSame_72 : decode cX12_isSame 72 = .ok (.iload_n 3, 1) := by decide +kernel
theorem dX12_isSame_73 : decode cX12_isSame 73 = .ok (.iload 6, 2) := by decide +kernel
theorem dX12_isSame_75 : decode cX12_isSame 75 = .ok (.invokevirtual 557, 3) := by decide +kernel
theorem dX12_isSame_78 : decode cX12_isSame 78 = .ok (.ifCond .ne 5, 3) := by decide +kernel
theorem dX12_isSame_81 : decode cX12_isSame 81 = .ok (.iconst 0, 1) := by decide +kernel
theorem dX12_isSame_82 : decode cX12_isSame 82 = .ok (.ireturn, 1) := by decide +kernel
theorem dX12_isSame_83 : decode cX12_isSame 83 = .ok (.aload_n 0, 1) := by decide +kernel
theorem dX12_isSame_84 : decode cX12_isSame 84 = .ok (.iload_n 1, 1) := by decide +kernel
theorem dX12_isSame_85 : decode cX12_isSame 85 = .ok (.iload 5, 2) := by decide +kernel
theorem dX12_isSame_87 : decode cX12_isSame 87 = .ok (.invokevirtual 294, 3) := by decide +kernel
theorem dX12_isSame_90 : decode cX12_isSame 90 = .ok (.istore 5, 2) := by decide +kernel
theorem dX12_isSame_92 : decode cX12_isSame 92 = .ok (.aload_n 0, 1) := by decide +kernel
theorem dX12_isSame_93 : decode cX12_isSame 93 = .ok (.iload_n 3, 1) := by decide +kernel
theorem dX12_isSame_94 : decode cX12_isSame 94 = .ok (.iload 6, 2) := by decide +kernel
theorem dX12_isSame_96 : decode cX12_isSame 96 = .ok (.invokevirtual 294, 3) := by decide +kernel
theorem dX12_isSame_99 : decode cX12_isSame 99 = .ok (.istore 6, 2) := by decide +kernel
theorem dX12_isSame_101 : decode cX12_isSame 101 = .ok (.goto (-45), 3) := by decide +kernel
theorem dX12_isSame_104 : decode cX12_isSame 104 = .ok (.iload 5, 2) := by decide +kernel
theorem dX12_isSame_106 : decode cX12_isSame 106 = .ok (.iconst (-1), 1) := by decide +kernel
theorem dX12_isSame_107 : decode cX12_isSame 107 = .ok (.if_icmp .ne 13, 3) := by decide +kernel
theorem dX12_isSame_110 : decode cX12_isSame 110 = .ok (.iload 6, 2) := by decide +kernel
theorem dX12_isSame_112 : decode cX12_isSame 112 = .ok (.iconst (-1), 1) := by decide +kernel
theorem dX12_isSame_113 : decode cX12_isSame 113 = .ok (.if_icmp .ne 7, 3) := by decide +kernel
theorem dX12_isSame_116 : decode cX12_isSame 116 = .ok (.iconst 1, 1) := by decide +kernel
theorem dX12_isSame_117 : decode cX12_isSame 117 = .ok (.goto 4, 3) := by decide +kernel
theorem dX12_isSame_120 : decode cX12_isSame 120 = .ok (.iconst 0, 1) := by decide +kernel
theorem dX12_isSame_121 : decode cX12_isSame 121 = .ok (.ireturn, 1) := by decide +kernel
theorem dX12_isSameFree_0 : decode cX12_isSameFree 0 = .ok (.aload_n 0, 1) := by decide +kernel
theorem dX12_isSameFree_1 : decode cX12_isSameFree 1 = .ok (.getfield 127, 3) := by decide +kernel
theorem dX12_isSameFree_4 : decode cX12_isSameFree 4 = .ok (.aload_n 0, 1) := by decide +kernel
theorem dX12_isSameFree_5 : decode cX12_isSameFree 5 = .ok (.getfield 136, 3) := by decide +kernel
theorem dX12_isSameFree_8 : decode cX12_isSameFree 8 = .ok (.iload_n 2, 1) := by decide +kernel
theorem dX12_isSameFree_9 : decode cX12_isSameFree 9 = .ok (.iaload, 1) := by decide +kernel
theorem dX12_isSameFree_10 : decode cX12_isSameFree 10 = .ok (.iaload, 1) := by decide +kernel
theorem dX12_isSameFree_11 : decode cX12_isSameFree 11 = .ok (.iconst (-1), 1) := by decide +kernel
theorem dX12_isSameFree_12 : decode cX12_isSameFree 12 = .ok (.if_icmp .ne 49, 3) := by decide +kernel
theorem dX12_isSameFree_15 : decode cX12_isSameFree 15 = .ok (.aload_n 0, 1) := by decide +kernel
theorem dX12_isSameFree_16 : decode cX12_isSameFree 16 = .ok (.getfield 130, 3) := by decide +kernel
theorem dX12_isSameFree_19 : decode cX12_isSameFree 19 = .ok (.iload_n 3, 1) := by decide +kernel
theorem dX12_isSameFree_20 : decode cX12_isSameFree 20 = .ok (.iaload, 1) := by decide +kernel
theorem dX12_isSameFree_21 : decode cX12_isSameFree 21 = .ok (.iconst (-1), 1) := by decide +kernel
theorem dX12_isSameFree_22 : decode cX12_isSameFree 22 = .ok (.if_icmp .ne 39, 3) := by decide +kernel
theorem dX12_isSameFree_25 : decode cX12_isSameFree 25 = .ok (.aload_n 0, 1) := by decide +kernel
theorem dX12_isSameFree_26 : decode cX12_isSameFree 26 = .ok (.getfield 59, 3) := by decide +kernel
theorem dX12_isSameFree_29 : decode cX12_isSameFree 29 = .ok (.iload_n 2, 1) := by decide +kernel
theorem dX12_isSameFree_30 : decode cX12_isSameFree 30 = .ok (.iaload, 1) := by decide +kernel
theorem dX12_isSameFree_31 : decode cX12_isSameFree 31 = .ok (.aload_n 0, 1) := by decide +kernel
theorem dX12_isSameFree_32 : decode cX12_isSameFree 32 = .ok (.getfield 65, 3) := by decide +kernel
theorem dX12_isSameFree_35 : decode cX12_isSameFree 35 = .ok (.iload_n 3, 1) := by decide +kernel
theorem dX12_isSameFree_36 : decode cX12_isSameFree 36 = .ok (.iaload, 1) := by decide +kernel
theorem dX12_isSameFree_37 : decode cX12_isSameFree 37 = .ok (.if_icmp .ne 24, 3) := by decide +kernel
theorem dX12_isSameFree_40 : decode cX12_isSameFree 40 = .ok (.aload_n 0, 1) := by decide +kernel
theorem dX12_isSameFree_41 : decode cX12_isSameFree 41 = .ok (.getfield 50, 3) := by decide +kernel
theorem dX12_isSameFree_44 : decode cX12_isSameFree 44 = .ok (.iload_n 1, 1) := by decide +kernel
theorem dX12_isSameFree_45 : decode cX12_isSameFree 45 = .ok (.aaload, 1) := by decide +kernel
theorem dX12_isSameFree_46 : decode cX12_isSameFree 46 = .ok (.iload_n 2, 1) := by decide +kernel
theorem dX12_isSameFree_47 : decode cX12_isSameFree 47 = .ok (.laload, 1) := by decide +kernel
theorem dX12_isSameFree_48 : decode cX12_isSameFree 48 = .ok (.aload_n 0, 1) := by decide +kernel
theorem dX12_isSameFree_49 : decode cX12_isSameFree 49 = .ok (.getfield 50, 3) := by decide +kernel
theorem dX12_isSameFree_52 : decode cX12_isSameFree 52 = .ok (.bipush 15, 2) := by decide +kernel
theorem dX12_isSameFree_54 : decode cX12_isSameFree 54 = .ok (.aaload, 1) := by decide +kernel
theorem dX12_isSameFree_55 : decode cX12_isSameFree 55 = .ok (.iload_n 3, 1) := by decide +kernel
theorem dX12_isSameFree_56 : decode cX12_isSameFree 56 = .ok (.laload, 1) := by decide +kernel
theorem dX12_isSameFree_57 : decode cX12_isSameFree 57 = .ok (.lcmp, 1) := by decide +kernel
theorem dX12_isSameFree_58 : decode cX12_isSameFree 58 = .ok (.ifCond .eq 5, 3) := by decide +kernel
theorem dX12_isSameFree_61 : decode cX12_isSameFree 61 = .ok (.iconst 0, 1) := by decide +kernel
theorem dX12_isSameFree_62 : decode cX12_isSameFree 62 = .ok (.ireturn, 1) := by decide +kernel
theorem dX12_isSameFree_63 : decode cX12_isSameFree 63 = .ok (.aload_n 0, 1) := by decide +kernel
theorem dX12_isSameFree_64 : decode cX12_isSameFree 64 = .ok (.iload_n 1, 1) := by decide +kernel
theorem dX12_isSameFree_65 : decode cX12_isSameFree 65 = .ok (.iload_n 2, 1) := by decide +kernel
theorem dX12_isSameFree_66 : decode cX12_isSameFree 66 = .ok (.invokevirtual 291, 3) := by decide +kernel
theorem dX12_isSameFree_69 : decode cX12_isSameFree 69 = .ok (.istore 4, 2) := by decide +kernel
theorem dX12_isSameFree_71 : decode cX12_isSameFree 71 = .ok (.aload_n 0, 1) := by decide +kernel
theorem dX12_isSameFree_72 : decode cX12_isSameFree 72 = .ok (.bipush 15, 2) := by decide +kernel
theorem dX12_isSameFree_74 : decode cX12_isSameFree 74 = .ok (.iload_n 3, 1) := by decide +kernel
theorem dX12_isSameFree_75 : decode cX12_isSameFree 75 = .ok (.invokevirtual 291, 3) := by decide +kernel
theorem dX12_isSameFree_78 : decode cX12_isSameFree 78 = .ok (.istore 5, 2) := by decide +kernel
theorem dX12_isSameFree_80 : decode cX12_isSameFree 80 = .ok (.iload 4, 2) := by decide +kernel
theorem dX12_isSameFree_82 : decode cX12_isSameFree 82 = .ok (.iconst (-1), 1) := by decide +kernel
theorem dX12_isSameFree_83 : decode cX12_isSameFree 83 = .ok (.if_icmp .eq 45, 3) := by decide +kernel
theorem dX12_isSameFree_86 : decode cX12_isSameFree 86 = .ok (.iload 5, 2) := by decide +kernel
theorem dX12_isSameFree_88 : decode cX12_isSameFree 88 = .ok (.iconst (-1), 1) := by decide +kernel
theorem dX12_isSameFree_89 : decode cX12_isSameFree 89 = .ok (.if_icmp .eq 39, 3) := by decide +kernel
theorem dX12_isSameFree_92 : decode cX12_isSameFree 92 = .ok (.aload_n 0, 1) := by decide +kernel
theorem dX12_isSameFree_93 : decode cX12_isSameFree 93 = .ok (.iload_n 1, 1) := by decide +kernel
theorem dX12_isSameFree_94 : decode cX12_isSameFree 94 = .ok (.iload 4, 2) := by decide +kernel
theorem dX12_isSameFree_96 : decode cX12_isSameFree 96 = .ok (.iload 5, 2) := by decide +kernel
theorem dX12_isSameFree_98 : decode cX12_isSameFree 98 = .ok (.invokevirtual 376, 3) := by decide +kernel
theorem dX12_isSameFree_101 : decode cX12_isSameFree 101 = .ok (.ifCond .ne 5, 3) := by decide +kernel
theorem dX12_isSameFree_104 : decode cX12_isSameFree 104 = .ok (.iconst 0, 1) := by decide +kernel
theorem dX12_isSameFree_105 : decode cX12_isSameFree 105 = .ok (.ireturn, 1) := by decide +kernel
theorem dX12_isSameFree_106 : decode cX12_isSameFree 106 = .ok (.aload_n 0, 1) := by decide +kernel
theorem dX12_isSameFree_107 : decode cX12_isSameFree 107 = .ok (.iload_n 1, 1) := by decide +kernel
theorem dX12_isSameFree_108 : decode cX12_isSameFree 108 = .ok (.iload 4, 2) := by decide +kernel
theorem dX12_isSameFree_110 : decode cX12_isSameFree 110 = .ok (.invokevirtual 294, 3) := by decide +kernel
theorem dX12_isSameFree_113 : decode cX12_isSameFree 113 = .ok (.istore 4, 2) := by decide +kernel
theorem dX12_isSameFree_115 : decode cX12_isSameFree 115 = .ok (.aload_n 0, 1) := by decide +kernel
theorem dX12_isSameFree_116 : decode cX12_isSameFree 116 = .ok (.bipush 15, 2) := by decide +kernel
theorem dX12_isSameFree_118 : decode cX12_isSameFree 118 = .ok (.iload 5, 2) := by decide +kernel
theorem dX12_isSameFree_120 : decode cX12_isSameFree 120 = .ok (.invokevirtual 294, 3) := by decide +kernel
theorem dX12_isSameFree_123 : decode cX12_isSameFree 123 = .ok (.istore 5, 2) := by decide +kernel
theorem dX12_isSameFree_125 : decode cX12_isSameFree 125 = .ok (.goto (-45), 3) := by decide +kernel
theorem dX12_isSameFree_128 : decode cX12_isSameFree 128 = .ok (.iload 4, 2) := by decide +kernel
theorem dX12_isSameFree_130 : decode cX12_isSameFree 130 = .ok (.iconst (-1), 1) := by decide +kernel
theorem dX12_isSameFree_131 : decode cX12_isSameFree 131 = .ok (.if_icmp .ne 13, 3) := by decide +kernel
theorem dX12_isSameFree_134 : decode cX12_isSameFree 134 = .ok (.iload 5, 2) := by decide +kernel
theorem dX12_isSameFree_136 : decode cX12_isSameFree 136 = .ok (.iconst (-1), 1) := by decide +kernel
theorem dX12_isSameFree_137 : decode cX12_isSameFree 137 = .ok (.if_icmp .ne 7, 3) := by decide +kernel
theorem dX12_isSameFree_140 : decode cX12_isSameFree 140 = .ok (.iconst 1, 1) := by decide +kernel
theorem dX12_isSameFree_141 : decode cX12_isSameFree 141 = .ok (.goto 4, 3) := by decide +kernel
theorem dX12_isSameFree_144 : decode cX12_isSameFree 144 = .ok (.iconst 0, 1) := by decide +kernel
theorem dX12_isSameFree_145 : decode cX12_isSameFree 145 = .ok (.ireturn, 1) := by decide +kernel
theorem dX12_isSign_0 : decode cX12_isSign 0 = .ok (.aload_n 0, 1) := by decide +kernel
theorem dX12_isSign_1 : decode cX12_isSign 1 = .ok (.getfield 179, 3) := by decide +kernel
theorem dX12_isSign_4 : decode cX12_isSign 4 = .ok (.aload_n 0, 1) := by decide +kernel
theorem dX12_isSign_5 : decode cX12_isSign 5 = .ok (.getfield 163, 3) := by decide +kernel
theorem dX12_isSign_8 : decode cX12_isSign 8 = .ok (.if_icmp .ge 20, 3) := by decide +kernel
theorem dX12_isSign_11 : decode cX12_isSign 11 = .ok (.aload_n 0, 1) := by decide +kernel
theorem dX12_isSign_12 : decode cX12_isSign 12 = .ok (.getfield 9, 3) := by decide +kernel
theorem dX12_isSign_15 : decode cX12_isSign 15 = .ok (.aload_n 0, 1) := by decide +kernel
theorem dX12_isSign_16 : decode cX12_isSign 16 = .ok (.getfield 179, 3) := by decide +kernel
theorem dX12_isSign_19 : decode cX12_isSign 19 = .ok (.baload, 1) := by decide +kernel
theorem dX12_isSign_20 : decode cX12_isSign 20 = .ok (.iload_n 1, 1) := by decide +kernel
theorem dX12_isSign_21 : decode cX12_isSign 21 = .ok (.if_icmp .ne 7, 3) := by decide +kernel
theorem dX12_isSign_24 : decode cX12_isSign 24 = .ok (.iconst 1, 1) := by decide +kernel
theorem dX12_isSign_25 : decode cX12_isSign 25 = .ok (.goto 4, 3) := by decide +kernel
theorem dX12_isSign_28 : decode cX12_isSign 28 = .ok (.iconst 0, 1) := by decide +kernel
theorem dX12_isSign_29 : decode cX12_isSign 29 = .ok (.ireturn, 1) := by decide +kernel
theorem dX12_isTouched_0 : decode cX12_isTouched 0 = .ok (.iconst 0, 1) := by decide +kernel
theorem dX12_isTouched_1 : decode cX12_isTouched 1 = .ok (.istore 4, 2) := by decide +kernel
theorem dX12_isTouched_3 : decode cX12_isTouched 3 = .ok (.iload 4, 2) := by decide +kernel
theorem dX12_isTouched_5 : decode cX12_isTouched 5 = .ok (.sipush 150, 3) := by decide +kernel
theorem dX12_isTouched_8 : decode cX12_isTouched 8 = .ok (.if_icmp .ge 45, 3) := by decide +kernel
theorem dX12_isTouched_11 : decode cX12_isTouched 11 = .ok (.aload_n 0, 1) := by decide +kernel
theorem dX12_isTouched_12 : decode cX12_isTouched 12 = .ok (.getfield 45, 3) := by decide +kernel
theorem dX12_isTouched_15 : decode cX12_isTouched 15 = .ok (.iload_n 1, 1) := by decide +kernel
theorem dX12_isTouched_16 : decode cX12_isTouched 16 = .ok (.aaload, 1) := by decide +kernel
theorem dX12_isTouched_17 : decode cX12_isTouched 17 = .ok (.iload 4, 2) := by decide +kernel
theorem dX12_isTouched_19 : decode cX12_isTouched 19 = .ok (.baload, 1) := by decide +kernel
theorem dX12_isTouched_20 : decode cX12_isTouched 20 = .ok (.ifCond .eq 27, 3) := by decide +kernel
theorem dX12_isTouched_23 : decode cX12_isTouched 23 = .ok (.aload_n 0, 1) := by decide +kernel
theorem dX12_isTouched_24 : decode cX12_isTouched 24 = .ok (.iload_n 1, 1) := by decide +kernel
theorem dX12_isTouched_25 : decode cX12_isTouched 25 = .ok (.iload 4, 2) := by decide +kernel
theorem dX12_isTouched_27 : decode cX12_isTouched 27 = .ok (.iload_n 3, 1) := by decide +kernel
theorem dX12_isTouched_28 : decode cX12_isTouched 28 = .ok (.invokevirtual 458, 3) := by decide +kernel
theorem dX12_isTouched_31 : decode cX12_isTouched 31 = .ok (.ifCond .eq 16, 3) := by decide +kernel
theorem dX12_isTouched_34 : decode cX12_isTouched 34 = .ok (.aload_n 0, 1) := by decide +kernel
theorem dX12_isTouched_35 : decode cX12_isTouched 35 = .ok (.iload_n 1, 1) := by decide +kernel
theorem dX12_isTouched_36 : decode cX12_isTouched 36 = .ok (.iload 4, 2) := by decide +kernel
theorem dX12_isTouched_38 : decode cX12_isTouched 38 = .ok (.iload_n 2, 1) := by decide +kernel
theorem dX12_isTouched_39 : decode cX12_isTouched 39 = .ok (.invokevirtual 442, 3) := by decide +kernel
theorem dX12_isTouched_42 : decode cX12_isTouched 42 = .ok (.ifCond .eq 5, 3) := by decide +kernel
theorem dX12_isTouched_45 : decode cX12_isTouched 45 = .ok (.iconst 1, 1) := by decide +kernel
theorem dX12_isTouched_46 : decode cX12_isTouched 46 = .ok (.ireturn, 1) := by decide +kernel
theorem dX12_isTouched_47 : decode cX12_isTouched 47 = .ok (.iinc 4 1, 3) := by decide +kernel
theorem dX12_isTouched_50 : decode cX12_isTouched 50 = .ok (.goto (-47), 3) := by decide +kernel
theorem dX12_isTouched_53 : decode cX12_isTouched 53 = .ok (.iconst 0, 1) := by decide +kernel
theorem dX12_isTouched_54 : decode cX12_isTouched 54 = .ok (.ireturn, 1) := by decide +kernel
theorem dX12_isUnder_0 : decode cX12_isUnder 0 = .ok (.iload_n 2, 1) := by decide +kernel
theorem dX12_isUnder_1 : decode cX12_isUnder 1 = .ok (.istore 4, 2) := by decide +kernel
theorem dX12_isUnder_3 : decode cX12_isUnder 3 = .ok (.iload 4, 2) := by decide +kernel
theorem dX12_isUnder_5 : decode cX12_isUnder 5 = .ok (.iconst (-1), 1) := by decide +kernel
theorem dX12_isUnder_6 : decode cX12_isUnder 6 = .ok (.if_icmp .eq 23, 3) := by decide +kernel
theorem dX12_isUnder_9 : decode cX12_isUnder 9 = .ok (.iload 4, 2) := by decide +kernel
theorem dX12_isUnder_11 : decode cX12_isUnder 11 = .ok (.iload_n 3, 1) := by decide +kernel
theorem dX12_isUnder_12 : decode cX12_isUnder 12 = .ok (.if_icmp .eq 17, 3) := by decide +kernel
theorem dX12_isUnder_15 : decode cX12_isUnder 15 = .ok (.aload_n 0, 1) := by decide +kernel
theorem dX12_isUnder_16 : decode cX12_isUnder 16 = .ok (.getfield 53, 3) := by decide +kernel
theorem dX12_isUnder_19 : decode cX12_isUnder 19 = .ok (.iload_n 1, 1) := by decide +kernel
theorem dX12_isUnder_20 : decode cX12_isUnder 20 = .ok (.aaload, 1) := by decide +kernel
theorem dX12_isUnder_21 : decode cX12_isUnder 21 = .ok (.iload 4, 2) := by decide +kernel
theorem dX12_isUnder_23 : decode cX12_isUnder 23 = .ok (.iaload, 1) := by decide +kernel
theorem dX12_isUnder_24 : decode cX12_isUnder 24 = .ok (.istore 4, 2) := by decide +kernel
theorem dX12_isUnder_26 : decode cX12_isUnder 26 = .ok (.goto (-23), 3) := by decide +kernel
theorem dX12_isUnder_29 : decode cX12_isUnder 29 = .ok (.iload 4, 2) := by decide +kernel
theorem dX12_isUnder_31 : decode cX12_isUnder 31 = .ok (.iload_n 3, 1) := by decide +kernel
theorem dX12_isUnder_32 : decode cX12_isUnder 32 = .ok (.if_icmp .ne 7, 3) := by decide +kernel
theorem dX12_isUnder_35 : decode cX12_isUnder 35 = .ok (.iconst 1, 1) := by decide +kernel
theorem dX12_isUnder_36 : decode cX12_isUnder 36 = .ok (.goto 4, 3) := by decide +kernel
theorem dX12_isUnder_39 : decode cX12_isUnder 39 = .ok (.iconst 0, 1) := by decide +kernel
theorem dX12_isUnder_40 : decode cX12_isUnder 40 = .ok (.ireturn, 1) := by decide +kernel
theorem dX12_isWord_0 : decode cX12_isWord 0 = .ok (.aload_n 0, 1) := by decide +kernel
theorem dX12_isWord_1 : decode cX12_isWord 1 = .ok (.bipush 123, 2) := by decide +kernel
theorem dX12_isWord_3 : decode cX12_isWord 3 = .ok (.invokevirtual 221, 3) := by decide +kernel
theorem dX12_isWord_6 : decode cX12_isWord 6 = .ok (.ifCond .eq 20, 3) := by decide +kernel
theorem dX12_isWord_9 : decode cX12_isWord 9 = .ok (.aload_n 0, 1) := by decide +kernel
theorem dX12_isWord_10 : decode cX12_isWord 10 = .ok (.getfield 182, 3) := by decide +kernel
theorem dX12_isWord_13 : decode cX12_isWord 13 = .ok (.aload_n 0, 1) := by decide +kernel
theorem dX12_isWord_14 : decode cX12_isWord 14 = .ok (.getfield 179, 3) := by decide +kernel
theorem dX12_isWord_17 : decode cX12_isWord 17 = .ok (.iconst 1, 1) := by decide +kernel
theorem dX12_isWord_18 : decode cX12_isWord 18 = .ok (.iadd, 1) := by decide +kernel
theorem dX12_isWord_19 : decode cX12_isWord 19 = .ok (.if_icmp .le 7, 3) := by decide +kernel
theorem dX12_isWord_22 : decode cX12_isWord 22 = .ok (.iconst 1, 1) := by decide +kernel
theorem dX12_isWord_23 : decode cX12_isWord 23 = .ok (.goto 4, 3) := by decide +kernel
theorem dX12_isWord_26 : decode cX12_isWord 26 = .ok (.iconst 0, 1) := by decide +kernel
theorem dX12_isWord_27 : decode cX12_isWord 27 = .ok (.ireturn, 1) := by decide +kernel
theorem dX12_items_0 : decode cX12_items 0 = .ok (.iconst 1, 1) := by decide +kernel
theorem dX12_items_1 : decode cX12_items 1 = .ok (.istore_n 2, 1) := by decide +kernel
theorem dX12_items_2 : decode cX12_items 2 = .ok (.iload_n 2, 1) := by decide +kernel
theorem dX12_items_3 : decode cX12_items 3 = .ok (.ifCond .eq 149, 3) := by decide +kernel
theorem dX12_items_6 : decode cX12_items 6 = .ok (.aload_n 0, 1) := by decide +kernel
theorem dX12_items_7 : decode cX12_items 7 = .ok (.getfield 179, 3) := by decide +kernel
theorem dX12_items_10 : decode cX12_items 10 = .ok (.istore_n 3, 1) := by decide +kernel
theorem dX12_items_11 : decode cX12_items 11 = .ok (.aload_n 0, 1) := by decide +kernel
theorem dX12_items_12 : decode cX12_items 12 = .ok (.getfield 182, 3) := by decide +kernel
theorem dX12_items_15 : decode cX12_items 15 = .ok (.aload_n 0, 1) := by decide +kernel
theorem dX12_items_16 : decode cX12_items 16 = .ok (.getfield 179, 3) := by decide +kernel
theorem dX12_items_19 : decode cX12_items 19 = .ok (.isub, 1) := by decide +kernel
theorem dX12_items_20 : decode cX12_items 20 = .ok (.istore 4, 2) := by decide +kernel
theorem dX12_items_22 : decode cX12_items 22 = .ok (.aload_n 0, 1) := by decide +kernel
theorem dX12_items_23 : decode cX12_items 23 = .ok (.aload_n 0, 1) := by decide +kernel
theorem dX12_items_24 : decode cX12_items 24 = .ok (.invokevirtual 234, 3) := by decide +kernel
theorem dX12_items_27 : decode cX12_items 27 = .ok (.invokevirtual 237, 3) := by decide +kernel
theorem dX12_items_30 : decode cX12_items 30 = .ok (.ifCond .ne 5, 3) := by decide +kernel
theorem dX12_items_33 : decode cX12_items 33 = .ok (.iconst 0, 1) := by decide +kernel
theorem dX12_items_34 : decode cX12_items 34 = .ok (.ireturn, 1) := by decide +kernel
theorem dX12_items_35 : decode cX12_items 35 = .ok (.aload_n 0, 1) := by decide +kernel
theorem dX12_items_36 : decode cX12_items 36 = .ok (.getfield 26, 3) := by decide +kernel
theorem dX12_items_39 : decode cX12_items 39 = .ok (.iload_n 1, 1) := by decide +kernel
theorem dX12_items_40 : decode cX12_items 40 = .ok (.iaload, 1) := by decide +kernel
theorem dX12_items_41 : decode cX12_items 41 = .ok (.istore 5, 2) := by decide +kernel
theorem dX12_items_43 : decode cX12_items 43 = .ok (.aload_n 0, 1) := by decide +kernel
theorem dX12_items_44 : decode cX12_items 44 = .ok (.getfield 31, 3) := by decide +kernel
theorem dX12_items_47 : decode cX12_items 47 = .ok (.iload_n 1, 1) := by decide +kernel
theorem dX12_items_48 : decode cX12_items 48 = .ok (.aaload, 1) := by decide +kernel
theorem dX12_items_49 : decode cX12_items 49 = .ok (.iload 5, 2) := by decide +kernel
theorem dX12_items_51 : decode cX12_items 51 = .ok (.iload_n 3, 1) := by decide +kernel
theorem dX12_items_52 : decode cX12_items 52 = .ok (.iastore, 1) := by decide +kernel
theorem dX12_items_53 : decode cX12_items 53 = .ok (.aload_n 0, 1) := by decide +kernel
theorem dX12_items_54 : decode cX12_items 54 = .ok (.getfield 34, 3) := by decide +kernel
theorem dX12_items_57 : decode cX12_items 57 = .ok (.iload_n 1, 1) := by decide +kernel
theorem dX12_items_58 : decode cX12_items 58 = .ok (.aaload, 1) := by decide +kernel
theorem dX12_items_59 : decode cX12_items 59 = .ok (.iload 5, 2) := by decide +kernel
theorem dX12_items_61 : decode cX12_items 61 = .ok (.iload 4, 2) := by decide +kernel
theorem dX12_items_63 : decode cX12_items 63 = .ok (.iastore, 1) := by decide +kernel
theorem dX12_items_64 : decode cX12_items 64 = .ok (.aload_n 0, 1) := by decide +kernel
theorem dX12_items_65 : decode cX12_items 65 = .ok (.getfield 37, 3) := by decide +kernel
theorem dX12_items_68 : decode cX12_items 68 = .ok (.iload_n 1, 1) := by decide +kernel
theorem dX12_items_69 : decode cX12_items 69 = .ok (.aaload, 1) := by decide +kernel
theorem dX12_items_70 : decode cX12_items 70 = .ok (.iload 5, 2) := by decide +kernel
theorem dX12_items_72 : decode cX12_items 72 = .ok (.iconst 0, 1) := by decide +kernel
theorem dX12_items_73 : decode cX12_items 73 = .ok (.iastore, 1) := by decide +kernel
theorem dX12_items_74 : decode cX12_items 74 = .ok (.aload_n 0, 1) := by decide +kernel
theorem dX12_items_75 : decode cX12_items 75 = .ok (.getfield 26, 3) := by decide +kernel
theorem dX12_items_78 : decode cX12_items 78 = .ok (.iload_n 1, 1) := by decide +kernel
theorem dX12_items_79 : decode cX12_items 79 = .ok (.dup2, 1) := by decide +kernel
theorem dX12_items_80 : decode cX12_items 80 = .ok (.iaload, 1) := by decide +kernel
theorem dX12_items_81 : decode cX12_items 81 = .ok (.iconst 1, 1) := by decide +kernel
theorem dX12_items_82 : decode cX12_items 82 = .ok (.iadd, 1) := by decide +kernel
theorem dX12_items_83 : decode cX12_items 83 = .ok (.iastore, 1) := by decide +kernel
theorem dX12_items_84 : decode cX12_items 84 = .ok (.aload_n 0, 1) := by decide +kernel
theorem dX12_items_85 : decode cX12_items 85 = .ok (.getfield 23, 3) := by decide +kernel
theorem dX12_items_88 : decode cX12_items 88 = .ok (.iload_n 1, 1) := by decide +kernel
theorem dX12_items_89 : decode cX12_items 89 = .ok (.iaload, 1) := by decide +kernel
theorem dX12_items_90 : decode cX12_items 90 = .ok (.iconst 2, 1) := by decide +kernel
theorem dX12_items_91 : decode cX12_items 91 = .ok (.if_icmp .ne 43, 3) := by decide +kernel
theorem dX12_items_94 : decode cX12_items 94 = .ok (.aload_n 0, 1) := by decide +kernel
theorem dX12_items_95 : decode cX12_items 95 = .ok (.bipush 63, 2) := by decide +kernel
theorem dX12_items_97 : decode cX12_items 97 = .ok (.invokevirtual 221, 3) := by decide +kernel
theorem dX12_items_100 : decode cX12_items 100 = .ok (.ifCond .ne 12, 3) := by decide +kernel
theorem dX12_items_103 : decode cX12_items 103 = .ok (.aload_n 0, 1) := by decide +kernel
theorem dX12_items_104 : decode cX12_items 104 = .ok (.bipush 42, 2) := by decide +kernel
theorem dX12_items_106 : decode cX12_items 106 = .ok (.invokevirtual 221, 3) := by decide +kernel
theorem dX12_items_109 : decode cX12_items 109 = .ok (.ifCond .eq 25, 3) := by decide +kernel
theorem dX12_items_112 : decode cX12_items 112 = .ok (.aload_n 0, 1) := by decide +kernel
theorem dX12_items_113 : decode cX12_items 113 = .ok (.getfield 37, 3) := by decide +kernel
theorem dX12_items_116 : decode cX12_items 116 = .ok (.iload_n 1, 1) := by decide +kernel
theorem dX12_items_117 : decode cX12_items 117 = .ok (.aaload, 1) := by decide +kernel
theorem dX12_items_118 : decode cX12_items 118 = .ok (.iload 5, 2) := by decide +kernel
theorem dX12_items_120 : decode cX12_items 120 = .ok (.aload_n 0, 1) := by decide +kernel
theorem dX12_items_121 : decode cX12_items 121 = .ok (.getfield 9, 3) := by decide +kernel
theorem dX12_items_124 : decode cX12_items 124 = .ok (.aload_n 0, 1) := by decide +kernel
theorem dX12_items_125 : decode cX12_items 125 = .ok (.getfield 179, 3) := by decide +kernel
theorem dX12_items_128 : decode cX12_items 128 = .ok (.baload, 1) := by decide +kernel
theorem dX12_items_129 : decode cX12_items 129 = .ok (.iastore, 1) := by decide +kernel
theorem dX12_items_130 : decode cX12_items 130 = .ok (.aload_n 0, 1) := by decide +kernel
theorem dX12_items_131 : decode cX12_items 131 = .ok (.invokevirtual 200, 3) := by decide +kernel
theorem dX12_items_134 : decode cX12_items 134 = .ok (.aload_n 0, 1) := by decide +kernel
theorem dX12_items_135 : decode cX12_items 135 = .ok (.bipush 59, 2) := by decide +kernel
theorem dX12_items_137 : decode cX12_items 137 = .ok (.invokevirtual 221, 3) := by decide +kernel
theorem dX12_items_140 : decode cX12_items 140 = .ok (.ifCond .ne 7, 3) := by decide +kernel
theorem dX12_items_143 : decode cX12_items 143 = .ok (.iconst 1, 1) := by decide +kernel
theorem dX12_items_144 : decode cX12_items 144 = .ok (.goto 4, 3) := by decide +kernel
theorem dX12_items_147 : decode cX12_items 147 = .ok (.iconst 0, 1) := by decide +kernel
theorem dX12_items_148 : decode cX12_items 148 = .ok (.istore_n 2, 1) := by decide +kernel
theorem dX12_items_149 : decode cX12_items 149 = .ok (.goto (-147), 3) := by decide +kernel
theorem dX12_items_152 : decode cX12_items 152 = .ok (.aload_n 0, 1) := by decide +kernel
theorem dX12_items_153 : decode cX12_items 153 = .ok (.iconst 1, 1) := by decide +kernel
theorem dX12_items_154 : decode cX12_items 154 = .ok (.invokevirtual 237, 3) := by decide +kernel
theorem dX12_items_157 : decode cX12_items 157 = .ok (.ireturn, 1) := by decide +kernel
theorem dX12_kidBehind_0 : decode cX12_kidBehind 0 = .ok (.iconst (-1), 1) := by decide +kernel
theorem dX12_kidBehind_1 : decode cX12_kidBehind 1 = .ok (.istore 4, 2) := by decide +kernel
theorem dX12_kidBehind_3 : decode cX12_kidBehind 3 = .ok (.iconst 0, 1) := by decide +kernel
theorem dX12_kidBehind_4 : decode cX12_kidBehind 4 = .ok (.istore 5, 2) := by decide +kernel
theorem dX12_kidBehind_6 : decode cX12_kidBehind 6 = .ok (.iload 5, 2) := by decide +kernel
theorem dX12_kidBehind_8 : decode cX12_kidBehind 8 = .ok (.sipush 150, 3) := by decide +kernel
theorem dX12_kidBehind_11 : decode cX12_kidBehind 11 = .ok (.if_icmp .ge 81, 3) := by decide +kernel
theorem dX12_kidBehind_14 : decode cX12_kidBehind 14 = .ok (.aload_n 0, 1) := by decide +kernel
theorem dX12_kidBehind_15 : decode cX12_kidBehind 15 = .ok (.getfield 45, 3) := by decide +kernel
theorem dX12_kidBehind_18 : decode cX12_kidBehind 18 = .ok (.iload_n 1, 1) := by decide +kernel
theorem dX12_kidBehind_19 : decode cX12_kidBehind 19 = .ok (.aaload, 1) := by decide +kernel
theorem dX12_kidBehind_20 : decode cX12_kidBehind 20 = .ok (.iload 5, 2) := by decide +kernel
theorem dX12_kidBehind_22 : decode cX12_kidBehind 22 = .ok (.baload, 1) := by decide +kernel
theorem dX12_kidBehind_23 : decode cX12_kidBehind 23 = .ok (.ifCond .eq 63, 3) := by decide +kernel
theorem dX12_kidBehind_26 : decode cX12_kidBehind 26 = .ok (.aload_n 0, 1) := by decide +kernel
theorem dX12_kidBehind_27 : decode cX12_kidBehind 27 = .ok (.getfield 53, 3) := by decide +kernel
theorem dX12_kidBehind_30 : decode cX12_kidBehind 30 = .ok (.iload_n 1, 1) := by decide +kernel
theorem dX12_kidBehind_31 : decode cX12_kidBehind 31 = .ok (.aaload, 1) := by decide +kernel
theorem dX12_kidBehind_32 : decode cX12_kidBehind 32 = .ok (.iload 5, 2) := by decide +kernel
theorem dX12_kidBehind_34 : decode cX12_kidBehind 34 = .ok (.iaload, 1) := by decide +kernel
theorem dX12_kidBehind_35 : decode cX12_kidBehind 35 = .ok (.iload_n 2, 1) := by decide +kernel
theorem dX12_kidBehind_36 : decode cX12_kidBehind 36 = .ok (.if_icmp .ne 50, 3) := by decide +kernel
theorem dX12_kidBehind_39 : decode cX12_kidBehind 39 = .ok (.aload_n 0, 1) := by decide +kernel
theorem dX12_kidBehind_40 : decode cX12_kidBehind 40 = .ok (.getfield 56, 3) := by decide +kernel
theorem dX12_kidBehind_43 : decode cX12_kidBehind 43 = .ok (.iload_n 1, 1) := by decide +kernel
theorem dX12_kidBehind_44 : decode cX12_kidBehind 44 = .ok (.aaload, 1) := by decide +kernel
theorem dX12_kidBehind_45 : decode cX12_kidBehind 45 = .ok (.iload 5, 2) := by decide +kernel
theorem dX12_kidBehind_47 : decode cX12_kidBehind 47 = .ok (.iaload, 1) := by decide +kernel
theorem dX12_kidBehind_48 : decode cX12_kidBehind 48 = .ok (.iload_n 3, 1) := by decide +kernel
theorem dX12_kidBehind_49 : decode cX12_kidBehind 49 = .ok (.if_icmp .gt 6, 3) := by decide +kernel
theorem dX12_kidBehind_52 : decode cX12_kidBehind 52 = .ok (.goto 34, 3) := by decide +kernel
theorem dX12_kidBehind_55 : decode cX12_kidBehind 55 = .ok (.iload 4, 2) := by decide +kernel
theorem dX12_kidBehind_57 : decode cX12_kidBehind 57 = .ok (.iconst (-1), 1) := by decide +kernel
theorem dX12_kidBehind_58 : decode cX12_kidBehind 58 = .ok (.if_icmp .eq 24, 3) := by decide +kernel
theorem dX12_kidBehind_61 : decode cX12_kidBehind 61 = .ok (.aload_n 0, 1) := by decide +kernel
theorem dX12_kidBehind_62 : decode cX12_kidBehind 62 = .ok (.getfield 56, 3) := by decide +kernel
theorem dX12_kidBehind_65 : decode cX12_kidBehind 65 = .ok (.iload_n 1, 1) := by decide +kernel
theorem dX12_kidBehind_66 : decode cX12_kidBehind 66 = .ok (.aaload, 1) := by decide +kernel
theorem dX12_kidBehind_67 : decode cX12_kidBehind 67 = .ok (.iload 5, 2) := by decide +kernel
theorem dX12_kidBehind_69 : decode cX12_kidBehind 69 = .ok (.iaload, 1) := by decide +kernel
theorem dX12_kidBehind_70 : decode cX12_kidBehind 70 = .ok (.aload_n 0, 1) := by decide +kernel
theorem dX12_kidBehind_71 : decode cX12_kidBehind 71 = .ok (.getfield 56, 3) := by decide +kernel
theorem dX12_kidBehind_74 : decode cX12_kidBehind 74 = .ok (.iload_n 1, 1) := by decide +kernel
theorem dX12_kidBehind_75 : decode cX12_kidBehind 75 = .ok (.aaload, 1) := by decide +kernel
theorem dX12_kidBehind_76 : decode cX12_kidBehind 76 = .ok (.iload 4, 2) := by decide +kernel
theorem dX12_kidBehind_78 : decode cX12_kidBehind 78 = .ok (.iaload, 1) := by decide +kernel
theorem dX12_kidBehind_79 : decode cX12_kidBehind 79 = .ok (.if_icmp .ge 7, 3) := by decide +kernel
theorem dX12_kidBehind_82 : decode cX12_kidBehind 82 = .ok (.iload 5, 2) := by decide +kernel
theorem dX12_kidBehind_84 : decode cX12_kidBehind 84 = .ok (.istore 4, 2) := by decide +kernel
theorem dX12_kidBehind_86 : decode cX12_kidBehind 86 = .ok (.iinc 5 1, 3) := by decide +kernel
theorem dX12_kidBehind_89 : decode cX12_kidBehind 89 = .ok (.goto (-83), 3) := by decide +kernel
theorem dX12_kidBehind_92 : decode cX12_kidBehind 92 = .ok (.iload 4, 2) := by decide +kernel
theorem dX12_kidBehind_94 : decode cX12_kidBehind 94 = .ok (.ireturn, 1) := by decide +kernel
theorem dX12_kidsOf_0 : decode cX12_kidsOf 0 = .ok (.iconst 0, 1) := by decide +kernel
theorem dX12_kidsOf_1 : decode cX12_kidsOf 1 = .ok (.istore_n 3, 1) := by decide +kernel
theorem dX12_kidsOf_2 : decode cX12_kidsOf 2 = .ok (.iconst 0, 1) := by decide +kernel
theorem dX12_kidsOf_3 : decode cX12_kidsOf 3 = .ok (.istore 4, 2) := by decide +kernel
theorem dX12_kidsOf_5 : decode cX12_kidsOf 5 = .ok (.iload 4, 2) := by decide +kernel
theorem dX12_kidsOf_7 : decode cX12_kidsOf 7 = .ok (.sipush 150, 3) := by decide +kernel
theorem dX12_kidsOf_10 : decode cX12_kidsOf 10 = .ok (.if_icmp .ge 42, 3) := by decide +kernel
theorem dX12_kidsOf_13 : decode cX12_kidsOf 13 = .ok (.iload_n 3, 1) := by decide +kernel
theorem dX12_kidsOf_14 : decode cX12_kidsOf 14 = .ok (.aload_n 0, 1) := by decide +kernel
theorem dX12_kidsOf_15 : decode cX12_kidsOf 15 = .ok (.getfield 45, 3) := by decide +kernel
theorem dX12_kidsOf_18 : decode cX12_kidsOf 18 = .ok (.iload_n 1, 1) := by decide +kernel
theorem dX12_kidsOf_19 : decode cX12_kidsOf 19 = .ok (.aaload, 1) := by decide +kernel
theorem dX12_kidsOf_20 : decode cX12_kidsOf 20 = .ok (.iload 4, 2) := by decide +kernel
theorem dX12_kidsOf_22 : decode cX12_kidsOf 22 = .ok (.baload, 1) := by decide +kernel
theorem dX12_kidsOf_23 : decode cX12_kidsOf 23 = .ok (.ifCond .eq 20, 3) := by decide +kernel
theorem dX12_kidsOf_26 : decode cX12_kidsOf 26 = .ok (.aload_n 0, 1) := by decide +kernel
theorem dX12_kidsOf_27 : decode cX12_kidsOf 27 = .ok (.getfield 53, 3) := by decide +kernel
theorem dX12_kidsOf_30 : decode cX12_kidsOf 30 = .ok (.iload_n 1, 1) := by decide +kernel
theorem dX12_kidsOf_31 : decode cX12_kidsOf 31 = .ok (.aaload, 1) := by decide +kernel
theorem dX12_kidsOf_32 : decode cX12_kidsOf 32 = .ok (.iload 4, 2) := by decide +kernel
theorem dX12_kidsOf_34 : decode cX12_kidsOf 34 = .ok (.iaload, 1) := by decide +kernel
theorem dX12_kidsOf_35 : decode cX12_kidsOf 35 = .ok (.iload_n 2, 1) := by decide +kernel
theorem dX12_kidsOf_36 : decode cX12_kidsOf 36 = .ok (.if_icmp .ne 7, 3) := by decide +kernel
theorem dX12_kidsOf_39 : decode cX12_kidsOf 39 = .ok (.iconst 1, 1) := by decide +kernel
theorem dX12_kidsOf_40 : decode cX12_kidsOf 40 = .ok (.goto 4, 3) := by decide +kernel
theorem dX12_kidsOf_43 : decode cX12_kidsOf 43 = .ok (.iconst 0, 1) := by decide +kernel
theorem dX12_kidsOf_44 : decode cX12_kidsOf 44 = .ok (.iadd, 1) := by decide +kernel
theorem dX12_kidsOf_45 : decode cX12_kidsOf 45 = .ok (.istore_n 3, 1) := by decide +kernel
theorem dX12_kidsOf_46 : decode cX12_kidsOf 46 = .ok (.iinc 4 1, 3) := by decide +kernel
theorem dX12_kidsOf_49 : decode cX12_kidsOf 49 = .ok (.goto (-44), 3) := by decide +kernel
theorem dX12_kidsOf_52 : decode cX12_kidsOf 52 = .ok (.iload_n 3, 1) := by decide +kernel
theorem dX12_kidsOf_53 : decode cX12_kidsOf 53 = .ok (.ireturn, 1) := by decide +kernel
theorem dX12_kindAt_0 : decode cX12_kindAt 0 = .ok (.iconst 0, 1) := by decide +kernel
theorem dX12_kindAt_1 : decode cX12_kindAt 1 = .ok (.istore_n 2, 1) := by decide +kernel
theorem dX12_kindAt_2 : decode cX12_kindAt 2 = .ok (.iload_n 2, 1) := by decide +kernel
theorem dX12_kindAt_3 : decode cX12_kindAt 3 = .ok (.aload_n 0, 1) := by decide +kernel
theorem dX12_kindAt_4 : decode cX12_kindAt 4 = .ok (.getfield 251, 3) := by decide +kernel
theorem dX12_kindAt_7 : decode cX12_kindAt 7 = .ok (.if_icmp .ge 84, 3) := by decide +kernel
theorem dX12_kindAt_10 : decode cX12_kindAt 10 = .ok (.aload_n 0, 1) := by decide +kernel
theorem dX12_kindAt_11 : decode cX12_kindAt 11 = .ok (.getfield 84, 3) := by decide +kernel
theorem dX12_kindAt_14 : decode cX12_kindAt 14 = .ok (.iload_n 2, 1) := by decide +kernel
theorem dX12_kindAt_15 : decode cX12_kindAt 15 = .ok (.iaload, 1) := by decide +kernel
theorem dX12_kindAt_16 : decode cX12_kindAt 16 = .ok (.iload_n 1, 1) := by decide +kernel
theorem dX12_kindAt_17 : decode cX12_kindAt 17 = .ok (.if_icmp .eq 6, 3) := by decide +kernel
theorem dX12_kindAt_20 : decode cX12_kindAt 20 = .ok (.goto 65, 3) := by decide +kernel
theorem dX12_kindAt_23 : decode cX12_kindAt 23 = .ok (.iconst 1, 1) := by decide +kernel
theorem dX12_kindAt_24 : decode cX12_kindAt 24 = .ok (.istore_n 3, 1) := by decide +kernel
theorem dX12_kindAt_25 : decode cX12_kindAt 25 = .ok (.iconst 0, 1) := by decide +kernel
theorem dX12_kindAt_26 : decode cX12_kindAt 26 = .ok (.istore 4, 2) := by decide +kernel
theorem dX12_kindAt_28 : decode cX12_kindAt 28 = .ok (.iload 4, 2) := by decide +kernel
theorem dX12_kindAt_30 : decode cX12_kindAt 30 = .ok (.iload_n 1, 1) := by decide +kernel
theorem dX12_kindAt_31 : decode cX12_kindAt 31 = .ok (.if_icmp .ge 48, 3) := by decide +kernel
theorem dX12_kindAt_34 : decode cX12_kindAt 34 = .ok (.iload_n 3, 1) := by decide +kernel
theorem dX12_kindAt_35 : decode cX12_kindAt 35 = .ok (.ifCond .eq 44, 3) := by decide +kernel
theorem dX12_kindAt_38 : decode cX12_kindAt 38 = .ok (.aload_n 0, 1) := by decide +kernel
theorem dX12_kindAt_39 : decode cX12_kindAt 39 = .ok (.getfield 78, 3) := by decide +kernel
theorem dX12_kindAt_42 : decode cX12_kindAt 42 = .ok (.aload_n 0, 1) := by decide +kernel
theorem dX12_kindAt_43 : decode cX12_kindAt 43 = .ok (.getfield 81, 3) := by decide +kernel
theorem dX12_kindAt_46 : decode cX12_kindAt 46 = .ok (.iload_n 2, 1) := by decide +kernel
theorem dX12_kindAt_47 : decode cX12_kindAt 47 = .ok (.iaload, 1) := by decide +kernel
theorem dX12_kindAt_48 : decode cX12_kindAt 48 = .ok (.iload 4, 2) := by decide +kernel
theorem dX12_kindAt_50 : decode cX12_kindAt 50 = .ok (.iadd, 1) := by decide +kernel
theorem dX12_kindAt_51 : decode cX12_kindAt 51 = .ok (.baload, 1) := by decide +kernel
theorem dX12_kindAt_52 : decode cX12_kindAt 52 = .ok (.aload_n 0, 1) := by decide +kernel
theorem dX12_kindAt_53 : decode cX12_kindAt 53 = .ok (.getfield 9, 3) := by decide +kernel
theorem dX12_kindAt_56 : decode cX12_kindAt 56 = .ok (.aload_n 0, 1) := by decide +kernel
theorem dX12_kindAt_57 : decode cX12_kindAt 57 = .ok (.getfield 179, 3) := by decide +kernel
theorem dX12_kindAt_60 : decode cX12_kindAt 60 = .ok (.iload 4, 2) := by decide +kernel
theorem dX12_kindAt_62 : decode cX12_kindAt 62 = .ok (.iadd, 1) := by decide +kernel
theorem dX12_kindAt_63 : decode cX12_kindAt 63 = .ok (.baload, 1) := by decide +kernel
theorem dX12_kindAt_64 : decode cX12_kindAt 64 = .ok (.if_icmp .ne 7, 3) := by decide +kernel
theorem dX12_kindAt_67 : decode cX12_kindAt 67 = .ok (.iconst 1, 1) := by decide +kernel
theorem dX12_kindAt_68 : decode cX12_kindAt 68 = .ok (.goto 4, 3) := by decide +kernel
theorem dX12_kindAt_71 : decode cX12_kindAt 71 = .ok (.iconst 0, 1) := by decide +kernel
theorem dX12_kindAt_72 : decode cX12_kindAt 72 = .ok (.istore_n 3, 1) := by decide +kernel
theorem dX12_kindAt_73 : decode cX12_kindAt 73 = .ok (.iinc 4 1, 3) := by decide +kernel
theorem dX12_kindAt_76 : decode cX12_kindAt 76 = .ok (.goto (-48), 3) := by decide +kernel
theorem dX12_kindAt_79 : decode cX12_kindAt 79 = .ok (.iload_n 3, 1) := by decide +kernel
theorem dX12_kindAt_80 : decode cX12_kindAt 80 = .ok (.ifCond .eq 5, 3) := by decide +kernel
theorem dX12_kindAt_83 : decode cX12_kindAt 83 = .ok (.iload_n 2, 1) := by decide +kernel
theorem dX12_kindAt_84 : decode cX12_kindAt 84 = .ok (.ireturn, 1) := by decide +kernel
theorem dX12_kindAt_85 : decode cX12_kindAt 85 = .ok (.iinc 2 1, 3) := by decide +kernel
theorem dX12_kindAt_88 : decode cX12_kindAt 88 = .ok (.goto (-86), 3) := by decide +kernel
theorem dX12_kindAt_91 : decode cX12_kindAt 91 = .ok (.iconst (-1), 1) := by decide +kernel
theorem dX12_kindAt_92 : decode cX12_kindAt 92 = .ok (.ireturn, 1) := by decide +kernel
theorem dX12_kindNamed_0 : decode cX12_kindNamed 0 = .ok (.iconst 0, 1) := by decide +kernel
theorem dX12_kindNamed_1 : decode cX12_kindNamed 1 = .ok (.istore_n 3, 1) := by decide +kernel
theorem dX12_kindNamed_2 : decode cX12_kindNamed 2 = .ok (.iload_n 3, 1) := by decide +kernel
theorem dX12_kindNamed_3 : decode cX12_kindNamed 3 = .ok (.aload_n 0, 1) := by decide +kernel
theorem dX12_kindNamed_4 : decode cX12_kindNamed 4 = .ok (.getfield 227, 3) := by decide +kernel
theorem dX12_kindNamed_7 : decode cX12_kindNamed 7 = .ok (.if_icmp .ge 36, 3) := by decide +kernel
theorem dX12_kindNamed_10 : decode cX12_kindNamed 10 = .ok (.aload_n 0, 1) := by decide +kernel
theorem dX12_kindNamed_11 : decode cX12_kindNamed 11 = .ok (.getfield 20, 3) := by decide +kernel
theorem dX12_kindNamed_14 : decode cX12_kindNamed 14 = .ok (.iload_n 3, 1) := by decide +kernel
theorem dX12_kindNamed_15 : decode cX12_kindNamed 15 = .ok (.iaload, 1) := by decide +kernel
theorem dX12_kindNamed_16 : decode cX12_kindNamed 16 = .ok (.iload_n 2, 1) := by decide +kernel
theorem dX12_kindNamed_17 : decode cX12_kindNamed 17 = .ok (.if_icmp .ne 20, 3) := by decide +kernel
theorem dX12_kindNamed_20 : decode cX12_kindNamed 20 = .ok (.aload_n 0, 1) := by decide +kernel
theorem dX12_kindNamed_21 : decode cX12_kindNamed 21 = .ok (.aload_n 0, 1) := by decide +kernel
theorem dX12_kindNamed_22 : decode cX12_kindNamed 22 = .ok (.getfield 16, 3) := by decide +kernel
theorem dX12_kindNamed_25 : decode cX12_kindNamed 25 = .ok (.iload_n 3, 1) := by decide +kernel
theorem dX12_kindNamed_26 : decode cX12_kindNamed 26 = .ok (.iaload, 1) := by decide +kernel
theorem dX12_kindNamed_27 : decode cX12_kindNamed 27 = .ok (.iload_n 1, 1) := by decide +kernel
theorem dX12_kindNamed_28 : decode cX12_kindNamed 28 = .ok (.iload_n 2, 1) := by decide +kernel
theorem dX12_kindNamed_29 : decode cX12_kindNamed 29 = .ok (.invokevirtual 230, 3) := by decide +kernel
theorem dX12_kindNamed_32 : decode cX12_kindNamed 32 = .ok (.ifCond .eq 5, 3) := by decide +kernel
theorem dX12_kindNamed_35 : decode cX12_kindNamed 35 = .ok (.iload_n 3, 1) := by decide +kernel
theorem dX12_kindNamed_36 : decode cX12_kindNamed 36 = .ok (.ireturn, 1) := by decide +kernel
theorem dX12_kindNamed_37 : decode cX12_kindNamed 37 = .ok (.iinc 3 1, 3) := by decide +kernel
theorem dX12_kindNamed_40 : decode cX12_kindNamed 40 = .ok (.goto (-38), 3) := by decide +kernel
theorem dX12_kindNamed_43 : decode cX12_kindNamed 43 = .ok (.iconst (-1), 1) := by decide +kernel
theorem dX12_kindNamed_44 : decode cX12_kindNamed 44 = .ok (.ireturn, 1) := by decide +kernel
theorem dX12_kindOf_0 : decode cX12_kindOf 0 = .ok (.iload_n 1, 1) := by decide +kernel
theorem dX12_kindOf_1 : decode cX12_kindOf 1 = .ok (.bipush 15, 2) := by decide +kernel
theorem dX12_kindOf_3 : decode cX12_kindOf 3 = .ok (.if_icmp .ne 12, 3) := by decide +kernel
theorem dX12_kindOf_6 : decode cX12_kindOf 6 = .ok (.aload_n 0, 1) := by decide +kernel
theorem dX12_kindOf_7 : decode cX12_kindOf 7 = .ok (.getfield 65, 3) := by decide +kernel
theorem dX12_kindOf_10 : decode cX12_kindOf 10 = .ok (.iload_n 2, 1) := by decide +kernel
theorem dX12_kindOf_11 : decode cX12_kindOf 11 = .ok (.iaload, 1) := by decide +kernel
theorem dX12_kindOf_12 : decode cX12_kindOf 12 = .ok (.goto 9, 3) := by decide +kernel
theorem dX12_kindOf_15 : decode cX12_kindOf 15 = .ok (.aload_n 0, 1) := by decide +kernel
theorem dX12_kindOf_16 : decode cX12_kindOf 16 = .ok (.getfield 59, 3) := by decide +kernel
theorem dX12_kindOf_19 : decode cX12_kindOf 19 = .ok (.iload_n 2, 1) := by decide +kernel
theorem dX12_kindOf_20 : decode cX12_kindOf 20 = .ok (.iaload, 1) := by decide +kernel
theorem dX12_kindOf_21 : decode cX12_kindOf 21 = .ok (.ireturn, 1) := by decide +kernel
theorem dX12_lays_0 : decode cX12_lays 0 = .ok (.aload_n 0, 1) := by decide +kernel
theorem dX12_lays_1 : decode cX12_lays 1 = .ok (.iload_n 2, 1) := by decide +kernel
theorem dX12_lays_2 : decode cX12_lays 2 = .ok (.invokevirtual 422, 3) := by decide +kernel
theorem dX12_lays_5 : decode cX12_lays 5 = .ok (.iconst 0, 1) := by decide +kernel
theorem dX12_lays_6 : decode cX12_lays 6 = .ok (.istore 4, 2) := by decide +kernel
theorem dX12_lays_8 : decode cX12_lays 8 = .ok (.iload 4, 2) := by decide +kernel
theorem dX12_lays_10 : decode cX12_lays 10 = .ok (.sipush 150, 3) := by decide +kernel
theorem dX12_lays_13 : decode cX12_lays 13 = .ok (.if_icmp .ge 64, 3) := by decide +kernel
theorem dX12_lays_16 : decode cX12_lays 16 = .ok (.aload_n 0, 1) := by decide +kernel
theorem dX12_lays_17 : decode cX12_lays 17 = .ok (.getfield 45, 3) := by decide +kernel
theorem dX12_lays_20 : decode cX12_lays 20 = .ok (.bipush 12, 2) := by decide +kernel
theorem dX12_lays_22 : decode cX12_lays 22 = .ok (.aaload, 1) := by decide +kernel
theorem dX12_lays_23 : decode cX12_lays 23 = .ok (.iload 4, 2) := by decide +kernel
theorem dX12_lays_25 : decode cX12_lays 25 = .ok (.baload, 1) := by decide +kernel
theorem dX12_lays_26 : decode cX12_lays 26 = .ok (.ifCond .eq 45, 3) := by decide +kernel
theorem dX12_lays_29 : decode cX12_lays 29 = .ok (.aload_n 0, 1) := by decide +kernel
theorem dX12_lays_30 : decode cX12_lays 30 = .ok (.getfield 53, 3) := by decide +kernel
theorem dX12_lays_33 : decode cX12_lays 33 = .ok (.bipush 12, 2) := by decide +kernel
theorem dX12_lays_35 : decode cX12_lays 35 = .ok (.aaload, 1) := by decide +kernel
theorem dX12_lays_36 : decode cX12_lays 36 = .ok (.iload 4, 2) := by decide +kernel
theorem dX12_lays_38 : decode cX12_lays 38 = .ok (.iaload, 1) := by decide +kernel
theorem dX12_lays_39 : decode cX12_lays 39 = .ok (.iload_n 2, 1) := by decide +kernel
theorem dX12_lays_40 : decode cX12_lays 40 = .ok (.if_icmp .ne 31, 3) := by decide +kernel
theorem dX12_lays_43 : decode cX12_lays 43 = .ok (.aload_n 0, 1) := by decide +kernel
theorem dX12_lays_44 : decode cX12_lays 44 = .ok (.getfield 56, 3) := by decide +kernel
theorem dX12_lays_47 : decode cX12_lays 47 = .ok (.bipush 12, 2) := by decide +kernel
theorem dX12_lays_49 : decode cX12_lays 49 = .ok (.aaload, 1) := by decide +kernel
theorem dX12_lays_50 : decode cX12_lays 50 = .ok (.iload 4, 2) := by decide +kernel
theorem dX12_lays_52 : decode cX12_lays 52 = .ok (.iaload, 1) := by decide +kernel
theorem dX12_lays_53 : decode cX12_lays 53 = .ok (.iload_n 3, 1) := by decide +kernel
theorem dX12_lays_54 : decode cX12_lays 54 = .ok (.if_icmp .lt 17, 3) := by decide +kernel
theorem dX12_lays_57 : decode cX12_lays 57 = .ok (.aload_n 0, 1) := by decide +kernel
theorem dX12_lays_58 : decode cX12_lays 58 = .ok (.getfield 56, 3) := by decide +kernel
theorem dX12_lays_61 : decode cX12_lays 61 = .ok (.bipush 12, 2) := by decide +kernel
theorem dX12_lays_63 : decode cX12_lays 63 = .ok (.aaload, 1) := by decide +kernel
theorem dX12_lays_64 : decode cX12_lays 64 = .ok (.iload 4, 2) := by decide +kernel
theorem dX12_lays_66 : decode cX12_lays 66 = .ok (.dup2, 1) := by decide +kernel
theorem dX12_lays_67 : decode cX12_lays 67 = .ok (.iaload, 1) := by decide +kernel
theorem dX12_lays_68 : decode cX12_lays 68 = .ok (.iconst 1, 1) := by decide +kernel
theorem dX12_lays_69 : decode cX12_lays 69 = .ok (.iadd, 1) := by decide +kernel
theorem dX12_lays_70 : decode cX12_lays 70 = .ok (.iastore, 1) := by decide +kernel
theorem dX12_lays_71 : decode cX12_lays 71 = .ok (.iinc 4 1, 3) := by decide +kernel
theorem dX12_lays_74 : decode cX12_lays 74 = .ok (.goto (-66), 3) := by decide +kernel
theorem dX12_lays_77 : decode cX12_lays 77 = .ok (.aload_n 0, 1) := by decide +kernel
theorem dX12_lays_78 : decode cX12_lays 78 = .ok (.getfield 45, 3) := by decide +kernel
theorem dX12_lays_81 : decode cX12_lays 81 = .ok (.bipush 12, 2) := by decide +kernel
theorem dX12_lays_83 : decode cX12_lays 83 = .ok (.aaload, 1) := by decide +kernel
theorem dX12_lays_84 : decode cX12_lays 84 = .ok (.iload_n 1, 1) := by decide +kernel
theorem dX12_lays_85 : decode cX12_lays 85 = .ok (.iconst 1, 1) := by decide +kernel
theorem dX12_lays_86 : decode cX12_lays 86 = .ok (.bastore, 1) := by decide +kernel
theorem dX12_lays_87 : decode cX12_lays 87 = .ok (.aload_n 0, 1) := by decide +kernel
theorem dX12_lays_88 : decode cX12_lays 88 = .ok (.getfield 53, 3) := by decide +kernel
theorem dX12_lays_91 : decode cX12_lays 91 = .ok (.bipush 12, 2) := by decide +kernel
theorem dX12_lays_93 : decode cX12_lays 93 = .ok (.aaload, 1) := by decide +kernel
theorem dX12_lays_94 : decode cX12_lays 94 = .ok (.iload_n 1, 1) := by decide +kernel
theorem dX12_lays_95 : decode cX12_lays 95 = .ok (.iload_n 2, 1) := by decide +kernel
theorem dX12_lays_96 : decode cX12_lays 96 = .ok (.iastore, 1) := by decide +kernel
theorem dX12_lays_97 : decode cX12_lays 97 = .ok (.aload_n 0, 1) := by decide +kernel
theorem dX12_lays_98 : decode cX12_lays 98 = .ok (.getfield 56, 3) := by decide +kernel
theorem dX12_lays_101 : decode cX12_lays 101 = .ok (.bipush 12, 2) := by decide +kernel
theorem dX12_lays_103 : decode cX12_lays 103 = .ok (.aaload, 1) := by decide +kernel
theorem dX12_lays_104 : decode cX12_lays 104 = .ok (.iload_n 1, 1) := by decide +kernel
theorem dX12_lays_105 : decode cX12_lays 105 = .ok (.iload_n 3, 1) := by decide +kernel
theorem dX12_lays_106 : decode cX12_lays 106 = .ok (.iastore, 1) := by decide +kernel
theorem dX12_lays_107 : decode cX12_lays 107 = .ok (.aload_n 0, 1) := by decide +kernel
theorem dX12_lays_108 : decode cX12_lays 108 = .ok (.bipush 12, 2) := by decide +kernel
theorem dX12_lays_110 : decode cX12_lays 110 = .ok (.invokevirtual 275, 3) := by decide +kernel
theorem dX12_lays_113 : decode cX12_lays 113 = .ok (.return_, 1) := by decide +kernel
theorem dX12_leadsBack_0 : decode cX12_leadsBack 0 = .ok (.aload_n 0, 1) := by decide +kernel
theorem dX12_leadsBack_1 : decode cX12_leadsBack 1 = .ok (.getfield 53, 3) := by decide +kernel
theorem dX12_leadsBack_4 : decode cX12_leadsBack 4 = .ok (.bipush 13, 2) := by decide +kernel
theorem dX12_leadsBack_6 : decode cX12_leadsBack 6 = .ok (.aaload, 1) := by decide +kernel
theorem dX12_leadsBack_7 : decode cX12_leadsBack 7 = .ok (.iload_n 1, 1) := by decide +kernel
theorem dX12_leadsBack_8 : decode cX12_leadsBack 8 = .ok (.iaload, 1) := by decide +kernel
theorem dX12_leadsBack_9 : decode cX12_leadsBack 9 = .ok (.istore_n 2, 1) := by decide +kernel
theorem dX12_leadsBack_10 : decode cX12_leadsBack 10 = .ok (.iconst 0, 1) := by decide +kernel
theorem dX12_leadsBack_11 : decode cX12_leadsBack 11 = .ok (.istore_n 3, 1) := by decide +kernel
theorem dX12_leadsBack_12 : decode cX12_leadsBack 12 = .ok (.iload_n 3, 1) := by decide +kernel
theorem dX12_leadsBack_13 : decode cX12_leadsBack 13 = .ok (.sipush 150, 3) := by decide +kernel
theorem dX12_leadsBack_16 : decode cX12_leadsBack 16 = .ok (.if_icmp .ge 29, 3) := by decide +kernel
theorem dX12_leadsBack_19 : decode cX12_leadsBack 19 = .ok (.iload_n 2, 1) := by decide +kernel
theorem dX12_leadsBack_20 : decode cX12_leadsBack 20 = .ok (.iconst (-1), 1) := by decide +kernel
theorem dX12_leadsBack_21 : decode cX12_leadsBack 21 = .ok (.if_icmp .eq 24, 3) := by decide +kernel
theorem dX12_leadsBack_24 : decode cX12_leadsBack 24 = .ok (.iload_n 2, 1) := by decide +kernel
theorem dX12_leadsBack_25 : decode cX12_leadsBack 25 = .ok (.iload_n 1, 1) := by decide +kernel
theorem dX12_leadsBack_26 : decode cX12_leadsBack 26 = .ok (.if_icmp .eq 19, 3) := by decide +kernel
theorem dX12_leadsBack_29 : decode cX12_leadsBack 29 = .ok (.aload_n 0, 1) := by decide +kernel
theorem dX12_leadsBack_30 : decode cX12_leadsBack 30 = .ok (.getfield 53, 3) := by decide +kernel
theorem dX12_leadsBack_33 : decode cX12_leadsBack 33 = .ok (.bipush 13, 2) := by decide +kernel
theorem dX12_leadsBack_35 : decode cX12_leadsBack 35 = .ok (.aaload, 1) := by decide +kernel
theorem dX12_leadsBack_36 : decode cX12_leadsBack 36 = .ok (.iload_n 2, 1) := by decide +kernel
theorem dX12_leadsBack_37 : decode cX12_leadsBack 37 = .ok (.iaload, 1) := by decide +kernel
theorem dX12_leadsBack_38 : decode cX12_leadsBack 38 = .ok (.istore_n 2, 1) := by decide +kernel
theorem dX12_leadsBack_39 : decode cX12_leadsBack 39 = .ok (.iinc 3 1, 3) := by decide +kernel
theorem dX12_leadsBack_42 : decode cX12_leadsBack 42 = .ok (.goto (-30), 3) := by decide +kernel
theorem dX12_leadsBack_45 : decode cX12_leadsBack 45 = .ok (.iload_n 2, 1) := by decide +kernel
theorem dX12_leadsBack_46 : decode cX12_leadsBack 46 = .ok (.iload_n 1, 1) := by decide +kernel
theorem dX12_leadsBack_47 : decode cX12_leadsBack 47 = .ok (.if_icmp .ne 7, 3) := by decide +kernel
theorem dX12_leadsBack_50 : decode cX12_leadsBack 50 = .ok (.iconst 1, 1) := by decide +kernel
theorem dX12_leadsBack_51 : decode cX12_leadsBack 51 = .ok (.goto 4, 3) := by decide +kernel
theorem dX12_leadsBack_54 : decode cX12_leadsBack 54 = .ok (.iconst 0, 1) := by decide +kernel
theorem dX12_leadsBack_55 : decode cX12_leadsBack 55 = .ok (.ireturn, 1) := by decide +kernel
theorem dX12_lines_0 : decode cX12_lines 0 = .ok (.aload_n 0, 1) := by decide +kernel
theorem dX12_lines_1 : decode cX12_lines 1 = .ok (.iload_n 1, 1) := by decide +kernel
theorem dX12_lines_2 : decode cX12_lines 2 = .ok (.invokevirtual 324, 3) := by decide +kernel
theorem dX12_lines_5 : decode cX12_lines 5 = .ok (.istore_n 2, 1) := by decide +kernel
theorem dX12_lines_6 : decode cX12_lines 6 = .ok (.aload_n 0, 1) := by decide +kernel
theorem dX12_lines_7 : decode cX12_lines 7 = .ok (.iconst 0, 1) := by decide +kernel
theorem dX12_lines_8 : decode cX12_lines 8 = .ok (.putfield 354, 3) := by decide +kernel
theorem dX12_lines_11 : decode cX12_lines 11 = .ok (.iload_n 2, 1) := by decide +kernel
theorem dX12_lines_12 : decode cX12_lines 12 = .ok (.istore_n 3, 1) := by decide +kernel
theorem dX12_lines_13 : decode cX12_lines 13 = .ok (.iload_n 3, 1) := by decide +kernel
theorem dX12_lines_14 : decode cX12_lines 14 = .ok (.iconst (-1), 1) := by decide +kernel
theorem dX12_lines_15 : decode cX12_lines 15 = .ok (.if_icmp .eq 44, 3) := by decide +kernel
theorem dX12_lines_18 : decode cX12_lines 18 = .ok (.aload_n 0, 1) := by decide +kernel
theorem dX12_lines_19 : decode cX12_lines 19 = .ok (.getfield 124, 3) := by decide +kernel
theorem dX12_lines_22 : decode cX12_lines 22 = .ok (.aload_n 0, 1) := by decide +kernel
theorem dX12_lines_23 : decode cX12_lines 23 = .ok (.getfield 354, 3) := by decide +kernel
theorem dX12_lines_26 : decode cX12_lines 26 = .ok (.iload_n 3, 1) := by decide +kernel
theorem dX12_lines_27 : decode cX12_lines 27 = .ok (.iastore, 1) := by decide +kernel
theorem dX12_lines_28 : decode cX12_lines 28 = .ok (.aload_n 0, 1) := by decide +kernel
theorem dX12_lines_29 : decode cX12_lines 29 = .ok (.getfield 136, 3) := by decide +kernel
theorem dX12_lines_32 : decode cX12_lines 32 = .ok (.iload_n 3, 1) := by decide +kernel
theorem dX12_lines_33 : decode cX12_lines 33 = .ok (.aload_n 0, 1) := by decide +kernel
theorem dX12_lines_34 : decode cX12_lines 34 = .ok (.getfield 354, 3) := by decide +kernel
theorem dX12_lines_37 : decode cX12_lines 37 = .ok (.iastore, 1) := by decide +kernel
theorem dX12_lines_38 : decode cX12_lines 38 = .ok (.aload_n 0, 1) := by decide +kernel
theorem dX12_lines_39 : decode cX12_lines 39 = .ok (.dup, 1) := by decide +kernel
theorem dX12_lines_40 : decode cX12_lines 40 = .ok (.getfield 354, 3) := by decide +kernel
theorem dX12_lines_43 : decode cX12_lines 43 = .ok (.iconst 1, 1) := by decide +kernel
theorem dX12_lines_44 : decode cX12_lines 44 = .ok (.iadd, 1) := by decide +kernel
theorem dX12_lines_45 : decode cX12_lines 45 = .ok (.putfield 354, 3) := by decide +kernel
theorem dX12_lines_48 : decode cX12_lines 48 = .ok (.aload_n 0, 1) := by decide +kernel
theorem dX12_lines_49 : decode cX12_lines 49 = .ok (.iload_n 1, 1) := by decide +kernel
theorem dX12_lines_50 : decode cX12_lines 50 = .ok (.iload_n 3, 1) := by decide +kernel
theorem dX12_lines_51 : decode cX12_lines 51 = .ok (.iload_n 2, 1) := by decide +kernel
theorem dX12_lines_52 : decode cX12_lines 52 = .ok (.invokevirtual 278, 3) := by decide +kernel
theorem dX12_lines_55 : decode cX12_lines 55 = .ok (.istore_n 3, 1) := by decide +kernel
theorem dX12_lines_56 : decode cX12_lines 56 = .ok (.goto (-43), 3) := by decide +kernel
theorem dX12_lines_59 : decode cX12_lines 59 = .ok (.return_, 1) := by decide +kernel
theorem dX12_longOf_0 : decode cX12_longOf 0 = .ok (.iconst 0, 1) := by decide +kernel
theorem dX12_longOf_1 : decode cX12_longOf 1 = .ok (.istore_n 2, 1) := by decide +kernel
theorem dX12_longOf_2 : decode cX12_longOf 2 = .ok (.lload_n 0, 1) := by decide +kernel
theorem dX12_longOf_3 : decode cX12_longOf 3 = .ok (.lstore_n 3, 1) := by decide +kernel
theorem dX12_longOf_4 : decode cX12_longOf 4 = .ok (.lload_n 3, 1) := by decide +kernel
theorem dX12_longOf_5 : decode cX12_longOf 5 = .ok (.lconst 0, 1) := by decide +kernel
theorem dX12_longOf_6 : decode cX12_longOf 6 = .ok (.lcmp, 1) := by decide +kernel
theorem dX12_longOf_7 : decode cX12_longOf 7 = .ok (.ifCond .eq 14, 3) := by decide +kernel
theorem dX12_longOf_10 : decode cX12_longOf 10 = .ok (.iinc 2 1, 3) := by decide +kernel
theorem dX12_longOf_13 : decode cX12_longOf 13 = .ok (.lload_n 3, 1) := by decide +kernel
theorem dX12_longOf_14 : decode cX12_longOf 14 = .ok (.bipush 8, 2) := by decide +kernel
theorem dX12_longOf_16 : decode cX12_longOf 16 = .ok (.lushr, 1) := by decide +kernel
theorem dX12_longOf_17 : decode cX12_longOf 17 = .ok (.lstore_n 3, 1) := by decide +kernel
theorem dX12_longOf_18 : decode cX12_longOf 18 = .ok (.goto (-14), 3) := by decide +kernel
theorem dX12_longOf_21 : decode cX12_longOf 21 = .ok (.iload_n 2, 1) := by decide +kernel
theorem dX12_longOf_22 : decode cX12_longOf 22 = .ok (.ireturn, 1) := by decide +kernel
theorem dX12_made_0 : decode cX12_made 0 = .ok (.aload_n 0, 1) := by decide +kernel
theorem dX12_made_1 : decode cX12_made 1 = .ok (.bipush 13, 2) := by decide +kernel
theorem dX12_made_3 : decode cX12_made 3 = .ok (.aload_n 0, 1) := by decide +kernel
theorem dX12_made_4 : decode cX12_made 4 = .ok (.getfield 339, 3) := by decide +kernel
theorem dX12_made_7 : decode cX12_made 7 = .ok (.invokevirtual 411, 3) := by decide +kernel
theorem dX12_made_10 : decode cX12_made 10 = .ok (.aload_n 0, 1) := by decide +kernel
theorem dX12_made_11 : decode cX12_made 11 = .ok (.iload_n 1, 1) := by decide +kernel
theorem dX12_made_12 : decode cX12_made 12 = .ok (.iload_n 2, 1) := by decide +kernel
theorem dX12_made_13 : decode cX12_made 13 = .ok (.invokevirtual 345, 3) := by decide +kernel
theorem dX12_made_16 : decode cX12_made 16 = .ok (.ireturn, 1) := by decide +kernel
theorem dX12_match_0 : decode cX12_match 0 = .ok (.aload_n 0, 1) := by decide +kernel
theorem dX12_match_1 : decode cX12_match 1 = .ok (.iload_n 1, 1) := by decide +kernel
theorem dX12_match_2 : decode cX12_match 2 = .ok (.invokevirtual 396, 3) := by decide +kernel
theorem dX12_match_5 : decode cX12_match 5 = .ok (.ifCond .ne 5, 3) := by decide +kernel
theorem dX12_match_8 : decode cX12_match 8 = .ok (.iconst (-1), 1) := by decide +kernel
theorem dX12_match_9 : decode cX12_match 9 = .ok (.ireturn, 1) := by decide +kernel
theorem dX12_match_10 : decode cX12_match 10 = .ok (.aload_n 0, 1) := by decide +kernel
theorem dX12_match_11 : decode cX12_match 11 = .ok (.invokevirtual 282, 3) := by decide +kernel
theorem dX12_match_14 : decode cX12_match 14 = .ok (.aload_n 0, 1) := by decide +kernel
theorem dX12_match_15 : decode cX12_match 15 = .ok (.getfield 193, 3) := by decide +kernel
theorem dX12_match_18 : decode cX12_match 18 = .ok (.iconst (-1), 1) := by decide +kernel
theorem dX12_match_19 : decode cX12_match 19 = .ok (.if_icmp .ne 12, 3) := by decide +kernel
theorem dX12_match_22 : decode cX12_match 22 = .ok (.aload_n 0, 1) := by decide +kernel
theorem dX12_match_23 : decode cX12_match 23 = .ok (.getfield 65, 3) := by decide +kernel
theorem dX12_match_26 : decode cX12_match 26 = .ok (.iconst 0, 1) := by decide +kernel
theorem dX12_match_27 : decode cX12_match 27 = .ok (.iaload, 1) := by decide +kernel
theorem dX12_match_28 : decode cX12_match 28 = .ok (.ifCond .eq 5, 3) := by decide +kernel
theorem dX12_match_31 : decode cX12_match 31 = .ok (.iconst (-1), 1) := by decide +kernel
theorem dX12_match_32 : decode cX12_match 32 = .ok (.ireturn, 1) := by decide +kernel
theorem dX12_match_33 : decode cX12_match 33 = .ok (.aload_n 0, 1) := by decide +kernel
theorem dX12_match_34 : decode cX12_match 34 = .ok (.iload_n 1, 1) := by decide +kernel
theorem dX12_match_35 : decode cX12_match 35 = .ok (.invokevirtual 399, 3) := by decide +kernel
theorem dX12_match_38 : decode cX12_match 38 = .ok (.iload_n 2, 1) := by decide +kernel
theorem dX12_match_39 : decode cX12_match 39 = .ok (.ifCond .ne 9, 3) := by decide +kernel
theorem dX12_match_42 : decode cX12_match 42 = .ok (.aload_n 0, 1) := by decide +kernel
theorem dX12_match_43 : decode cX12_match 43 = .ok (.iload_n 1, 1) := by decide +kernel
theorem dX12_match_44 : decode cX12_match 44 = .ok (.invokevirtual 363, 3) := by decide +kernel
theorem dX12_match_47 : decode cX12_match 47 = .ok (.ireturn, 1) := by decide +kernel
theorem dX12_match_48 : decode cX12_match 48 = .ok (.iload_n 2, 1) := by decide +kernel
theorem dX12_match_49 : decode cX12_match 49 = .ok (.iconst 1, 1) := by decide +kernel
theorem dX12_match_50 : decode cX12_match 50 = .ok (.if_icmp .ne 16, 3) := by decide +kernel
theorem dX12_match_53 : decode cX12_match 53 = .ok (.aload_n 0, 1) := by decide +kernel
theorem dX12_match_54 : decode cX12_match 54 = .ok (.invokevirtual 390, 3) := by decide +kernel
theorem dX12_match_57 : decode cX12_match 57 = .ok (.ifCond .eq 7, 3) := by decide +kernel
theorem dX12_match_60 : decode cX12_match 60 = .ok (.iconst 1, 1) := by decide +kernel
theorem dX12_match_61 : decode cX12_match 61 = .ok (.goto 4, 3) := by decide +kernel
theorem dX12_match_64 : decode cX12_match 64 = .ok (.iconst 0, 1) := by decide +kernel
theorem dX12_match_65 : decode cX12_match 65 = .ok (.ireturn, 1) := by decide +kernel
theorem dX12_match_66 : decode cX12_match 66 = .ok (.iload_n 2, 1) := by decide +kernel
theorem dX12_match_67 : decode cX12_match 67 = .ok (.iconst 2, 1) := by decide +kernel
theorem dX12_match_68 : decode cX12_match 68 = .ok (.if_icmp .ne 8, 3) := by decide +kernel
theorem dX12_match_71 : decode cX12_match 71 = .ok (.aload_n 0, 1) := by decide +kernel
theorem dX12_match_72 : decode cX12_match 72 = .ok (.invokevirtual 402, 3) := by decide +kernel
theorem dX12_match_75 : decode cX12_match 75 = .ok (.ireturn, 1) := by decide +kernel
theorem dX12_match_76 : decode cX12_match 76 = .ok (.iload_n 2, 1) := by decide +kernel
theorem dX12_match_77 : decode cX12_match 77 = .ok (.i2l, 1) := by decide +kernel
theorem dX12_match_78 : decode cX12_match 78 = .ok (.ldc2_w 405, 3) := by decide +kernel
theorem dX12_match_81 : decode cX12_match 81 = .ok (.bipush 99, 2) := by decide +kernel
theorem dX12_match_83 : decode cX12_match 83 = .ok (.aload_n 0, 1) := by decide +kernel
theorem dX12_match_84 : decode cX12_match 84 = .ok (.getfield 258, 3) := by decide +kernel
theorem dX12_match_87 : decode cX12_match 87 = .ok (.iadd, 1) := by decide +kernel
theorem dX12_match_88 : decode cX12_match 88 = .ok (.i2l, 1) := by decide +kernel
theorem dX12_match_89 : decode cX12_match 89 = .ok (.invokestatic 171, 3) := by decide +kernel
theorem dX12_match_92 : decode cX12_match 92 = .ok (.ifCond .ne 5, 3) := by decide +kernel
theorem dX12_match_95 : decode cX12_match 95 = .ok (.iconst (-1), 1) := by decide +kernel
theorem dX12_match_96 : decode cX12_match 96 = .ok (.ireturn, 1) := by decide +kernel
theorem dX12_match_97 : decode cX12_match 97 = .ok (.aload_n 0, 1) := by decide +kernel
theorem dX12_match_98 : decode cX12_match 98 = .ok (.getfield 130, 3) := by decide +kernel
theorem dX12_match_101 : decode cX12_match 101 = .ok (.iload_n 2, 1) := by decide +kernel
theorem dX12_match_102 : decode cX12_match 102 = .ok (.bipush 100, 2) := by decide +kernel
theorem dX12_match_104 : decode cX12_match 104 = .ok (.isub, 1) := by decide +kernel
theorem dX12_match_105 : decode cX12_match 105 = .ok (.iaload, 1) := by decide +kernel
theorem dX12_match_106 : decode cX12_match 106 = .ok (.istore_n 3, 1) := by decide +kernel
theorem dX12_match_107 : decode cX12_match 107 = .ok (.iload_n 3, 1) := by decide +kernel
theorem dX12_match_108 : decode cX12_match 108 = .ok (.iconst (-1), 1) := by decide +kernel
theorem dX12_match_109 : decode cX12_match 109 = .ok (.if_icmp .ne 7, 3) := by decide +kernel
theorem dX12_match_112 : decode cX12_match 112 = .ok (.iconst (-1), 1) := by decide +kernel
theorem dX12_match_113 : decode cX12_match 113 = .ok (.goto 9, 3) := by decide +kernel
theorem dX12_match_116 : decode cX12_match 116 = .ok (.aload_n 0, 1) := by decide +kernel
theorem dX12_match_117 : decode cX12_match 117 = .ok (.getfield 124, 3) := by decide +kernel
theorem dX12_match_120 : decode cX12_match 120 = .ok (.iload_n 3, 1) := by decide +kernel
theorem dX12_match_121 : decode cX12_match 121 = .ok (.iaload, 1) := by decide +kernel
theorem dX12_match_122 : decode cX12_match 122 = .ok (.ireturn, 1) := by decide +kernel
theorem dX12_matches_0 : decode cX12_matches 0 = .ok (.aload_n 0, 1) := by decide +kernel
theorem dX12_matches_1 : decode cX12_matches 1 = .ok (.iload_n 1, 1) := by decide +kernel
theorem dX12_matches_2 : decode cX12_matches 2 = .ok (.invokevirtual 387, 3) := by decide +kernel
theorem dX12_matches_5 : decode cX12_matches 5 = .ok (.iconst 0, 1) := by decide +kernel
theorem dX12_matches_6 : decode cX12_matches 6 = .ok (.istore_n 2, 1) := by decide +kernel
theorem dX12_matches_7 : decode cX12_matches 7 = .ok (.iload_n 2, 1) := by decide +kernel
theorem dX12_matches_8 : decode cX12_matches 8 = .ok (.aload_n 0, 1) := by decide +kernel
theorem dX12_matches_9 : decode cX12_matches 9 = .ok (.getfield 354, 3) := by decide +kernel
theorem dX12_matches_12 : decode cX12_matches 12 = .ok (.if_icmp .ge 16, 3) := by decide +kernel
theorem dX12_matches_15 : decode cX12_matches 15 = .ok (.aload_n 0, 1) := by decide +kernel
theorem dX12_matches_16 : decode cX12_matches 16 = .ok (.getfield 127, 3) := by decide +kernel
theorem dX12_matches_19 : decode cX12_matches 19 = .ok (.iload_n 2, 1) := by decide +kernel
theorem dX12_matches_20 : decode cX12_matches 20 = .ok (.iconst (-1), 1) := by decide +kernel
theorem dX12_matches_21 : decode cX12_matches 21 = .ok (.iastore, 1) := by decide +kernel
theorem dX12_matches_22 : decode cX12_matches 22 = .ok (.iinc 2 1, 3) := by decide +kernel
theorem dX12_matches_25 : decode cX12_matches 25 = .ok (.goto (-18), 3) := by decide +kernel
theorem dX12_matches_28 : decode cX12_matches 28 = .ok (.iconst 0, 1) := by decide +kernel
theorem dX12_matches_29 : decode cX12_matches 29 = .ok (.istore_n 2, 1) := by decide +kernel
theorem dX12_matches_30 : decode cX12_matches 30 = .ok (.iload_n 2, 1) := by decide +kernel
theorem dX12_matches_31 : decode cX12_matches 31 = .ok (.aload_n 0, 1) := by decide +kernel
theorem dX12_matches_32 : decode cX12_matches 32 = .ok (.getfield 258, 3) := by decide +kernel
theorem dX12_matches_35 : decode cX12_matches 35 = .ok (.if_icmp .ge 16, 3) := by decide +kernel
theorem dX12_matches_38 : decode cX12_matches 38 = .ok (.aload_n 0, 1) := by decide +kernel
theorem dX12_matches_39 : decode cX12_matches 39 = .ok (.getfield 130, 3) := by decide +kernel
theorem dX12_matches_42 : decode cX12_matches 42 = .ok (.iload_n 2, 1) := by decide +kernel
theorem dX12_matches_43 : decode cX12_matches 43 = .ok (.iconst (-1), 1) := by decide +kernel
theorem dX12_matches_44 : decode cX12_matches 44 = .ok (.iastore, 1) := by decide +kernel
theorem dX12_matches_45 : decode cX12_matches 45 = .ok (.iinc 2 1, 3) := by decide +kernel
theorem dX12_matches_48 : decode cX12_matches 48 = .ok (.goto (-18), 3) := by decide +kernel
theorem dX12_matches_51 : decode cX12_matches 51 = .ok (.aload_n 0, 1) := by decide +kernel
theorem dX12_matches_52 : decode cX12_matches 52 = .ok (.iconst 0, 1) := by decide +kernel
theorem dX12_matches_53 : decode cX12_matches 53 = .ok (.iconst 0, 1) := by decide +kernel
theorem dX12_matches_54 : decode cX12_matches 54 = .ok (.invokevirtual 369, 3) := by decide +kernel
theorem dX12_matches_57 : decode cX12_matches 57 = .ok (.aload_n 0, 1) := by decide +kernel
theorem dX12_matches_58 : decode cX12_matches 58 = .ok (.invokevirtual 390, 3) := by decide +kernel
theorem dX12_matches_61 : decode cX12_matches 61 = .ok (.ifCond .eq 90, 3) := by decide +kernel
theorem dX12_matches_64 : decode cX12_matches 64 = .ok (.aload_n 0, 1) := by decide +kernel
theorem dX12_matches_65 : decode cX12_matches 65 = .ok (.iconst (-1), 1) := by decide +kernel
theorem dX12_matches_66 : decode cX12_matches 66 = .ok (.putfield 366, 3) := by decide +kernel
theorem dX12_matches_69 : decode cX12_matches 69 = .ok (.aload_n 0, 1) := by decide +kernel
theorem dX12_matches_70 : decode cX12_matches 70 = .ok (.iload_n 1, 1) := by decide +kernel
theorem dX12_matches_71 : decode cX12_matches 71 = .ok (.iconst 1, 1) := by decide +kernel
theorem dX12_matches_72 : decode cX12_matches 72 = .ok (.invokevirtual 373, 3) := by decide +kernel
theorem dX12_matches_75 : decode cX12_matches 75 = .ok (.iconst 0, 1) := by decide +kernel
theorem dX12_matches_76 : decode cX12_matches 76 = .ok (.istore_n 2, 1) := by decide +kernel
theorem dX12_matches_77 : decode cX12_matches 77 = .ok (.iload_n 2, 1) := by decide +kernel
theorem dX12_matches_78 : decode cX12_matches 78 = .ok (.aload_n 0, 1) := by decide +kernel
theorem dX12_matches_79 : decode cX12_matches 79 = .ok (.getfield 258, 3) := by decide +kernel
theorem dX12_matches_82 : decode cX12_matches 82 = .ok (.if_icmp .ge 16, 3) := by decide +kernel
theorem dX12_matches_85 : decode cX12_matches 85 = .ok (.aload_n 0, 1) := by decide +kernel
theorem dX12_matches_86 : decode cX12_matches 86 = .ok (.getfield 130, 3) := by decide +kernel
theorem dX12_matches_89 : decode cX12_matches 89 = .ok (.iload_n 2, 1) := by decide +kernel
theorem dX12_matches_90 : decode cX12_matches 90 = .ok (.iconst (-1), 1) := by decide +kernel
theorem dX12_matches_91 : decode cX12_matches 91 = .ok (.iastore, 1) := by decide +kernel
theorem dX12_matches_92 : decode cX12_matches 92 = .ok (.iinc 2 1, 3) := by decide +kernel
theorem dX12_matches_95 : decode cX12_matches 95 = .ok (.goto (-18), 3) := by decide +kernel
theorem dX12_matches_98 : decode cX12_matches 98 = .ok (.iconst 0, 1) := by decide +kernel
theorem dX12_matches_99 : decode cX12_matches 99 = .ok (.istore_n 2, 1) := by decide +kernel
theorem dX12_matches_100 : decode cX12_matches 100 = .ok (.iload_n 2, 1) := by decide +kernel
theorem dX12_matches_101 : decode cX12_matches 101 = .ok (.aload_n 0, 1) := by decide +kernel
theorem dX12_matches_102 : decode cX12_matches 102 = .ok (.getfield 354, 3) := by decide +kernel
theorem dX12_matches_105 : decode cX12_matches 105 = .ok (.if_icmp .ge 43, 3) := by decide +kernel
theorem dX12_matches_108 : decode cX12_matches 108 = .ok (.aload_n 0, 1) := by decide +kernel
theorem dX12_matches_109 : decode cX12_matches 109 = .ok (.getfield 127, 3) := by decide +kernel
theorem dX12_matches_112 : decode cX12_matches 112 = .ok (.iload_n 2, 1) := by decide +kernel
theorem dX12_matches_113 : decode cX12_matches 113 = .ok (.aload_n 0, 1) := by decide +kernel
theorem dX12_matches_114 : decode cX12_matches 114 = .ok (.getfield 133, 3) := by decide +kernel
theorem dX12_matches_117 : decode cX12_matches 117 = .ok (.iload_n 2, 1) := by decide +kernel
theorem dX12_matches_118 : decode cX12_matches 118 = .ok (.iaload, 1) := by decide +kernel
theorem dX12_matches_119 : decode cX12_matches 119 = .ok (.iastore, 1) := by decide +kernel
theorem dX12_matches_120 : decode cX12_matches 120 = .ok (.aload_n 0, 1) := by decide +kernel
theorem dX12_matches_121 : decode cX12_matches 121 = .ok (.getfield 133, 3) := by decide +kernel
theorem dX12_matches_124 : decode cX12_matches 124 = .ok (.iload_n 2, 1) := by decide +kernel
theorem dX12_matches_125 : decode cX12_matches 125 = .ok (.iaload, 1) := by decide +kernel
theorem dX12_matches_126 : decode cX12_matches 126 = .ok (.iconst (-1), 1) := by decide +kernel
theorem dX12_matches_127 : decode cX12_matches 127 = .ok (.if_icmp .eq 15, 3) := by decide +kernel
theorem dX12_matches_130 : decode cX12_matches 130 = .ok (.aload_n 0, 1) := by decide +kernel
theorem dX12_matches_131 : decode cX12_matches 131 = .ok (.getfield 130, 3) := by decide +kernel
theorem dX12_matches_134 : decode cX12_matches 134 = .ok (.aload_n 0, 1) := by decide +kernel
theorem dX12_matches_135 : decode cX12_matches 135 = .ok (.getfield 133, 3) := by decide +kernel
theorem dX12_matches_138 : decode cX12_matches 138 = .ok (.iload_n 2, 1) := by decide +kernel
theorem dX12_matches_139 : decode cX12_matches 139 = .ok (.iaload, 1) := by decide +kernel
theorem dX12_matches_140 : decode cX12_matches 140 = .ok (.iload_n 2, 1) := by decide +kernel
theorem dX12_matches_141 : decode cX12_matches 141 = .ok (.iastore, 1) := by decide +kernel
theorem dX12_matches_142 : decode cX12_matches 142 = .ok (.iinc 2 1, 3) := by decide +kernel
theorem dX12_matches_145 : decode cX12_matches 145 = .ok (.goto (-45), 3) := by decide +kernel
theorem dX12_matches_148 : decode cX12_matches 148 = .ok (.goto 8, 3) := by decide +kernel
theorem dX12_matches_151 : decode cX12_matches 151 = .ok (.aload_n 0, 1) := by decide +kernel
theorem dX12_matches_152 : decode cX12_matches 152 = .ok (.iload_n 1, 1) := by decide +kernel
theorem dX12_matches_153 : decode cX12_matches 153 = .ok (.invokevirtual 393, 3) := by decide +kernel
theorem dX12_matches_156 : decode cX12_matches 156 = .ok (.return_, 1) := by decide +kernel
theorem dX12_merge_0 : decode cX12_merge 0 = .ok (.aload_n 0, 1) := by decide +kernel
theorem dX12_merge_1 : decode cX12_merge 1 = .ok (.iload_n 1, 1) := by decide +kernel
theorem dX12_merge_2 : decode cX12_merge 2 = .ok (.invokevirtual 396, 3) := by decide +kernel
theorem dX12_merge_5 : decode cX12_merge 5 = .ok (.ifCond .eq 11, 3) := by decide +kernel
theorem dX12_merge_8 : decode cX12_merge 8 = .ok (.aload_n 0, 1) := by decide +kernel
theorem dX12_merge_9 : decode cX12_merge 9 = .ok (.iload_n 2, 1) := by decide +kernel
theorem dX12_merge_10 : decode cX12_merge 10 = .ok (.invokevirtual 396, 3) := by decide +kernel
theorem dX12_merge_13 : decode cX12_merge 13 = .ok (.ifCond .ne 5, 3) := by decide +kernel
theorem dX12_merge_16 : decode cX12_merge 16 = .ok (.iconst (-1), 1) := by decide +kernel
theorem dX12_merge_17 : decode cX12_merge 17 = .ok (.ireturn, 1) := by decide +kernel
theorem dX12_merge_18 : decode cX12_merge 18 = .ok (.aload_n 0, 1) := by decide +kernel
theorem dX12_merge_19 : decode cX12_merge 19 = .ok (.iload_n 1, 1) := by decide +kernel
theorem dX12_merge_20 : decode cX12_merge 20 = .ok (.iload_n 2, 1) := by decide +kernel
theorem dX12_merge_21 : decode cX12_merge 21 = .ok (.invokevirtual 512, 3) := by decide +kernel
theorem dX12_merge_24 : decode cX12_merge 24 = .ok (.ifCond .eq 5, 3) := by decide +kernel
theorem dX12_merge_27 : decode cX12_merge 27 = .ok (.iload_n 1, 1) := by decide +kernel
theorem dX12_merge_28 : decode cX12_merge 28 = .ok (.ireturn, 1) := by decide +kernel
theorem dX12_merge_29 : decode cX12_merge 29 = .ok (.aload_n 0, 1) := by decide +kernel
theorem dX12_merge_30 : decode cX12_merge 30 = .ok (.iload_n 2, 1) := by decide +kernel
theorem dX12_merge_31 : decode cX12_merge 31 = .ok (.iload_n 1, 1) := by decide +kernel
theorem dX12_merge_32 : decode cX12_merge 32 = .ok (.invokevirtual 512, 3) := by decide +kernel
theorem dX12_merge_35 : decode cX12_merge 35 = .ok (.ifCond .eq 5, 3) := by decide +kernel
theorem dX12_merge_38 : decode cX12_merge 38 = .ok (.iload_n 2, 1) := by decide +kernel
theorem dX12_merge_39 : decode cX12_merge 39 = .ok (.ireturn, 1) := by decide +kernel
theorem dX12_merge_40 : decode cX12_merge 40 = .ok (.aload_n 0, 1) := by decide +kernel
theorem dX12_merge_41 : decode cX12_merge 41 = .ok (.getfield 339, 3) := by decide +kernel
theorem dX12_merge_44 : decode cX12_merge 44 = .ok (.bipush 12, 2) := by decide +kernel
theorem dX12_merge_46 : decode cX12_merge 46 = .ok (.if_icmp .ne 5, 3) := by decide +kernel
theorem dX12_merge_49 : decode cX12_merge 49 = .ok (.iconst (-1), 1) := by decide +kernel
theorem dX12_merge_50 : decode cX12_merge 50 = .ok (.ireturn, 1) := by decide +kernel
theorem dX12_merge_51 : decode cX12_merge 51 = .ok (.aload_n 0, 1) := by decide +kernel
theorem dX12_merge_52 : decode cX12_merge 52 = .ok (.iload_n 1, 1) := by decide +kernel
theorem dX12_merge_53 : decode cX12_merge 53 = .ok (.iload_n 2, 1) := by decide +kernel
theorem dX12_merge_54 : decode cX12_merge 54 = .ok (.invokevirtual 524, 3) := by decide +kernel
theorem dX12_merge_57 : decode cX12_merge 57 = .ok (.istore_n 3, 1) := by decide +kernel
theorem dX12_merge_58 : decode cX12_merge 58 = .ok (.iload_n 3, 1) := by decide +kernel
theorem dX12_merge_59 : decode cX12_merge 59 = .ok (.iconst (-1), 1) := by decide +kernel
theorem dX12_merge_60 : decode cX12_merge 60 = .ok (.if_icmp .eq 22, 3) := by decide +kernel
theorem dX12_merge_63 : decode cX12_merge 63 = .ok (.aload_n 0, 1) := by decide +kernel
theorem dX12_merge_64 : decode cX12_merge 64 = .ok (.iload_n 1, 1) := by decide +kernel
theorem dX12_merge_65 : decode cX12_merge 65 = .ok (.iload_n 2, 1) := by decide +kernel
theorem dX12_merge_66 : decode cX12_merge 66 = .ok (.iload_n 3, 1) := by decide +kernel
theorem dX12_merge_67 : decode cX12_merge 67 = .ok (.invokevirtual 521, 3) := by decide +kernel
theorem dX12_merge_70 : decode cX12_merge 70 = .ok (.ifCond .eq 12, 3) := by decide +kernel
theorem dX12_merge_73 : decode cX12_merge 73 = .ok (.aload_n 0, 1) := by decide +kernel
theorem dX12_merge_74 : decode cX12_merge 74 = .ok (.iload_n 1, 1) := by decide +kernel
theorem dX12_merge_75 : decode cX12_merge 75 = .ok (.iload_n 2, 1) := by decide +kernel
theorem dX12_merge_76 : decode cX12_merge 76 = .ok (.invokevirtual 527, 3) := by decide +kernel
theorem dX12_merge_79 : decode cX12_merge 79 = .ok (.goto 4, 3) := by decide +kernel
theorem dX12_merge_82 : decode cX12_merge 82 = .ok (.iconst (-1), 1) := by decide +kernel
theorem dX12_merge_83 : decode cX12_merge 83 = .ok (.ireturn, 1) := by decide +kernel
theorem dX12_merges_0 : decode cX12_merges 0 = .ok (.aload_n 0, 1) := by decide +kernel
theorem dX12_merges_1 : decode cX12_merges 1 = .ok (.iload_n 1, 1) := by decide +kernel
theorem dX12_merges_2 : decode cX12_merges 2 = .ok (.iload_n 2, 1) := by decide +kernel
theorem dX12_merges_3 : decode cX12_merges 3 = .ok (.iload_n 3, 1) := by decide +kernel
theorem dX12_merges_4 : decode cX12_merges 4 = .ok (.invokevirtual 500, 3) := by decide +kernel
theorem dX12_merges_7 : decode cX12_merges 7 = .ok (.aload_n 0, 1) := by decide +kernel
theorem dX12_merges_8 : decode cX12_merges 8 = .ok (.getfield 455, 3) := by decide +kernel
theorem dX12_merges_11 : decode cX12_merges 11 = .ok (.ifCond .le 5, 3) := by decide +kernel
theorem dX12_merges_14 : decode cX12_merges 14 = .ok (.iconst 0, 1) := by decide +kernel
theorem dX12_merges_15 : decode cX12_merges 15 = .ok (.ireturn, 1) := by decide +kernel
theorem dX12_merges_16 : decode cX12_merges 16 = .ok (.aload_n 0, 1) := by decide +kernel
theorem dX12_merges_17 : decode cX12_merges 17 = .ok (.iload_n 1, 1) := by decide +kernel
theorem dX12_merges_18 : decode cX12_merges 18 = .ok (.iload_n 2, 1) := by decide +kernel
theorem dX12_merges_19 : decode cX12_merges 19 = .ok (.iload_n 3, 1) := by decide +kernel
theorem dX12_merges_20 : decode cX12_merges 20 = .ok (.invokevirtual 503, 3) := by decide +kernel
theorem dX12_merges_23 : decode cX12_merges 23 = .ok (.aload_n 0, 1) := by decide +kernel
theorem dX12_merges_24 : decode cX12_merges 24 = .ok (.invokevirtual 506, 3) := by decide +kernel
theorem dX12_merges_27 : decode cX12_merges 27 = .ok (.aload_n 0, 1) := by decide +kernel
theorem dX12_merges_28 : decode cX12_merges 28 = .ok (.getfield 455, 3) := by decide +kernel
theorem dX12_merges_31 : decode cX12_merges 31 = .ok (.ifCond .le 5, 3) := by decide +kernel
theorem dX12_merges_34 : decode cX12_merges 34 = .ok (.iconst 0, 1) := by decide +kernel
theorem dX12_merges_35 : decode cX12_merges 35 = .ok (.ireturn, 1) := by decide +kernel
theorem dX12_merges_36 : decode cX12_merges 36 = .ok (.aload_n 0, 1) := by decide +kernel
theorem dX12_merges_37 : decode cX12_merges 37 = .ok (.iload_n 1, 1) := by decide +kernel
theorem dX12_merges_38 : decode cX12_merges 38 = .ok (.iload_n 2, 1) := by decide +kernel
theorem dX12_merges_39 : decode cX12_merges 39 = .ok (.iload_n 3, 1) := by decide +kernel
theorem dX12_merges_40 : decode cX12_merges 40 = .ok (.invokevirtual 509, 3) := by decide +kernel
theorem dX12_merges_43 : decode cX12_merges 43 = .ok (.aload_n 0, 1) := by decide +kernel
theorem dX12_merges_44 : decode cX12_merges 44 = .ok (.getfield 455, 3) := by decide +kernel
theorem dX12_merges_47 : decode cX12_merges 47 = .ok (.ifCond .ne 7, 3) := by decide +kernel
theorem dX12_merges_50 : decode cX12_merges 50 = .ok (.iconst 1, 1) := by decide +kernel
theorem dX12_merges_51 : decode cX12_merges 51 = .ok (.goto 4, 3) := by decide +kernel
theorem dX12_merges_54 : decode cX12_merges 54 = .ok (.iconst 0, 1) := by decide +kernel
theorem dX12_merges_55 : decode cX12_merges 55 = .ok (.ireturn, 1) := by decide +kernel
theorem dX12_move_0 : decode cX12_move 0 = .ok (.aload_n 0, 1) := by decide +kernel
theorem dX12_move_1 : decode cX12_move 1 = .ok (.iload_n 1, 1) := by decide +kernel
theorem dX12_move_2 : decode cX12_move 2 = .ok (.invokevirtual 425, 3) := by decide +kernel
theorem dX12_move_5 : decode cX12_move 5 = .ok (.ifCond .eq 35, 3) := by decide +kernel
theorem dX12_move_8 : decode cX12_move 8 = .ok (.aload_n 0, 1) := by decide +kernel
theorem dX12_move_9 : decode cX12_move 9 = .ok (.iload_n 2, 1) := by decide +kernel
theorem dX12_move_10 : decode cX12_move 10 = .ok (.invokevirtual 425, 3) := by decide +kernel
theorem dX12_move_13 : decode cX12_move 13 = .ok (.ifCond .eq 27, 3) := by decide +kernel
theorem dX12_move_16 : decode cX12_move 16 = .ok (.aload_n 0, 1) := by decide +kernel
theorem dX12_move_17 : decode cX12_move 17 = .ok (.getfield 53, 3) := by decide +kernel
theorem dX12_move_20 : decode cX12_move 20 = .ok (.bipush 12, 2) := by decide +kernel
theorem dX12_move_22 : decode cX12_move 22 = .ok (.aaload, 1) := by decide +kernel
theorem dX12_move_23 : decode cX12_move 23 = .ok (.iload_n 1, 1) := by decide +kernel
theorem dX12_move_24 : decode cX12_move 24 = .ok (.iaload, 1) := by decide +kernel
theorem dX12_move_25 : decode cX12_move 25 = .ok (.iconst (-1), 1) := by decide +kernel
theorem dX12_move_26 : decode cX12_move 26 = .ok (.if_icmp .eq 14, 3) := by decide +kernel
theorem dX12_move_29 : decode cX12_move 29 = .ok (.aload_n 0, 1) := by decide +kernel
theorem dX12_move_30 : decode cX12_move 30 = .ok (.bipush 12, 2) := by decide +kernel
theorem dX12_move_32 : decode cX12_move 32 = .ok (.iload_n 2, 1) := by decide +kernel
theorem dX12_move_33 : decode cX12_move 33 = .ok (.iload_n 1, 1) := by decide +kernel
theorem dX12_move_34 : decode cX12_move 34 = .ok (.invokevirtual 442, 3) := by decide +kernel
theorem dX12_move_37 : decode cX12_move 37 = .ok (.ifCond .eq 5, 3) := by decide +kernel
theorem dX12_move_40 : decode cX12_move 40 = .ok (.iconst 0, 1) := by decide +kernel
theorem dX12_move_41 : decode cX12_move 41 = .ok (.ireturn, 1) := by decide +kernel
theorem dX12_move_42 : decode cX12_move 42 = .ok (.aload_n 0, 1) := by decide +kernel
theorem dX12_move_43 : decode cX12_move 43 = .ok (.bipush 12, 2) := by decide +kernel
theorem dX12_move_45 : decode cX12_move 45 = .ok (.iload_n 2, 1) := by decide +kernel
theorem dX12_move_46 : decode cX12_move 46 = .ok (.invokevirtual 315, 3) := by decide +kernel
theorem dX12_move_49 : decode cX12_move 49 = .ok (.aload_n 0, 1) := by decide +kernel
theorem dX12_move_50 : decode cX12_move 50 = .ok (.getfield 53, 3) := by decide +kernel
theorem dX12_move_53 : decode cX12_move 53 = .ok (.bipush 12, 2) := by decide +kernel
theorem dX12_move_55 : decode cX12_move 55 = .ok (.aaload, 1) := by decide +kernel
theorem dX12_move_56 : decode cX12_move 56 = .ok (.iload_n 1, 1) := by decide +kernel
theorem dX12_move_57 : decode cX12_move 57 = .ok (.iaload, 1) := by decide +kernel
theorem dX12_move_58 : decode cX12_move 58 = .ok (.iload_n 2, 1) := by decide +kernel
theorem dX12_move_59 : decode cX12_move 59 = .ok (.if_icmp .ne 7, 3) := by decide +kernel
theorem dX12_move_62 : decode cX12_move 62 = .ok (.iconst 1, 1) := by decide +kernel
theorem dX12_move_63 : decode cX12_move 63 = .ok (.goto 4, 3) := by decide +kernel
theorem dX12_move_66 : decode cX12_move 66 = .ok (.iconst 0, 1) := by decide +kernel
theorem dX12_move_67 : decode cX12_move 67 = .ok (.isub, 1) := by decide +kernel
theorem dX12_move_68 : decode cX12_move 68 = .ok (.istore 4, 2) := by decide +kernel
theorem dX12_move_70 : decode cX12_move 70 = .ok (.iload_n 3, 1) := by decide +kernel
theorem dX12_move_71 : decode cX12_move 71 = .ok (.i2l, 1) := by decide +kernel
theorem dX12_move_72 : decode cX12_move 72 = .ok (.lconst 0, 1) := by decide +kernel
theorem dX12_move_73 : decode cX12_move 73 = .ok (.iload 4, 2) := by decide +kernel
theorem dX12_move_75 : decode cX12_move 75 = .ok (.i2l, 1) := by decide +kernel
theorem dX12_move_76 : decode cX12_move 76 = .ok (.invokestatic 171, 3) := by decide +kernel
theorem dX12_move_79 : decode cX12_move 79 = .ok (.ifCond .ne 5, 3) := by decide +kernel
theorem dX12_move_82 : decode cX12_move 82 = .ok (.iconst 0, 1) := by decide +kernel
theorem dX12_move_83 : decode cX12_move 83 = .ok (.ireturn, 1) := by decide +kernel
theorem dX12_move_84 : decode cX12_move 84 = .ok (.aload_n 0, 1) := by decide +kernel
theorem dX12_move_85 : decode cX12_move 85 = .ok (.getfield 53, 3) := by decide +kernel
theorem dX12_move_88 : decode cX12_move 88 = .ok (.bipush 12, 2) := by decide +kernel
theorem dX12_move_90 : decode cX12_move 90 = .ok (.aaload, 1) := by decide +kernel
theorem dX12_move_91 : decode cX12_move 91 = .ok (.iload_n 1, 1) := by decide +kernel
theorem dX12_move_92 : decode cX12_move 92 = .ok (.iaload, 1) := by decide +kernel
theorem dX12_move_93 : decode cX12_move 93 = .ok (.istore 5, 2) := by decide +kernel
theorem dX12_move_95 : decode cX12_move 95 = .ok (.aload_n 0, 1) := by decide +kernel
theorem dX12_move_96 : decode cX12_move 96 = .ok (.getfield 45, 3) := by decide +kernel
theorem dX12_move_99 : decode cX12_move 99 = .ok (.bipush 12, 2) := by decide +kernel
theorem dX12_move_101 : decode cX12_move 101 = .ok (.aaload, 1) := by decide +kernel
theorem dX12_move_102 : decode cX12_move 102 = .ok (.iload_n 1, 1) := by decide +kernel
theorem dX12_move_103 : decode cX12_move 103 = .ok (.iconst 0, 1) := by decide +kernel
theorem dX12_move_104 : decode cX12_move 104 = .ok (.bastore, 1) := by decide +kernel
theorem dX12_move_105 : decode cX12_move 105 = .ok (.aload_n 0, 1) := by decide +kernel
theorem dX12_move_106 : decode cX12_move 106 = .ok (.iload 5, 2) := by decide +kernel
theorem dX12_move_108 : decode cX12_move 108 = .ok (.invokevirtual 422, 3) := by decide +kernel
theorem dX12_move_111 : decode cX12_move 111 = .ok (.aload_n 0, 1) := by decide +kernel
theorem dX12_move_112 : decode cX12_move 112 = .ok (.iload_n 1, 1) := by decide +kernel
theorem dX12_move_113 : decode cX12_move 113 = .ok (.iload_n 2, 1) := by decide +kernel
theorem dX12_move_114 : decode cX12_move 114 = .ok (.iload_n 3, 1) := by decide +kernel
theorem dX12_move_115 : decode cX12_move 115 = .ok (.invokevirtual 439, 3) := by decide +kernel
theorem dX12_move_118 : decode cX12_move 118 = .ok (.iconst 1, 1) := by decide +kernel
theorem dX12_move_119 : decode cX12_move 119 = .ok (.ireturn, 1) := by decide +kernel
theorem dX12_name_0 : decode cX12_name 0 = .ok (.aload_n 0, 1) := by decide +kernel
theorem dX12_name_1 : decode cX12_name 1 = .ok (.iload_n 1, 1) := by decide +kernel
theorem dX12_name_2 : decode cX12_name 2 = .ok (.invokevirtual 396, 3) := by decide +kernel
theorem dX12_name_5 : decode cX12_name 5 = .ok (.ifCond .eq 16, 3) := by decide +kernel
theorem dX12_name_8 : decode cX12_name 8 = .ok (.aload_n 0, 1) := by decide +kernel
theorem dX12_name_9 : decode cX12_name 9 = .ok (.iload_n 1, 1) := by decide +kernel
theorem dX12_name_10 : decode cX12_name 10 = .ok (.aload_n 0, 1) := by decide +kernel
theorem dX12_name_11 : decode cX12_name 11 = .ok (.iload_n 1, 1) := by decide +kernel
theorem dX12_name_12 : decode cX12_name 12 = .ok (.invokevirtual 324, 3) := by decide +kernel
theorem dX12_name_15 : decode cX12_name 15 = .ok (.invokevirtual 539, 3) := by decide +kernel
theorem dX12_name_18 : decode cX12_name 18 = .ok (.goto 4, 3) := by decide +kernel
theorem dX12_name_21 : decode cX12_name 21 = .ok (.iconst (-1), 1) := by decide +kernel
theorem dX12_name_22 : decode cX12_name 22 = .ok (.ireturn, 1) := by decide +kernel
theorem dX12_nameOf_0 : decode cX12_nameOf 0 = .ok (.aload_n 0, 1) := by decide +kernel
theorem dX12_nameOf_1 : decode cX12_nameOf 1 = .ok (.getfield 59, 3) := by decide +kernel
theorem dX12_nameOf_4 : decode cX12_nameOf 4 = .ok (.iload_n 2, 1) := by decide +kernel
theorem dX12_nameOf_5 : decode cX12_nameOf 5 = .ok (.iaload, 1) := by decide +kernel
theorem dX12_nameOf_6 : decode cX12_nameOf 6 = .ok (.bipush 7, 2) := by decide +kernel
theorem dX12_nameOf_8 : decode cX12_nameOf 8 = .ok (.iadd, 1) := by decide +kernel
theorem dX12_nameOf_9 : decode cX12_nameOf 9 = .ok (.i2l, 1) := by decide +kernel
theorem dX12_nameOf_10 : decode cX12_nameOf 10 = .ok (.lstore_n 3, 1) := by decide +kernel
theorem dX12_nameOf_11 : decode cX12_nameOf 11 = .ok (.aload_n 0, 1) := by decide +kernel
theorem dX12_nameOf_12 : decode cX12_nameOf 12 = .ok (.getfield 50, 3) := by decide +kernel
theorem dX12_nameOf_15 : decode cX12_nameOf 15 = .ok (.iload_n 1, 1) := by decide +kernel
theorem dX12_nameOf_16 : decode cX12_nameOf 16 = .ok (.aaload, 1) := by decide +kernel
theorem dX12_nameOf_17 : decode cX12_nameOf 17 = .ok (.iload_n 2, 1) := by decide +kernel
theorem dX12_nameOf_18 : decode cX12_nameOf 18 = .ok (.laload, 1) := by decide +kernel
theorem dX12_nameOf_19 : decode cX12_nameOf 19 = .ok (.lstore 5, 2) := by decide +kernel
theorem dX12_nameOf_21 : decode cX12_nameOf 21 = .ok (.lload 5, 2) := by decide +kernel
theorem dX12_nameOf_23 : decode cX12_nameOf 23 = .ok (.invokestatic 297, 3) := by decide +kernel
theorem dX12_nameOf_26 : decode cX12_nameOf 26 = .ok (.iconst 1, 1) := by decide +kernel
theorem dX12_nameOf_27 : decode cX12_nameOf 27 = .ok (.isub, 1) := by decide +kernel
theorem dX12_nameOf_28 : decode cX12_nameOf 28 = .ok (.istore 7, 2) := by decide +kernel
theorem dX12_nameOf_30 : decode cX12_nameOf 30 = .ok (.iload 7, 2) := by decide +kernel
theorem dX12_nameOf_32 : decode cX12_nameOf 32 = .ok (.ifCond .lt 32, 3) := by decide +kernel
theorem dX12_nameOf_35 : decode cX12_nameOf 35 = .ok (.lload_n 3, 1) := by decide +kernel
theorem dX12_nameOf_36 : decode cX12_nameOf 36 = .ok (.ldc2_w 533, 3) := by decide +kernel
theorem dX12_nameOf_39 : decode cX12_nameOf 39 = .ok (.lmul, 1) := by decide +kernel
theorem dX12_nameOf_40 : decode cX12_nameOf 40 = .ok (.lload 5, 2) := by decide +kernel
theorem dX12_nameOf_42 : decode cX12_nameOf 42 = .ok (.bipush 8, 2) := by decide +kernel
theorem dX12_nameOf_44 : decode cX12_nameOf 44 = .ok (.iload 7, 2) := by decide +kernel
theorem dX12_nameOf_46 : decode cX12_nameOf 46 = .ok (.imul, 1) := by decide +kernel
theorem dX12_nameOf_47 : decode cX12_nameOf 47 = .ok (.lushr, 1) := by decide +kernel
theorem dX12_nameOf_48 : decode cX12_nameOf 48 = .ok (.ldc2_w 420, 3) := by decide +kernel
theorem dX12_nameOf_51 : decode cX12_nameOf 51 = .ok (.land, 1) := by decide +kernel
theorem dX12_nameOf_52 : decode cX12_nameOf 52 = .ok (.ladd, 1) := by decide +kernel
theorem dX12_nameOf_53 : decode cX12_nameOf 53 = .ok (.ldc2_w 535, 3) := by decide +kernel
theorem dX12_nameOf_56 : decode cX12_nameOf 56 = .ok (.lrem, 1) := by decide +kernel
theorem dX12_nameOf_57 : decode cX12_nameOf 57 = .ok (.lstore_n 3, 1) := by decide +kernel
theorem dX12_nameOf_58 : decode cX12_nameOf 58 = .ok (.iinc 7 (-1), 3) := by decide +kernel
theorem dX12_nameOf_61 : decode cX12_nameOf 61 = .ok (.goto (-31), 3) := by decide +kernel
theorem dX12_nameOf_64 : decode cX12_nameOf 64 = .ok (.aload_n 0, 1) := by decide +kernel
theorem dX12_nameOf_65 : decode cX12_nameOf 65 = .ok (.iload_n 1, 1) := by decide +kernel
theorem dX12_nameOf_66 : decode cX12_nameOf 66 = .ok (.iload_n 2, 1) := by decide +kernel
theorem dX12_nameOf_67 : decode cX12_nameOf 67 = .ok (.invokevirtual 291, 3) := by decide +kernel
theorem dX12_nameOf_70 : decode cX12_nameOf 70 = .ok (.istore 7, 2) := by decide +kernel
theorem dX12_nameOf_72 : decode cX12_nameOf 72 = .ok (.iload 7, 2) := by decide +kernel
theorem dX12_nameOf_74 : decode cX12_nameOf 74 = .ok (.iconst (-1), 1) := by decide +kernel
theorem dX12_nameOf_75 : decode cX12_nameOf 75 = .ok (.if_icmp .eq 36, 3) := by decide +kernel
theorem dX12_nameOf_78 : decode cX12_nameOf 78 = .ok (.lload_n 3, 1) := by decide +kernel
theorem dX12_nameOf_79 : decode cX12_nameOf 79 = .ok (.ldc2_w 537, 3) := by decide +kernel
theorem dX12_nameOf_82 : decode cX12_nameOf 82 = .ok (.lmul, 1) := by decide +kernel
theorem dX12_nameOf_83 : decode cX12_nameOf 83 = .ok (.aload_n 0, 1) := by decide +kernel
theorem dX12_nameOf_84 : decode cX12_nameOf 84 = .ok (.iload_n 1, 1) := by decide +kernel
theorem dX12_nameOf_85 : decode cX12_nameOf 85 = .ok (.iload 7, 2) := by decide +kernel
theorem dX12_nameOf_87 : decode cX12_nameOf 87 = .ok (.invokevirtual 539, 3) := by decide +kernel
theorem dX12_nameOf_90 : decode cX12_nameOf 90 = .ok (.i2l, 1) := by decide +kernel
theorem dX12_nameOf_91 : decode cX12_nameOf 91 = .ok (.ladd, 1) := by decide +kernel
theorem dX12_nameOf_92 : decode cX12_nameOf 92 = .ok (.lconst 1, 1) := by decide +kernel
theorem dX12_nameOf_93 : decode cX12_nameOf 93 = .ok (.ladd, 1) := by decide +kernel
theorem dX12_nameOf_94 : decode cX12_nameOf 94 = .ok (.ldc2_w 535, 3) := by decide +kernel
theorem dX12_nameOf_97 : decode cX12_nameOf 97 = .ok (.lrem, 1) := by decide +kernel
theorem dX12_nameOf_98 : decode cX12_nameOf 98 = .ok (.lstore_n 3, 1) := by decide +kernel
theorem dX12_nameOf_99 : decode cX12_nameOf 99 = .ok (.aload_n 0, 1) := by decide +kernel
theorem dX12_nameOf_100 : decode cX12_nameOf 100 = .ok (.iload_n 1, 1) := by decide +kernel
theorem dX12_nameOf_101 : decode cX12_nameOf 101 = .ok (.iload 7, 2) := by decide +kernel
theorem dX12_nameOf_103 : decode cX12_nameOf 103 = .ok (.invokevirtual 294, 3) := by decide +kernel
theorem dX12_nameOf_106 : decode cX12_nameOf 106 = .ok (.istore 7, 2) := by decide +kernel
theorem dX12_nameOf_108 : decode cX12_nameOf 108 = .ok (.goto (-36), 3) := by decide +kernel
theorem dX12_nameOf_111 : decode cX12_nameOf 111 = .ok (.lload_n 3, 1) := by decide +kernel
theorem dX12_nameOf_112 : decode cX12_nameOf 112 = .ok (.l2i, 1) := by decide +kernel
theorem dX12_nameOf_113 : decode cX12_nameOf 113 = .ok (.ireturn, 1) := by decide +kernel
theorem dX12_newNode_0 : decode cX12_newNode 0 = .ok (.aload_n 0, 1) := by decide +kernel
theorem dX12_newNode_1 : decode cX12_newNode 1 = .ok (.getfield 59, 3) := by decide +kernel
theorem dX12_newNode_4 : decode cX12_newNode 4 = .ok (.aload_n 0, 1) := by decide +kernel
theorem dX12_newNode_5 : decode cX12_newNode 5 = .ok (.getfield 336, 3) := by decide +kernel
theorem dX12_newNode_8 : decode cX12_newNode 8 = .ok (.iload_n 1, 1) := by decide +kernel
theorem dX12_newNode_9 : decode cX12_newNode 9 = .ok (.iastore, 1) := by decide +kernel
theorem dX12_newNode_10 : decode cX12_newNode 10 = .ok (.aload_n 0, 1) := by decide +kernel
theorem dX12_newNode_11 : decode cX12_newNode 11 = .ok (.getfield 62, 3) := by decide +kernel
theorem dX12_newNode_14 : decode cX12_newNode 14 = .ok (.aload_n 0, 1) := by decide +kernel
theorem dX12_newNode_15 : decode cX12_newNode 15 = .ok (.getfield 336, 3) := by decide +kernel
theorem dX12_newNode_18 : decode cX12_newNode 18 = .ok (.iload_n 2, 1) := by decide +kernel
theorem dX12_newNode_19 : decode cX12_newNode 19 = .ok (.iastore, 1) := by decide +kernel
theorem dX12_newNode_20 : decode cX12_newNode 20 = .ok (.aload_n 0, 1) := by decide +kernel
theorem dX12_newNode_21 : decode cX12_newNode 21 = .ok (.dup, 1) := by decide +kernel
theorem dX12_newNode_22 : decode cX12_newNode 22 = .ok (.getfield 336, 3) := by decide +kernel
theorem dX12_newNode_25 : decode cX12_newNode 25 = .ok (.iconst 1, 1) := by decide +kernel
theorem dX12_newNode_26 : decode cX12_newNode 26 = .ok (.iadd, 1) := by decide +kernel
theorem dX12_newNode_27 : decode cX12_newNode 27 = .ok (.putfield 336, 3) := by decide +kernel
theorem dX12_newNode_30 : decode cX12_newNode 30 = .ok (.aload_n 0, 1) := by decide +kernel
theorem dX12_newNode_31 : decode cX12_newNode 31 = .ok (.getfield 336, 3) := by decide +kernel
theorem dX12_newNode_34 : decode cX12_newNode 34 = .ok (.iconst 1, 1) := by decide +kernel
theorem dX12_newNode_35 : decode cX12_newNode 35 = .ok (.isub, 1) := by decide +kernel
theorem dX12_newNode_36 : decode cX12_newNode 36 = .ok (.ireturn, 1) := by decide +kernel
theorem dX12_next_0 : decode cX12_next 0 = .ok (.aload_n 0, 1) := by decide +kernel
theorem dX12_next_1 : decode cX12_next 1 = .ok (.iload_n 1, 1) := by decide +kernel
theorem dX12_next_2 : decode cX12_next 2 = .ok (.iload_n 2, 1) := by decide +kernel
theorem dX12_next_3 : decode cX12_next 3 = .ok (.invokevirtual 291, 3) := by decide +kernel
theorem dX12_next_6 : decode cX12_next 6 = .ok (.istore 4, 2) := by decide +kernel
theorem dX12_next_8 : decode cX12_next 8 = .ok (.iload_n 2, 1) := by decide +kernel
theorem dX12_next_9 : decode cX12_next 9 = .ok (.istore 5, 2) := by decide +kernel
theorem dX12_next_11 : decode cX12_next 11 = .ok (.iload 4, 2) := by decide +kernel
theorem dX12_next_13 : decode cX12_next 13 = .ok (.iconst (-1), 1) := by decide +kernel
theorem dX12_next_14 : decode cX12_next 14 = .ok (.if_icmp .ne 32, 3) := by decide +kernel
theorem dX12_next_17 : decode cX12_next 17 = .ok (.iload 5, 2) := by decide +kernel
theorem dX12_next_19 : decode cX12_next 19 = .ok (.iload_n 3, 1) := by decide +kernel
theorem dX12_next_20 : decode cX12_next 20 = .ok (.if_icmp .eq 26, 3) := by decide +kernel
theorem dX12_next_23 : decode cX12_next 23 = .ok (.aload_n 0, 1) := by decide +kernel
theorem dX12_next_24 : decode cX12_next 24 = .ok (.iload_n 1, 1) := by decide +kernel
theorem dX12_next_25 : decode cX12_next 25 = .ok (.iload 5, 2) := by decide +kernel
theorem dX12_next_27 : decode cX12_next 27 = .ok (.invokevirtual 294, 3) := by decide +kernel
theorem dX12_next_30 : decode cX12_next 30 = .ok (.istore 4, 2) := by decide +kernel
theorem dX12_next_32 : decode cX12_next 32 = .ok (.aload_n 0, 1) := by decide +kernel
theorem dX12_next_33 : decode cX12_next 33 = .ok (.getfield 53, 3) := by decide +kernel
theorem dX12_next_36 : decode cX12_next 36 = .ok (.iload_n 1, 1) := by decide +kernel
theorem dX12_next_37 : decode cX12_next 37 = .ok (.aaload, 1) := by decide +kernel
theorem dX12_next_38 : decode cX12_next 38 = .ok (.iload 5, 2) := by decide +kernel
theorem dX12_next_40 : decode cX12_next 40 = .ok (.iaload, 1) := by decide +kernel
theorem dX12_next_41 : decode cX12_next 41 = .ok (.istore 5, 2) := by decide +kernel
theorem dX12_next_43 : decode cX12_next 43 = .ok (.goto (-32), 3) := by decide +kernel
theorem dX12_next_46 : decode cX12_next 46 = .ok (.iload 4, 2) := by decide +kernel
theorem dX12_next_48 : decode cX12_next 48 = .ok (.ireturn, 1) := by decide +kernel
theorem dX12_nextKid_0 : decode cX12_nextKid 0 = .ok (.aload_n 0, 1) := by decide +kernel
theorem dX12_nextKid_1 : decode cX12_nextKid 1 = .ok (.iload_n 1, 1) := by decide +kernel
theorem dX12_nextKid_2 : decode cX12_nextKid 2 = .ok (.aload_n 0, 1) := by decide +kernel
theorem dX12_nextKid_3 : decode cX12_nextKid 3 = .ok (.getfield 53, 3) := by decide +kernel
theorem dX12_nextKid_6 : decode cX12_nextKid 6 = .ok (.iload_n 1, 1) := by decide +kernel
theorem dX12_nextKid_7 : decode cX12_nextKid 7 = .ok (.aaload, 1) := by decide +kernel
theorem dX12_nextKid_8 : decode cX12_nextKid 8 = .ok (.iload_n 2, 1) := by decide +kernel
theorem dX12_nextKid_9 : decode cX12_nextKid 9 = .ok (.iaload, 1) := by decide +kernel
theorem dX12_nextKid_10 : decode cX12_nextKid 10 = .ok (.aload_n 0, 1) := by decide +kernel
theorem dX12_nextKid_11 : decode cX12_nextKid 11 = .ok (.getfield 56, 3) := by decide +kernel
theorem dX12_nextKid_14 : decode cX12_nextKid 14 = .ok (.iload_n 1, 1) := by decide +kernel
theorem dX12_nextKid_15 : decode cX12_nextKid 15 = .ok (.aaload, 1) := by decide +kernel
theorem dX12_nextKid_16 : decode cX12_nextKid 16 = .ok (.iload_n 2, 1) := by decide +kernel
theorem dX12_nextKid_17 : decode cX12_nextKid 17 = .ok (.iaload, 1) := by decide +kernel
theorem dX12_nextKid_18 : decode cX12_nextKid 18 = .ok (.invokevirtual 288, 3) := by decide +kernel
theorem dX12_nextKid_21 : decode cX12_nextKid 21 = .ok (.ireturn, 1) := by decide +kernel
theorem dX12_next__0 : decode cX12_next_ 0 = .ok (.aload_n 0, 1) := by decide +kernel
theorem dX12_next__1 : decode cX12_next_ 1 = .ok (.iload_n 1, 1) := by decide +kernel
theorem dX12_next__2 : decode cX12_next_ 2 = .ok (.invokevirtual 396, 3) := by decide +kernel
theorem dX12_next__5 : decode cX12_next_ 5 = .ok (.ifCond .eq 10, 3) := by decide +kernel
theorem dX12_next__8 : decode cX12_next_ 8 = .ok (.aload_n 0, 1) := by decide +kernel
theorem dX12_next__9 : decode cX12_next_ 9 = .ok (.invokevirtual 348, 3) := by decide +kernel
theorem dX12_next__12 : decode cX12_next_ 12 = .ok (.ifCond .ne 5, 3) := by decide +kernel
theorem dX12_next__15 : decode cX12_next_ 15 = .ok (.iconst (-1), 1) := by decide +kernel
theorem dX12_next__16 : decode cX12_next_ 16 = .ok (.ireturn, 1) := by decide +kernel
theorem dX12_next__17 : decode cX12_next_ 17 = .ok (.aload_n 0, 1) := by decide +kernel
theorem dX12_next__18 : decode cX12_next_ 18 = .ok (.iload_n 1, 1) := by decide +kernel
theorem dX12_next__19 : decode cX12_next_ 19 = .ok (.invokevirtual 399, 3) := by decide +kernel
theorem dX12_next__22 : decode cX12_next_ 22 = .ok (.iconst 0, 1) := by decide +kernel
theorem dX12_next__23 : decode cX12_next_ 23 = .ok (.istore_n 2, 1) := by decide +kernel
theorem dX12_next__24 : decode cX12_next_ 24 = .ok (.iconst 0, 1) := by decide +kernel
theorem dX12_next__25 : decode cX12_next_ 25 = .ok (.istore_n 3, 1) := by decide +kernel
theorem dX12_next__26 : decode cX12_next_ 26 = .ok (.iload_n 3, 1) := by decide +kernel
theorem dX12_next__27 : decode cX12_next_ 27 = .ok (.aload_n 0, 1) := by decide +kernel
theorem dX12_next__28 : decode cX12_next_ 28 = .ok (.getfield 258, 3) := by decide +kernel
theorem dX12_next__31 : decode cX12_next_ 31 = .ok (.if_icmp .ge 58, 3) := by decide +kernel
theorem dX12_next__34 : decode cX12_next_ 34 = .ok (.aload_n 0, 1) := by decide +kernel
theorem dX12_next__35 : decode cX12_next_ 35 = .ok (.getfield 121, 3) := by decide +kernel
theorem dX12_next__38 : decode cX12_next_ 38 = .ok (.iload_n 3, 1) := by decide +kernel
theorem dX12_next__39 : decode cX12_next_ 39 = .ok (.aload_n 0, 1) := by decide +kernel
theorem dX12_next__40 : decode cX12_next_ 40 = .ok (.getfield 130, 3) := by decide +kernel
theorem dX12_next__43 : decode cX12_next_ 43 = .ok (.iload_n 3, 1) := by decide +kernel
theorem dX12_next__44 : decode cX12_next_ 44 = .ok (.iaload, 1) := by decide +kernel
theorem dX12_next__45 : decode cX12_next_ 45 = .ok (.iconst (-1), 1) := by decide +kernel
theorem dX12_next__46 : decode cX12_next_ 46 = .ok (.if_icmp .ne 7, 3) := by decide +kernel
theorem dX12_next__49 : decode cX12_next_ 49 = .ok (.iconst (-1), 1) := by decide +kernel
theorem dX12_next__50 : decode cX12_next_ 50 = .ok (.goto 14, 3) := by decide +kernel
theorem dX12_next__53 : decode cX12_next_ 53 = .ok (.aload_n 0, 1) := by decide +kernel
theorem dX12_next__54 : decode cX12_next_ 54 = .ok (.getfield 124, 3) := by decide +kernel
theorem dX12_next__57 : decode cX12_next_ 57 = .ok (.aload_n 0, 1) := by decide +kernel
theorem dX12_next__58 : decode cX12_next_ 58 = .ok (.getfield 130, 3) := by decide +kernel
theorem dX12_next__61 : decode cX12_next_ 61 = .ok (.iload_n 3, 1) := by decide +kernel
theorem dX12_next__62 : decode cX12_next_ 62 = .ok (.iaload, 1) := by decide +kernel
theorem dX12_next__63 : decode cX12_next_ 63 = .ok (.iaload, 1) := by decide +kernel
theorem dX12_next__64 : decode cX12_next_ 64 = .ok (.iastore, 1) := by decide +kernel
theorem dX12_next__65 : decode cX12_next_ 65 = .ok (.iload_n 2, 1) := by decide +kernel
theorem dX12_next__66 : decode cX12_next_ 66 = .ok (.aload_n 0, 1) := by decide +kernel
theorem dX12_next__67 : decode cX12_next_ 67 = .ok (.getfield 121, 3) := by decide +kernel
theorem dX12_next__70 : decode cX12_next_ 70 = .ok (.iload_n 3, 1) := by decide +kernel
theorem dX12_next__71 : decode cX12_next_ 71 = .ok (.iaload, 1) := by decide +kernel
theorem dX12_next__72 : decode cX12_next_ 72 = .ok (.iconst (-1), 1) := by decide +kernel
theorem dX12_next__73 : decode cX12_next_ 73 = .ok (.if_icmp .ne 7, 3) := by decide +kernel
theorem dX12_next__76 : decode cX12_next_ 76 = .ok (.iconst 1, 1) := by decide +kernel
theorem dX12_next__77 : decode cX12_next_ 77 = .ok (.goto 4, 3) := by decide +kernel
theorem dX12_next__80 : decode cX12_next_ 80 = .ok (.iconst 0, 1) := by decide +kernel
theorem dX12_next__81 : decode cX12_next_ 81 = .ok (.iadd, 1) := by decide +kernel
theorem dX12_next__82 : decode cX12_next_ 82 = .ok (.istore_n 2, 1) := by decide +kernel
theorem dX12_next__83 : decode cX12_next_ 83 = .ok (.iinc 3 1, 3) := by decide +kernel
theorem dX12_next__86 : decode cX12_next_ 86 = .ok (.goto (-60), 3) := by decide +kernel
theorem dX12_next__89 : decode cX12_next_ 89 = .ok (.aload_n 0, 1) := by decide +kernel
theorem dX12_next__90 : decode cX12_next_ 90 = .ok (.getfield 336, 3) := by decide +kernel
theorem dX12_next__93 : decode cX12_next_ 93 = .ok (.iload_n 2, 1) := by decide +kernel
theorem dX12_next__94 : decode cX12_next_ 94 = .ok (.iadd, 1) := by decide +kernel
theorem dX12_next__95 : decode cX12_next_ 95 = .ok (.sipush 150, 3) := by decide +kernel
theorem dX12_next__98 : decode cX12_next_ 98 = .ok (.if_icmp .le 7, 3) := by decide +kernel
theorem dX12_next__101 : decode cX12_next_ 101 = .ok (.iconst (-1), 1) := by decide +kernel
theorem dX12_next__102 : decode cX12_next_ 102 = .ok (.goto 8, 3) := by decide +kernel
theorem dX12_next__105 : decode cX12_next_ 105 = .ok (.aload_n 0, 1) := by decide +kernel
theorem dX12_next__106 : decode cX12_next_ 106 = .ok (.iload_n 1, 1) := by decide +kernel
theorem dX12_next__107 : decode cX12_next_ 107 = .ok (.invokevirtual 351, 3) := by decide +kernel
theorem dX12_next__110 : decode cX12_next_ 110 = .ok (.ireturn, 1) := by decide +kernel
theorem dX12_noPending_0 : decode cX12_noPending 0 = .ok (.iconst 0, 1) := by decide +kernel
theorem dX12_noPending_1 : decode cX12_noPending 1 = .ok (.istore_n 2, 1) := by decide +kernel
theorem dX12_noPending_2 : decode cX12_noPending 2 = .ok (.iload_n 2, 1) := by decide +kernel
theorem dX12_noPending_3 : decode cX12_noPending 3 = .ok (.aload_n 0, 1) := by decide +kernel
theorem dX12_noPending_4 : decode cX12_noPending 4 = .ok (.getfield 336, 3) := by decide +kernel
theorem dX12_noPending_7 : decode cX12_noPending 7 = .ok (.if_icmp .ge 35, 3) := by decide +kernel
theorem dX12_noPending_10 : decode cX12_noPending 10 = .ok (.aload_n 0, 1) := by decide +kernel
theorem dX12_noPending_11 : decode cX12_noPending 11 = .ok (.getfield 68, 3) := by decide +kernel
theorem dX12_noPending_14 : decode cX12_noPending 14 = .ok (.iload_n 2, 1) := by decide +kernel
theorem dX12_noPending_15 : decode cX12_noPending 15 = .ok (.baload, 1) := by decide +kernel
theorem dX12_noPending_16 : decode cX12_noPending 16 = .ok (.ifCond .ne 6, 3) := by decide +kernel
theorem dX12_noPending_19 : decode cX12_noPending 19 = .ok (.goto 17, 3) := by decide +kernel
theorem dX12_noPending_22 : decode cX12_noPending 22 = .ok (.aload_n 0, 1) := by decide +kernel
theorem dX12_noPending_23 : decode cX12_noPending 23 = .ok (.getfield 68, 3) := by decide +kernel
theorem dX12_noPending_26 : decode cX12_noPending 26 = .ok (.iload_n 2, 1) := by decide +kernel
theorem dX12_noPending_27 : decode cX12_noPending 27 = .ok (.iconst 0, 1) := by decide +kernel
theorem dX12_noPending_28 : decode cX12_noPending 28 = .ok (.bastore, 1) := by decide +kernel
theorem dX12_noPending_29 : decode cX12_noPending 29 = .ok (.aload_n 0, 1) := by decide +kernel
theorem dX12_noPending_30 : decode cX12_noPending 30 = .ok (.getfield 62, 3) := by decide +kernel
theorem dX12_noPending_33 : decode cX12_noPending 33 = .ok (.iload_n 2, 1) := by decide +kernel
theorem dX12_noPending_34 : decode cX12_noPending 34 = .ok (.iload_n 1, 1) := by decide +kernel
theorem dX12_noPending_35 : decode cX12_noPending 35 = .ok (.iastore, 1) := by decide +kernel
theorem dX12_noPending_36 : decode cX12_noPending 36 = .ok (.iinc 2 1, 3) := by decide +kernel
theorem dX12_noPending_39 : decode cX12_noPending 39 = .ok (.goto (-37), 3) := by decide +kernel
theorem dX12_noPending_42 : decode cX12_noPending 42 = .ok (.return_, 1) := by decide +kernel
theorem dX12_node_0 : decode cX12_node 0 = .ok (.aload_n 0, 1) := by decide +kernel
theorem dX12_node_1 : decode cX12_node 1 = .ok (.iload_n 1, 1) := by decide +kernel
theorem dX12_node_2 : decode cX12_node 2 = .ok (.invokevirtual 396, 3) := by decide +kernel
theorem dX12_node_5 : decode cX12_node 5 = .ok (.ifCond .ne 5, 3) := by decide +kernel
theorem dX12_node_8 : decode cX12_node 8 = .ok (.iconst (-1), 1) := by decide +kernel
theorem dX12_node_9 : decode cX12_node 9 = .ok (.ireturn, 1) := by decide +kernel
theorem dX12_node_10 : decode cX12_node 10 = .ok (.iload_n 2, 1) := by decide +kernel
theorem dX12_node_11 : decode cX12_node 11 = .ok (.iconst (-1), 1) := by decide +kernel
theorem dX12_node_12 : decode cX12_node 12 = .ok (.if_icmp .ne 9, 3) := by decide +kernel
theorem dX12_node_15 : decode cX12_node 15 = .ok (.aload_n 0, 1) := by decide +kernel
theorem dX12_node_16 : decode cX12_node 16 = .ok (.iload_n 1, 1) := by decide +kernel
theorem dX12_node_17 : decode cX12_node 17 = .ok (.invokevirtual 432, 3) := by decide +kernel
theorem dX12_node_20 : decode cX12_node 20 = .ok (.ireturn, 1) := by decide +kernel
theorem dX12_node_21 : decode cX12_node 21 = .ok (.aload_n 0, 1) := by decide +kernel
theorem dX12_node_22 : decode cX12_node 22 = .ok (.iload_n 1, 1) := by decide +kernel
theorem dX12_node_23 : decode cX12_node 23 = .ok (.invokevirtual 324, 3) := by decide +kernel
theorem dX12_node_26 : decode cX12_node 26 = .ok (.istore_n 3, 1) := by decide +kernel
theorem dX12_node_27 : decode cX12_node 27 = .ok (.iload_n 3, 1) := by decide +kernel
theorem dX12_node_28 : decode cX12_node 28 = .ok (.istore 4, 2) := by decide +kernel
theorem dX12_node_30 : decode cX12_node 30 = .ok (.iconst 0, 1) := by decide +kernel
theorem dX12_node_31 : decode cX12_node 31 = .ok (.istore 5, 2) := by decide +kernel
theorem dX12_node_33 : decode cX12_node 33 = .ok (.iload 5, 2) := by decide +kernel
theorem dX12_node_35 : decode cX12_node 35 = .ok (.iload_n 2, 1) := by decide +kernel
theorem dX12_node_36 : decode cX12_node 36 = .ok (.if_icmp .ge 25, 3) := by decide +kernel
theorem dX12_node_39 : decode cX12_node 39 = .ok (.iload 4, 2) := by decide +kernel
theorem dX12_node_41 : decode cX12_node 41 = .ok (.iconst (-1), 1) := by decide +kernel
theorem dX12_node_42 : decode cX12_node 42 = .ok (.if_icmp .eq 19, 3) := by decide +kernel
theorem dX12_node_45 : decode cX12_node 45 = .ok (.aload_n 0, 1) := by decide +kernel
theorem dX12_node_46 : decode cX12_node 46 = .ok (.iload_n 1, 1) := by decide +kernel
theorem dX12_node_47 : decode cX12_node 47 = .ok (.iload 4, 2) := by decide +kernel
theorem dX12_node_49 : decode cX12_node 49 = .ok (.iload_n 3, 1) := by decide +kernel
theorem dX12_node_50 : decode cX12_node 50 = .ok (.invokevirtual 278, 3) := by decide +kernel
theorem dX12_node_53 : decode cX12_node 53 = .ok (.istore 4, 2) := by decide +kernel
theorem dX12_node_55 : decode cX12_node 55 = .ok (.iinc 5 1, 3) := by decide +kernel
theorem dX12_node_58 : decode cX12_node 58 = .ok (.goto (-25), 3) := by decide +kernel
theorem dX12_node_61 : decode cX12_node 61 = .ok (.iload_n 2, 1) := by decide +kernel
theorem dX12_node_62 : decode cX12_node 62 = .ok (.ifCond .ge 7, 3) := by decide +kernel
theorem dX12_node_65 : decode cX12_node 65 = .ok (.iconst (-1), 1) := by decide +kernel
theorem dX12_node_66 : decode cX12_node 66 = .ok (.goto 5, 3) := by decide +kernel
theorem dX12_node_69 : decode cX12_node 69 = .ok (.iload 4, 2) := by decide +kernel
theorem dX12_node_71 : decode cX12_node 71 = .ok (.ireturn, 1) := by decide +kernel
theorem dX12_nthBase_0 : decode cX12_nthBase 0 = .ok (.iload_n 3, 1) := by decide +kernel
theorem dX12_nthBase_1 : decode cX12_nthBase 1 = .ok (.istore 4, 2) := by decide +kernel
theorem dX12_nthBase_3 : decode cX12_nthBase 3 = .ok (.iconst 0, 1) := by decide +kernel
theorem dX12_nthBase_4 : decode cX12_nthBase 4 = .ok (.istore 5, 2) := by decide +kernel
theorem dX12_nthBase_6 : decode cX12_nthBase 6 = .ok (.iload 5, 2) := by decide +kernel
theorem dX12_nthBase_8 : decode cX12_nthBase 8 = .ok (.aload_n 0, 1) := by decide +kernel
theorem dX12_nthBase_9 : decode cX12_nthBase 9 = .ok (.getfield 339, 3) := by decide +kernel
theorem dX12_nthBase_12 : decode cX12_nthBase 12 = .ok (.if_icmp .ge 34, 3) := by decide +kernel
theorem dX12_nthBase_15 : decode cX12_nthBase 15 = .ok (.aload_n 0, 1) := by decide +kernel
theorem dX12_nthBase_16 : decode cX12_nthBase 16 = .ok (.iload 5, 2) := by decide +kernel
theorem dX12_nthBase_18 : decode cX12_nthBase 18 = .ok (.iload_n 1, 1) := by decide +kernel
theorem dX12_nthBase_19 : decode cX12_nthBase 19 = .ok (.iload_n 2, 1) := by decide +kernel
theorem dX12_nthBase_20 : decode cX12_nthBase 20 = .ok (.invokevirtual 515, 3) := by decide +kernel
theorem dX12_nthBase_23 : decode cX12_nthBase 23 = .ok (.ifCond .ne 6, 3) := by decide +kernel
theorem dX12_nthBase_26 : decode cX12_nthBase 26 = .ok (.goto 14, 3) := by decide +kernel
theorem dX12_nthBase_29 : decode cX12_nthBase 29 = .ok (.iload 4, 2) := by decide +kernel
theorem dX12_nthBase_31 : decode cX12_nthBase 31 = .ok (.ifCond .ne 6, 3) := by decide +kernel
theorem dX12_nthBase_34 : decode cX12_nthBase 34 = .ok (.iload 5, 2) := by decide +kernel
theorem dX12_nthBase_36 : decode cX12_nthBase 36 = .ok (.ireturn, 1) := by decide +kernel
theorem dX12_nthBase_37 : decode cX12_nthBase 37 = .ok (.iinc 4 (-1), 3) := by decide +kernel
theorem dX12_nthBase_40 : decode cX12_nthBase 40 = .ok (.iinc 5 1, 3) := by decide +kernel
theorem dX12_nthBase_43 : decode cX12_nthBase 43 = .ok (.goto (-37), 3) := by decide +kernel
theorem dX12_nthBase_46 : decode cX12_nthBase 46 = .ok (.iconst (-1), 1) := by decide +kernel
theorem dX12_nthBase_47 : decode cX12_nthBase 47 = .ok (.ireturn, 1) := by decide +kernel
theorem dX12_of_0 : decode cX12_of 0 = .ok (.aload_n 0, 1) := by decide +kernel
theorem dX12_of_1 : decode cX12_of 1 = .ok (.iload_n 1, 1) := by decide +kernel
theorem dX12_of_2 : decode cX12_of 2 = .ok (.iload_n 2, 1) := by decide +kernel
theorem dX12_of_3 : decode cX12_of 3 = .ok (.invokevirtual 548, 3) := by decide +kernel
theorem dX12_of_6 : decode cX12_of 6 = .ok (.ifCond .ne 5, 3) := by decide +kernel
theorem dX12_of_9 : decode cX12_of 9 = .ok (.iconst (-1), 1) := by decide +kernel
theorem dX12_of_10 : decode cX12_of 10 = .ok (.ireturn, 1) := by decide +kernel
theorem dX12_of_11 : decode cX12_of 11 = .ok (.iload_n 3, 1) := by decide +kernel
theorem dX12_of_12 : decode cX12_of 12 = .ok (.tableswitch 105 0 6 #[44, 51, 60, 67, 74, 81, 98], 44) := by decide +kernel
theorem dX12_of_56 : decode cX12_of 56 = .ok (.aload_n 0, 1) := by decide +kernel
theorem dX12_of_57 : decode cX12_of 57 = .ok (.getfield 59, 3) := by decide +kernel
theorem dX12_of_60 : decode cX12_of 60 = .ok (.iload_n 2, 1) := by decide +kernel
theorem dX12_of_61 : decode cX12_of 61 = .ok (.iaload, 1) := by decide +kernel
theorem dX12_of_62 : decode cX12_of 62 = .ok (.ireturn, 1) := by decide +kernel
theorem dX12_of_63 : decode cX12_of 63 = .ok (.aload_n 0, 1) := by decide +kernel
theorem dX12_of_64 : decode cX12_of 64 = .ok (.getfield 53, 3) := by decide +kernel
theorem dX12_of_67 : decode cX12_of 67 = .ok (.iload_n 1, 1) := by decide +kernel
theorem dX12_of_68 : decode cX12_of 68 = .ok (.aaload, 1) := by decide +kernel
theorem dX12_of_69 : decode cX12_of 69 = .ok (.iload_n 2, 1) := by decide +kernel
theorem dX12_of_70 : decode cX12_of 70 = .ok (.iaload, 1) := by decide +kernel
theorem dX12_of_71 : decode cX12_of 71 = .ok (.ireturn, 1) := by decide +kernel
theorem dX12_of_72 : decode cX12_of 72 = .ok (.aload_n 0, 1) := by decide +kernel
theorem dX12_of_73 : decode cX12_of 73 = .ok (.iload_n 1, 1) := by decide +kernel
theorem dX12_of_74 : decode cX12_of 74 = .ok (.iload_n 2, 1) := by decide +kernel
theorem dX12_of_75 : decode cX12_of 75 = .ok (.invokevirtual 551, 3) := by decide +kernel
theorem dX12_of_78 : decode cX12_of 78 = .ok (.ireturn, 1) := by decide +kernel
theorem dX12_of_79 : decode cX12_of 79 = .ok (.aload_n 0, 1) := by decide +kernel
theorem dX12_of_80 : decode cX12_of 80 = .ok (.iload_n 1, 1) := by decide +kernel
theorem dX12_of_81 : decode cX12_of 81 = .ok (.iload_n 2, 1) := by decide +kernel
theorem dX12_of_82 : decode cX12_of 82 = .ok (.invokevirtual 315, 3) := by decide +kernel
theorem dX12_of_85 : decode cX12_of 85 = .ok (.ireturn, 1) := by decide +kernel
theorem dX12_of_86 : decode cX12_of 86 = .ok (.aload_n 0, 1) := by decide +kernel
theorem dX12_of_87 : decode cX12_of 87 = .ok (.iload_n 1, 1) := by decide +kernel
theorem dX12_of_88 : decode cX12_of 88 = .ok (.iload_n 2, 1) := by decide +kernel
theorem dX12_of_89 : decode cX12_of 89 = .ok (.invokevirtual 539, 3) := by decide +kernel
theorem dX12_of_92 : decode cX12_of 92 = .ok (.ireturn, 1) := by decide +kernel
theorem dX12_of_93 : decode cX12_of 93 = .ok (.iload_n 1, 1) := by decide +kernel
theorem dX12_of_94 : decode cX12_of 94 = .ok (.bipush 12, 2) := by decide +kernel
theorem dX12_of_96 : decode cX12_of 96 = .ok (.if_icmp .ne 7, 3) := by decide +kernel
theorem dX12_of_99 : decode cX12_of 99 = .ok (.iconst (-1), 1) := by decide +kernel
theorem dX12_of_100 : decode cX12_of 100 = .ok (.goto 9, 3) := by decide +kernel
theorem dX12_of_103 : decode cX12_of 103 = .ok (.aload_n 0, 1) := by decide +kernel
theorem dX12_of_104 : decode cX12_of 104 = .ok (.iload_n 1, 1) := by decide +kernel
theorem dX12_of_105 : decode cX12_of 105 = .ok (.iload_n 2, 1) := by decide +kernel
theorem dX12_of_106 : decode cX12_of 106 = .ok (.invokevirtual 542, 3) := by decide +kernel
theorem dX12_of_109 : decode cX12_of 109 = .ok (.ireturn, 1) := by decide +kernel
theorem dX12_of_110 : decode cX12_of 110 = .ok (.aload_n 0, 1) := by decide +kernel
theorem dX12_of_111 : decode cX12_of 111 = .ok (.iload_n 1, 1) := by decide +kernel
theorem dX12_of_112 : decode cX12_of 112 = .ok (.iload_n 2, 1) := by decide +kernel
theorem dX12_of_113 : decode cX12_of 113 = .ok (.invokevirtual 554, 3) := by decide +kernel
theorem dX12_of_116 : decode cX12_of 116 = .ok (.ireturn, 1) := by decide +kernel
theorem dX12_of_117 : decode cX12_of 117 = .ok (.iconst (-1), 1) := by decide +kernel
theorem dX12_of_118 : decode cX12_of 118 = .ok (.ireturn, 1) := by decide +kernel
theorem dX12_orders_0 : decode cX12_orders 0 = .ok (.iconst 0, 1) := by decide +kernel
theorem dX12_orders_1 : decode cX12_orders 1 = .ok (.istore_n 2, 1) := by decide +kernel
theorem dX12_orders_2 : decode cX12_orders 2 = .ok (.iload_n 2, 1) := by decide +kernel
theorem dX12_orders_3 : decode cX12_orders 3 = .ok (.sipush 150, 3) := by decide +kernel
theorem dX12_orders_6 : decode cX12_orders 6 = .ok (.if_icmp .ge 142, 3) := by decide +kernel
theorem dX12_orders_9 : decode cX12_orders 9 = .ok (.aload_n 0, 1) := by decide +kernel
theorem dX12_orders_10 : decode cX12_orders 10 = .ok (.getfield 45, 3) := by decide +kernel
theorem dX12_orders_13 : decode cX12_orders 13 = .ok (.iload_n 1, 1) := by decide +kernel
theorem dX12_orders_14 : decode cX12_orders 14 = .ok (.aaload, 1) := by decide +kernel
theorem dX12_orders_15 : decode cX12_orders 15 = .ok (.iload_n 2, 1) := by decide +kernel
theorem dX12_orders_16 : decode cX12_orders 16 = .ok (.baload, 1) := by decide +kernel
theorem dX12_orders_17 : decode cX12_orders 17 = .ok (.ifCond .eq 125, 3) := by decide +kernel
theorem dX12_orders_20 : decode cX12_orders 20 = .ok (.aload_n 0, 1) := by decide +kernel
theorem dX12_orders_21 : decode cX12_orders 21 = .ok (.getfield 53, 3) := by decide +kernel
theorem dX12_orders_24 : decode cX12_orders 24 = .ok (.iload_n 1, 1) := by decide +kernel
theorem dX12_orders_25 : decode cX12_orders 25 = .ok (.aaload, 1) := by decide +kernel
theorem dX12_orders_26 : decode cX12_orders 26 = .ok (.iload_n 2, 1) := by decide +kernel
theorem dX12_orders_27 : decode cX12_orders 27 = .ok (.iaload, 1) := by decide +kernel
theorem dX12_orders_28 : decode cX12_orders 28 = .ok (.iconst (-1), 1) := by decide +kernel
theorem dX12_orders_29 : decode cX12_orders 29 = .ok (.if_icmp .eq 113, 3) := by decide +kernel
theorem dX12_orders_32 : decode cX12_orders 32 = .ok (.aload_n 0, 1) := by decide +kernel
theorem dX12_orders_33 : decode cX12_orders 33 = .ok (.getfield 87, 3) := by decide +kernel
theorem dX12_orders_36 : decode cX12_orders 36 = .ok (.aload_n 0, 1) := by decide +kernel
theorem dX12_orders_37 : decode cX12_orders 37 = .ok (.iload_n 1, 1) := by decide +kernel
theorem dX12_orders_38 : decode cX12_orders 38 = .ok (.aload_n 0, 1) := by decide +kernel
theorem dX12_orders_39 : decode cX12_orders 39 = .ok (.getfield 53, 3) := by decide +kernel
theorem dX12_orders_42 : decode cX12_orders 42 = .ok (.iload_n 1, 1) := by decide +kernel
theorem dX12_orders_43 : decode cX12_orders 43 = .ok (.aaload, 1) := by decide +kernel
theorem dX12_orders_44 : decode cX12_orders 44 = .ok (.iload_n 2, 1) := by decide +kernel
theorem dX12_orders_45 : decode cX12_orders 45 = .ok (.iaload, 1) := by decide +kernel
theorem dX12_orders_46 : decode cX12_orders 46 = .ok (.invokevirtual 301, 3) := by decide +kernel
theorem dX12_orders_49 : decode cX12_orders 49 = .ok (.iaload, 1) := by decide +kernel
theorem dX12_orders_50 : decode cX12_orders 50 = .ok (.iconst 1, 1) := by decide +kernel
theorem dX12_orders_51 : decode cX12_orders 51 = .ok (.if_icmp .eq 6, 3) := by decide +kernel
theorem dX12_orders_54 : decode cX12_orders 54 = .ok (.goto 88, 3) := by decide +kernel
theorem dX12_orders_57 : decode cX12_orders 57 = .ok (.iconst 0, 1) := by decide +kernel
theorem dX12_orders_58 : decode cX12_orders 58 = .ok (.istore_n 3, 1) := by decide +kernel
theorem dX12_orders_59 : decode cX12_orders 59 = .ok (.iconst 0, 1) := by decide +kernel
theorem dX12_orders_60 : decode cX12_orders 60 = .ok (.istore 4, 2) := by decide +kernel
theorem dX12_orders_62 : decode cX12_orders 62 = .ok (.iload 4, 2) := by decide +kernel
theorem dX12_orders_64 : decode cX12_orders 64 = .ok (.sipush 150, 3) := by decide +kernel
theorem dX12_orders_67 : decode cX12_orders 67 = .ok (.if_icmp .ge 66, 3) := by decide +kernel
theorem dX12_orders_70 : decode cX12_orders 70 = .ok (.iload_n 3, 1) := by decide +kernel
theorem dX12_orders_71 : decode cX12_orders 71 = .ok (.aload_n 0, 1) := by decide +kernel
theorem dX12_orders_72 : decode cX12_orders 72 = .ok (.getfield 45, 3) := by decide +kernel
theorem dX12_orders_75 : decode cX12_orders 75 = .ok (.iload_n 1, 1) := by decide +kernel
theorem dX12_orders_76 : decode cX12_orders 76 = .ok (.aaload, 1) := by decide +kernel
theorem dX12_orders_77 : decode cX12_orders 77 = .ok (.iload 4, 2) := by decide +kernel
theorem dX12_orders_79 : decode cX12_orders 79 = .ok (.baload, 1) := by decide +kernel
theorem dX12_orders_80 : decode cX12_orders 80 = .ok (.ifCond .eq 44, 3) := by decide +kernel
theorem dX12_orders_83 : decode cX12_orders 83 = .ok (.iload 4, 2) := by decide +kernel
theorem dX12_orders_85 : decode cX12_orders 85 = .ok (.iload_n 2, 1) := by decide +kernel
theorem dX12_orders_86 : decode cX12_orders 86 = .ok (.if_icmp .eq 38, 3) := by decide +kernel
theorem dX12_orders_89 : decode cX12_orders 89 = .ok (.aload_n 0, 1) := by decide +kernel
theorem dX12_orders_90 : decode cX12_orders 90 = .ok (.getfield 53, 3) := by decide +kernel
theorem dX12_orders_93 : decode cX12_orders 93 = .ok (.iload_n 1, 1) := by decide +kernel
theorem dX12_orders_94 : decode cX12_orders 94 = .ok (.aaload, 1) := by decide +kernel
theorem dX12_orders_95 : decode cX12_orders 95 = .ok (.iload 4, 2) := by decide +kernel
theorem dX12_orders_97 : decode cX12_orders 97 = .ok (.iaload, 1) := by decide +kernel
theorem dX12_orders_98 : decode cX12_orders 98 = .ok (.aload_n 0, 1) := by decide +kernel
theorem dX12_orders_99 : decode cX12_orders 99 = .ok (.getfield 53, 3) := by decide +kernel
theorem dX12_orders_102 : decode cX12_orders 102 = .ok (.iload_n 1, 1) := by decide +kernel
theorem dX12_orders_103 : decode cX12_orders 103 = .ok (.aaload, 1) := by decide +kernel
theorem dX12_orders_104 : decode cX12_orders 104 = .ok (.iload_n 2, 1) := by decide +kernel
theorem dX12_orders_105 : decode cX12_orders 105 = .ok (.iaload, 1) := by decide +kernel
theorem dX12_orders_106 : decode cX12_orders 106 = .ok (.if_icmp .ne 18, 3) := by decide +kernel
theorem dX12_orders_109 : decode cX12_orders 109 = .ok (.aload_n 0, 1) := by decide +kernel
theorem dX12_orders_110 : decode cX12_orders 110 = .ok (.iload_n 1, 1) := by decide +kernel
theorem dX12_orders_111 : decode cX12_orders 111 = .ok (.iload 4, 2) := by decide +kernel
theorem dX12_orders_113 : decode cX12_orders 113 = .ok (.iload_n 2, 1) := by decide +kernel
theorem dX12_orders_114 : decode cX12_orders 114 = .ok (.invokevirtual 308, 3) := by decide +kernel
theorem dX12_orders_117 : decode cX12_orders 117 = .ok (.ifCond .eq 7, 3) := by decide +kernel
theorem dX12_orders_120 : decode cX12_orders 120 = .ok (.iconst 1, 1) := by decide +kernel
theorem dX12_orders_121 : decode cX12_orders 121 = .ok (.goto 4, 3) := by decide +kernel
theorem dX12_orders_124 : decode cX12_orders 124 = .ok (.iconst 0, 1) := by decide +kernel
theorem dX12_orders_125 : decode cX12_orders 125 = .ok (.iadd, 1) := by decide +kernel
theorem dX12_orders_126 : decode cX12_orders 126 = .ok (.istore_n 3, 1) := by decide +kernel
theorem dX12_orders_127 : decode cX12_orders 127 = .ok (.iinc 4 1, 3) := by decide +kernel
theorem dX12_orders_130 : decode cX12_orders 130 = .ok (.goto (-68), 3) := by decide +kernel
theorem dX12_orders_133 : decode cX12_orders 133 = .ok (.aload_n 0, 1) := by decide +kernel
theorem dX12_orders_134 : decode cX12_orders 134 = .ok (.getfield 56, 3) := by decide +kernel
theorem dX12_orders_137 : decode cX12_orders 137 = .ok (.iload_n 1, 1) := by decide +kernel
theorem dX12_orders_138 : decode cX12_orders 138 = .ok (.aaload, 1) := by decide +kernel
theorem dX12_orders_139 : decode cX12_orders 139 = .ok (.iload_n 2, 1) := by decide +kernel
theorem dX12_orders_140 : decode cX12_orders 140 = .ok (.iload_n 3, 1) := by decide +kernel
theorem dX12_orders_141 : decode cX12_orders 141 = .ok (.iastore, 1) := by decide +kernel
theorem dX12_orders_142 : decode cX12_orders 142 = .ok (.iinc 2 1, 3) := by decide +kernel
theorem dX12_orders_145 : decode cX12_orders 145 = .ok (.goto (-143), 3) := by decide +kernel
theorem dX12_orders_148 : decode cX12_orders 148 = .ok (.return_, 1) := by decide +kernel
theorem dX12_ordersKids_0 : decode cX12_ordersKids 0 = .ok (.aload_n 0, 1) := by decide +kernel
theorem dX12_ordersKids_1 : decode cX12_ordersKids 1 = .ok (.bipush 13, 2) := by decide +kernel
theorem dX12_ordersKids_3 : decode cX12_ordersKids 3 = .ok (.iload 4, 2) := by decide +kernel
theorem dX12_ordersKids_5 : decode cX12_ordersKids 5 = .ok (.invokevirtual 315, 3) := by decide +kernel
theorem dX12_ordersKids_8 : decode cX12_ordersKids 8 = .ok (.istore 5, 2) := by decide +kernel
theorem dX12_ordersKids_10 : decode cX12_ordersKids 10 = .ok (.iconst 0, 1) := by decide +kernel
theorem dX12_ordersKids_11 : decode cX12_ordersKids 11 = .ok (.istore 6, 2) := by decide +kernel
theorem dX12_ordersKids_13 : decode cX12_ordersKids 13 = .ok (.iload 6, 2) := by decide +kernel
theorem dX12_ordersKids_15 : decode cX12_ordersKids 15 = .ok (.sipush 150, 3) := by decide +kernel
theorem dX12_ordersKids_18 : decode cX12_ordersKids 18 = .ok (.if_icmp .ge 119, 3) := by decide +kernel
theorem dX12_ordersKids_21 : decode cX12_ordersKids 21 = .ok (.aload_n 0, 1) := by decide +kernel
theorem dX12_ordersKids_22 : decode cX12_ordersKids 22 = .ok (.getfield 151, 3) := by decide +kernel
theorem dX12_ordersKids_25 : decode cX12_ordersKids 25 = .ok (.iload 6, 2) := by decide +kernel
theorem dX12_ordersKids_27 : decode cX12_ordersKids 27 = .ok (.iconst 0, 1) := by decide +kernel
theorem dX12_ordersKids_28 : decode cX12_ordersKids 28 = .ok (.bastore, 1) := by decide +kernel
theorem dX12_ordersKids_29 : decode cX12_ordersKids 29 = .ok (.aload_n 0, 1) := by decide +kernel
theorem dX12_ordersKids_30 : decode cX12_ordersKids 30 = .ok (.getfield 45, 3) := by decide +kernel
theorem dX12_ordersKids_33 : decode cX12_ordersKids 33 = .ok (.bipush 13, 2) := by decide +kernel
theorem dX12_ordersKids_35 : decode cX12_ordersKids 35 = .ok (.aaload, 1) := by decide +kernel
theorem dX12_ordersKids_36 : decode cX12_ordersKids 36 = .ok (.iload 6, 2) := by decide +kernel
theorem dX12_ordersKids_38 : decode cX12_ordersKids 38 = .ok (.baload, 1) := by decide +kernel
theorem dX12_ordersKids_39 : decode cX12_ordersKids 39 = .ok (.ifCond .eq 92, 3) := by decide +kernel
theorem dX12_ordersKids_42 : decode cX12_ordersKids 42 = .ok (.aload_n 0, 1) := by decide +kernel
theorem dX12_ordersKids_43 : decode cX12_ordersKids 43 = .ok (.getfield 53, 3) := by decide +kernel
theorem dX12_ordersKids_46 : decode cX12_ordersKids 46 = .ok (.bipush 13, 2) := by decide +kernel
theorem dX12_ordersKids_48 : decode cX12_ordersKids 48 = .ok (.aaload, 1) := by decide +kernel
theorem dX12_ordersKids_49 : decode cX12_ordersKids 49 = .ok (.iload 6, 2) := by decide +kernel
theorem dX12_ordersKids_51 : decode cX12_ordersKids 51 = .ok (.iaload, 1) := by decide +kernel
theorem dX12_ordersKids_52 : decode cX12_ordersKids 52 = .ok (.iload 4, 2) := by decide +kernel
theorem dX12_ordersKids_54 : decode cX12_ordersKids 54 = .ok (.if_icmp .eq 6, 3) := by decide +kernel
theorem dX12_ordersKids_57 : decode cX12_ordersKids 57 = .ok (.goto 74, 3) := by decide +kernel
theorem dX12_ordersKids_60 : decode cX12_ordersKids 60 = .ok (.iconst 0, 1) := by decide +kernel
theorem dX12_ordersKids_61 : decode cX12_ordersKids 61 = .ok (.istore 7, 2) := by decide +kernel
theorem dX12_ordersKids_63 : decode cX12_ordersKids 63 = .ok (.iload 7, 2) := by decide +kernel
theorem dX12_ordersKids_65 : decode cX12_ordersKids 65 = .ok (.sipush 150, 3) := by decide +kernel
theorem dX12_ordersKids_68 : decode cX12_ordersKids 68 = .ok (.if_icmp .ge 63, 3) := by decide +kernel
theorem dX12_ordersKids_71 : decode cX12_ordersKids 71 = .ok (.iload 7, 2) := by decide +kernel
theorem dX12_ordersKids_73 : decode cX12_ordersKids 73 = .ok (.iload 6, 2) := by decide +kernel
theorem dX12_ordersKids_75 : decode cX12_ordersKids 75 = .ok (.if_icmp .eq 50, 3) := by decide +kernel
theorem dX12_ordersKids_78 : decode cX12_ordersKids 78 = .ok (.aload_n 0, 1) := by decide +kernel
theorem dX12_ordersKids_79 : decode cX12_ordersKids 79 = .ok (.getfield 45, 3) := by decide +kernel
theorem dX12_ordersKids_82 : decode cX12_ordersKids 82 = .ok (.bipush 13, 2) := by decide +kernel
theorem dX12_ordersKids_84 : decode cX12_ordersKids 84 = .ok (.aaload, 1) := by decide +kernel
theorem dX12_ordersKids_85 : decode cX12_ordersKids 85 = .ok (.iload 7, 2) := by decide +kernel
theorem dX12_ordersKids_87 : decode cX12_ordersKids 87 = .ok (.baload, 1) := by decide +kernel
theorem dX12_ordersKids_88 : decode cX12_ordersKids 88 = .ok (.ifCond .eq 37, 3) := by decide +kernel
theorem dX12_ordersKids_91 : decode cX12_ordersKids 91 = .ok (.aload_n 0, 1) := by decide +kernel
theorem dX12_ordersKids_92 : decode cX12_ordersKids 92 = .ok (.getfield 53, 3) := by decide +kernel
theorem dX12_ordersKids_95 : decode cX12_ordersKids 95 = .ok (.bipush 13, 2) := by decide +kernel
theorem dX12_ordersKids_97 : decode cX12_ordersKids 97 = .ok (.aaload, 1) := by decide +kernel
theorem dX12_ordersKids_98 : decode cX12_ordersKids 98 = .ok (.iload 7, 2) := by decide +kernel
theorem dX12_ordersKids_100 : decode cX12_ordersKids 100 = .ok (.iaload, 1) := by decide +kernel
theorem dX12_ordersKids_101 : decode cX12_ordersKids 101 = .ok (.iload 4, 2) := by decide +kernel
theorem dX12_ordersKids_103 : decode cX12_ordersKids 103 = .ok (.if_icmp .ne 22, 3) := by decide +kernel
theorem dX12_ordersKids_106 : decode cX12_ordersKids 106 = .ok (.aload_n 0, 1) := by decide +kernel
theorem dX12_ordersKids_107 : decode cX12_ordersKids 107 = .ok (.iload_n 1, 1) := by decide +kernel
theorem dX12_ordersKids_108 : decode cX12_ordersKids 108 = .ok (.iload_n 2, 1) := by decide +kernel
theorem dX12_ordersKids_109 : decode cX12_ordersKids 109 = .ok (.iload_n 3, 1) := by decide +kernel
theorem dX12_ordersKids_110 : decode cX12_ordersKids 110 = .ok (.iload 4, 2) := by decide +kernel
theorem dX12_ordersKids_112 : decode cX12_ordersKids 112 = .ok (.iload 6, 2) := by decide +kernel
theorem dX12_ordersKids_114 : decode cX12_ordersKids 114 = .ok (.iload 7, 2) := by decide +kernel
theorem dX12_ordersKids_116 : decode cX12_ordersKids 116 = .ok (.invokevirtual 489, 3) := by decide +kernel
theorem dX12_ordersKids_119 : decode cX12_ordersKids 119 = .ok (.iconst 2, 1) := by decide +kernel
theorem dX12_ordersKids_120 : decode cX12_ordersKids 120 = .ok (.if_icmp .ne 5, 3) := by decide +kernel
theorem dX12_ordersKids_123 : decode cX12_ordersKids 123 = .ok (.iconst 0, 1) := by decide +kernel
theorem dX12_ordersKids_124 : decode cX12_ordersKids 124 = .ok (.ireturn, 1) := by decide +kernel
theorem dX12_ordersKids_125 : decode cX12_ordersKids 125 = .ok (.iinc 7 1, 3) := by decide +kernel
theorem dX12_ordersKids_128 : decode cX12_ordersKids 128 = .ok (.goto (-65), 3) := by decide +kernel
theorem dX12_ordersKids_131 : decode cX12_ordersKids 131 = .ok (.iinc 6 1, 3) := by decide +kernel
theorem dX12_ordersKids_134 : decode cX12_ordersKids 134 = .ok (.goto (-121), 3) := by decide +kernel
theorem dX12_ordersKids_137 : decode cX12_ordersKids 137 = .ok (.iconst 0, 1) := by decide +kernel
theorem dX12_ordersKids_138 : decode cX12_ordersKids 138 = .ok (.istore 6, 2) := by decide +kernel
theorem dX12_ordersKids_140 : decode cX12_ordersKids 140 = .ok (.iload 6, 2) := by decide +kernel
theorem dX12_ordersKids_142 : decode cX12_ordersKids 142 = .ok (.iload 5, 2) := by decide +kernel
theorem dX12_ordersKids_144 : decode cX12_ordersKids 144 = .ok (.if_icmp .ge 135, 3) := by decide +kernel
theorem dX12_ordersKids_147 : decode cX12_ordersKids 147 = .ok (.iconst (-1), 1) := by decide +kernel
theorem dX12_ordersKids_148 : decode cX12_ordersKids 148 = .ok (.istore 7, 2) := by decide +kernel
theorem dX12_ordersKids_150 : decode cX12_ordersKids 150 = .ok (.iconst 0, 1) := by decide +kernel
theorem dX12_ordersKids_151 : decode cX12_ordersKids 151 = .ok (.istore 8, 2) := by decide +kernel
theorem dX12_ordersKids_153 : decode cX12_ordersKids 153 = .ok (.iload 8, 2) := by decide +kernel
theorem dX12_ordersKids_155 : decode cX12_ordersKids 155 = .ok (.sipush 150, 3) := by decide +kernel
theorem dX12_ordersKids_158 : decode cX12_ordersKids 158 = .ok (.if_icmp .ge 87, 3) := by decide +kernel

theorem dX12_ordersKids_161 : decode cX12_ordersKids 161 = .ok (.aload_n 0, 1) := by decide +kernel
theorem dX12_ordersKids_162 : decode cX12_ordersKids 162 = .ok (.getfield 45, 3) := by decide +kernel
theorem dX12_ordersKids_165 : decode cX12_ordersKids 165 = .ok (.bipush 13, 2) := by decide +kernel
theorem dX12_ordersKids_167 : decode cX12_ordersKids 167 = .ok (.aaload, 1) := by decide +kernel
theorem dX12_ordersKids_168 : decode cX12_ordersKids 168 = .ok (.iload 8, 2) := by decide +kernel
theorem dX12_ordersKids_170 : decode cX12_ordersKids 170 = .ok (.baload, 1) := by decide +kernel
theorem dX12_ordersKids_171 : decode cX12_ordersKids 171 = .ok (.ifCond .eq 68, 3) := by decide +kernel
theorem dX12_ordersKids_174 : decode cX12_ordersKids 174 = .ok (.aload_n 0, 1) := by decide +kernel
theorem dX12_ordersKids_175 : decode cX12_ordersKids 175 = .ok (.getfield 53, 3) := by decide +kernel
theorem dX12_ordersKids_178 : decode cX12_ordersKids 178 = .ok (.bipush 13, 2) := by decide +kernel
theorem dX12_ordersKids_180 : decode cX12_ordersKids 180 = .ok (.aaload, 1) := by decide +kernel
theorem dX12_ordersKids_181 : decode cX12_ordersKids 181 = .ok (.iload 8, 2) := by decide +kernel
theorem dX12_ordersKids_183 : decode cX12_ordersKids 183 = .ok (.iaload, 1) := by decide +kernel
theorem dX12_ordersKids_184 : decode cX12_ordersKids 184 = .ok (.iload 4, 2) := by decide +kernel
theorem dX12_ordersKids_186 : decode cX12_ordersKids 186 = .ok (.if_icmp .ne 53, 3) := by decide +kernel
theorem dX12_ordersKids_189 : decode cX12_ordersKids 189 = .ok (.aload_n 0, 1) := by decide +kernel
theorem dX12_ordersKids_190 : decode cX12_ordersKids 190 = .ok (.getfield 151, 3) := by decide +kernel
theorem dX12_ordersKids_193 : decode cX12_ordersKids 193 = .ok (.iload 8, 2) := by decide +kernel
theorem dX12_ordersKids_195 : decode cX12_ordersKids 195 = .ok (.baload, 1) := by decide +kernel
theorem dX12_ordersKids_196 : decode cX12_ordersKids 196 = .ok (.ifCond .ne 43, 3) := by decide +kernel
theorem dX12_ordersKids_199 : decode cX12_ordersKids 199 = .ok (.aload_n 0, 1) := by decide +kernel
theorem dX12_ordersKids_200 : decode cX12_ordersKids 200 = .ok (.iload_n 1, 1) := by decide +kernel
theorem dX12_ordersKids_201 : decode cX12_ordersKids 201 = .ok (.iload_n 2, 1) := by decide +kernel
theorem dX12_ordersKids_202 : decode cX12_ordersKids 202 = .ok (.iload_n 3, 1) := by decide +kernel
theorem dX12_ordersKids_203 : decode cX12_ordersKids 203 = .ok (.iload 4, 2) := by decide +kernel
theorem dX12_ordersKids_205 : decode cX12_ordersKids 205 = .ok (.iload 8, 2) := by decide +kernel
theorem dX12_ordersKids_207 : decode cX12_ordersKids 207 = .ok (.invokevirtual 493, 3) := by decide +kernel
theorem dX12_ordersKids_210 : decode cX12_ordersKids 210 = .ok (.ifCond .ne 6, 3) := by decide +kernel
theorem dX12_ordersKids_213 : decode cX12_ordersKids 213 = .ok (.goto 26, 3) := by decide +kernel
theorem dX12_ordersKids_216 : decode cX12_ordersKids 216 = .ok (.iload 7, 2) := by decide +kernel
theorem dX12_ordersKids_218 : decode cX12_ordersKids 218 = .ok (.iconst (-1), 1) := by decide +kernel
theorem dX12_ordersKids_219 : decode cX12_ordersKids 219 = .ok (.if_icmp .eq 16, 3) := by decide +kernel
theorem dX12_ordersKids_222 : decode cX12_ordersKids 222 = .ok (.aload_n 0, 1) := by decide +kernel
theorem dX12_ordersKids_223 : decode cX12_ordersKids 223 = .ok (.bipush 13, 2) := by decide +kernel
theorem dX12_ordersKids_225 : decode cX12_ordersKids 225 = .ok (.iload 8, 2) := by decide +kernel
theorem dX12_ordersKids_227 : decode cX12_ordersKids 227 = .ok (.iload 7, 2) := by decide +kernel
theorem dX12_ordersKids_229 : decode cX12_ordersKids 229 = .ok (.invokevirtual 308, 3) := by decide +kernel
theorem dX12_ordersKids_232 : decode cX12_ordersKids 232 = .ok (.ifCond .eq 7, 3) := by decide +kernel
theorem dX12_ordersKids_235 : decode cX12_ordersKids 235 = .ok (.iload 8, 2) := by decide +kernel
theorem dX12_ordersKids_237 : decode cX12_ordersKids 237 = .ok (.istore 7, 2) := by decide +kernel
theorem dX12_ordersKids_239 : decode cX12_ordersKids 239 = .ok (.iinc 8 1, 3) := by decide +kernel
theorem dX12_ordersKids_242 : decode cX12_ordersKids 242 = .ok (.goto (-89), 3) := by decide +kernel
theorem dX12_ordersKids_245 : decode cX12_ordersKids 245 = .ok (.iload 7, 2) := by decide +kernel
theorem dX12_ordersKids_247 : decode cX12_ordersKids 247 = .ok (.iconst (-1), 1) := by decide +kernel
theorem dX12_ordersKids_248 : decode cX12_ordersKids 248 = .ok (.if_icmp .ne 5, 3) := by decide +kernel
theorem dX12_ordersKids_251 : decode cX12_ordersKids 251 = .ok (.iconst 0, 1) := by decide +kernel
theorem dX12_ordersKids_252 : decode cX12_ordersKids 252 = .ok (.ireturn, 1) := by decide +kernel
theorem dX12_ordersKids_253 : decode cX12_ordersKids 253 = .ok (.aload_n 0, 1) := by decide +kernel
theorem dX12_ordersKids_254 : decode cX12_ordersKids 254 = .ok (.getfield 151, 3) := by decide +kernel
theorem dX12_ordersKids_257 : decode cX12_ordersKids 257 = .ok (.iload 7, 2) := by decide +kernel
theorem dX12_ordersKids_259 : decode cX12_ordersKids 259 = .ok (.iconst 1, 1) := by decide +kernel
theorem dX12_ordersKids_260 : decode cX12_ordersKids 260 = .ok (.bastore, 1) := by decide +kernel
theorem dX12_ordersKids_261 : decode cX12_ordersKids 261 = .ok (.aload_n 0, 1) := by decide +kernel
theorem dX12_ordersKids_262 : decode cX12_ordersKids 262 = .ok (.getfield 56, 3) := by decide +kernel
theorem dX12_ordersKids_265 : decode cX12_ordersKids 265 = .ok (.bipush 13, 2) := by decide +kernel
theorem dX12_ordersKids_267 : decode cX12_ordersKids 267 = .ok (.aaload, 1) := by decide +kernel
theorem dX12_ordersKids_268 : decode cX12_ordersKids 268 = .ok (.iload 7, 2) := by decide +kernel
theorem dX12_ordersKids_270 : decode cX12_ordersKids 270 = .ok (.iload 6, 2) := by decide +kernel
theorem dX12_ordersKids_272 : decode cX12_ordersKids 272 = .ok (.iastore, 1) := by decide +kernel
theorem dX12_ordersKids_273 : decode cX12_ordersKids 273 = .ok (.iinc 6 1, 3) := by decide +kernel
theorem dX12_ordersKids_276 : decode cX12_ordersKids 276 = .ok (.goto (-136), 3) := by decide +kernel
theorem dX12_ordersKids_279 : decode cX12_ordersKids 279 = .ok (.iconst 1, 1) := by decide +kernel
theorem dX12_ordersKids_280 : decode cX12_ordersKids 280 = .ok (.ireturn, 1) := by decide +kernel
theorem dX12_outermost_0 : decode cX12_outermost 0 = .ok (.iconst 0, 1) := by decide +kernel
theorem dX12_outermost_1 : decode cX12_outermost 1 = .ok (.aload_n 0, 1) := by decide +kernel
theorem dX12_outermost_2 : decode cX12_outermost 2 = .ok (.bipush 13, 2) := by decide +kernel
theorem dX12_outermost_4 : decode cX12_outermost 4 = .ok (.invokevirtual 324, 3) := by decide +kernel
theorem dX12_outermost_7 : decode cX12_outermost 7 = .ok (.invokestatic 450, 3) := by decide +kernel
theorem dX12_outermost_10 : decode cX12_outermost 10 = .ok (.ireturn, 1) := by decide +kernel
theorem dX12_packed_0 : decode cX12_packed 0 = .ok (.lconst 0, 1) := by decide +kernel
theorem dX12_packed_1 : decode cX12_packed 1 = .ok (.lstore_n 2, 1) := by decide +kernel
theorem dX12_packed_2 : decode cX12_packed 2 = .ok (.bipush 7, 2) := by decide +kernel
theorem dX12_packed_4 : decode cX12_packed 4 = .ok (.istore 4, 2) := by decide +kernel
theorem dX12_packed_6 : decode cX12_packed 6 = .ok (.iload 4, 2) := by decide +kernel
theorem dX12_packed_8 : decode cX12_packed 8 = .ok (.ifCond .lt 41, 3) := by decide +kernel
theorem dX12_packed_11 : decode cX12_packed 11 = .ok (.lload_n 0, 1) := by decide +kernel
theorem dX12_packed_12 : decode cX12_packed 12 = .ok (.bipush 8, 2) := by decide +kernel
theorem dX12_packed_14 : decode cX12_packed 14 = .ok (.iload 4, 2) := by decide +kernel
theorem dX12_packed_16 : decode cX12_packed 16 = .ok (.imul, 1) := by decide +kernel
theorem dX12_packed_17 : decode cX12_packed 17 = .ok (.lushr, 1) := by decide +kernel
theorem dX12_packed_18 : decode cX12_packed 18 = .ok (.ldc2_w 420, 3) := by decide +kernel
theorem dX12_packed_21 : decode cX12_packed 21 = .ok (.land, 1) := by decide +kernel
theorem dX12_packed_22 : decode cX12_packed 22 = .ok (.lstore 5, 2) := by decide +kernel
theorem dX12_packed_24 : decode cX12_packed 24 = .ok (.lload 5, 2) := by decide +kernel
theorem dX12_packed_26 : decode cX12_packed 26 = .ok (.lconst 0, 1) := by decide +kernel
theorem dX12_packed_27 : decode cX12_packed 27 = .ok (.lcmp, 1) := by decide +kernel
theorem dX12_packed_28 : decode cX12_packed 28 = .ok (.ifCond .ne 7, 3) := by decide +kernel
theorem dX12_packed_31 : decode cX12_packed 31 = .ok (.lload_n 2, 1) := by decide +kernel
theorem dX12_packed_32 : decode cX12_packed 32 = .ok (.goto 10, 3) := by decide +kernel
theorem dX12_packed_35 : decode cX12_packed 35 = .ok (.lload_n 2, 1) := by decide +kernel
theorem dX12_packed_36 : decode cX12_packed 36 = .ok (.bipush 8, 2) := by decide +kernel
theorem dX12_packed_38 : decode cX12_packed 38 = .ok (.lshl, 1) := by decide +kernel
theorem dX12_packed_39 : decode cX12_packed 39 = .ok (.lload 5, 2) := by decide +kernel
theorem dX12_packed_41 : decode cX12_packed 41 = .ok (.lor, 1) := by decide +kernel
theorem dX12_packed_42 : decode cX12_packed 42 = .ok (.lstore_n 2, 1) := by decide +kernel
theorem dX12_packed_43 : decode cX12_packed 43 = .ok (.iinc 4 (-1), 3) := by decide +kernel
theorem dX12_packed_46 : decode cX12_packed 46 = .ok (.goto (-40), 3) := by decide +kernel
theorem dX12_packed_49 : decode cX12_packed 49 = .ok (.lload_n 2, 1) := by decide +kernel
theorem dX12_packed_50 : decode cX12_packed 50 = .ok (.lreturn, 1) := by decide +kernel
theorem dX12_pairs_0 : decode cX12_pairs 0 = .ok (.aload_n 0, 1) := by decide +kernel
theorem dX12_pairs_1 : decode cX12_pairs 1 = .ok (.getfield 127, 3) := by decide +kernel
theorem dX12_pairs_4 : decode cX12_pairs 4 = .ok (.iload_n 1, 1) := by decide +kernel
theorem dX12_pairs_5 : decode cX12_pairs 5 = .ok (.iload_n 2, 1) := by decide +kernel
theorem dX12_pairs_6 : decode cX12_pairs 6 = .ok (.iastore, 1) := by decide +kernel
theorem dX12_pairs_7 : decode cX12_pairs 7 = .ok (.aload_n 0, 1) := by decide +kernel
theorem dX12_pairs_8 : decode cX12_pairs 8 = .ok (.getfield 130, 3) := by decide +kernel
theorem dX12_pairs_11 : decode cX12_pairs 11 = .ok (.iload_n 2, 1) := by decide +kernel
theorem dX12_pairs_12 : decode cX12_pairs 12 = .ok (.iload_n 1, 1) := by decide +kernel
theorem dX12_pairs_13 : decode cX12_pairs 13 = .ok (.iastore, 1) := by decide +kernel
theorem dX12_pairs_14 : decode cX12_pairs 14 = .ok (.return_, 1) := by decide +kernel
theorem dX12_pairsAll_0 : decode cX12_pairsAll 0 = .ok (.aload_n 0, 1) := by decide +kernel
theorem dX12_pairsAll_1 : decode cX12_pairsAll 1 = .ok (.aload_n 0, 1) := by decide +kernel
theorem dX12_pairsAll_2 : decode cX12_pairsAll 2 = .ok (.getfield 136, 3) := by decide +kernel
theorem dX12_pairsAll_5 : decode cX12_pairsAll 5 = .ok (.iload_n 2, 1) := by decide +kernel
theorem dX12_pairsAll_6 : decode cX12_pairsAll 6 = .ok (.iaload, 1) := by decide +kernel
theorem dX12_pairsAll_7 : decode cX12_pairsAll 7 = .ok (.iload_n 3, 1) := by decide +kernel
theorem dX12_pairsAll_8 : decode cX12_pairsAll 8 = .ok (.invokevirtual 369, 3) := by decide +kernel
theorem dX12_pairsAll_11 : decode cX12_pairsAll 11 = .ok (.aload_n 0, 1) := by decide +kernel
theorem dX12_pairsAll_12 : decode cX12_pairsAll 12 = .ok (.bipush 15, 2) := by decide +kernel
theorem dX12_pairsAll_14 : decode cX12_pairsAll 14 = .ok (.iload_n 3, 1) := by decide +kernel
theorem dX12_pairsAll_15 : decode cX12_pairsAll 15 = .ok (.invokevirtual 291, 3) := by decide +kernel
theorem dX12_pairsAll_18 : decode cX12_pairsAll 18 = .ok (.istore 4, 2) := by decide +kernel
theorem dX12_pairsAll_20 : decode cX12_pairsAll 20 = .ok (.aload_n 0, 1) := by decide +kernel
theorem dX12_pairsAll_21 : decode cX12_pairsAll 21 = .ok (.iload_n 1, 1) := by decide +kernel
theorem dX12_pairsAll_22 : decode cX12_pairsAll 22 = .ok (.iload_n 2, 1) := by decide +kernel
theorem dX12_pairsAll_23 : decode cX12_pairsAll 23 = .ok (.invokevirtual 291, 3) := by decide +kernel
theorem dX12_pairsAll_26 : decode cX12_pairsAll 26 = .ok (.istore 5, 2) := by decide +kernel
theorem dX12_pairsAll_28 : decode cX12_pairsAll 28 = .ok (.iload 5, 2) := by decide +kernel
theorem dX12_pairsAll_30 : decode cX12_pairsAll 30 = .ok (.iconst (-1), 1) := by decide +kernel
theorem dX12_pairsAll_31 : decode cX12_pairsAll 31 = .ok (.if_icmp .eq 34, 3) := by decide +kernel
theorem dX12_pairsAll_34 : decode cX12_pairsAll 34 = .ok (.aload_n 0, 1) := by decide +kernel
theorem dX12_pairsAll_35 : decode cX12_pairsAll 35 = .ok (.iload_n 1, 1) := by decide +kernel
theorem dX12_pairsAll_36 : decode cX12_pairsAll 36 = .ok (.iload 5, 2) := by decide +kernel
theorem dX12_pairsAll_38 : decode cX12_pairsAll 38 = .ok (.iload 4, 2) := by decide +kernel
theorem dX12_pairsAll_40 : decode cX12_pairsAll 40 = .ok (.invokevirtual 379, 3) := by decide +kernel
theorem dX12_pairsAll_43 : decode cX12_pairsAll 43 = .ok (.aload_n 0, 1) := by decide +kernel
theorem dX12_pairsAll_44 : decode cX12_pairsAll 44 = .ok (.bipush 15, 2) := by decide +kernel
theorem dX12_pairsAll_46 : decode cX12_pairsAll 46 = .ok (.iload 4, 2) := by decide +kernel
theorem dX12_pairsAll_48 : decode cX12_pairsAll 48 = .ok (.invokevirtual 294, 3) := by decide +kernel
theorem dX12_pairsAll_51 : decode cX12_pairsAll 51 = .ok (.istore 4, 2) := by decide +kernel
theorem dX12_pairsAll_53 : decode cX12_pairsAll 53 = .ok (.aload_n 0, 1) := by decide +kernel
theorem dX12_pairsAll_54 : decode cX12_pairsAll 54 = .ok (.iload_n 1, 1) := by decide +kernel
theorem dX12_pairsAll_55 : decode cX12_pairsAll 55 = .ok (.iload 5, 2) := by decide +kernel
theorem dX12_pairsAll_57 : decode cX12_pairsAll 57 = .ok (.invokevirtual 294, 3) := by decide +kernel
theorem dX12_pairsAll_60 : decode cX12_pairsAll 60 = .ok (.istore 5, 2) := by decide +kernel
theorem dX12_pairsAll_62 : decode cX12_pairsAll 62 = .ok (.goto (-34), 3) := by decide +kernel
theorem dX12_pairsAll_65 : decode cX12_pairsAll 65 = .ok (.return_, 1) := by decide +kernel
theorem dX12_parent_0 : decode cX12_parent 0 = .ok (.aload_n 0, 1) := by decide +kernel
theorem dX12_parent_1 : decode cX12_parent 1 = .ok (.iload_n 1, 1) := by decide +kernel
theorem dX12_parent_2 : decode cX12_parent 2 = .ok (.invokevirtual 396, 3) := by decide +kernel
theorem dX12_parent_5 : decode cX12_parent 5 = .ok (.ifCond .eq 13, 3) := by decide +kernel
theorem dX12_parent_8 : decode cX12_parent 8 = .ok (.iload_n 2, 1) := by decide +kernel
theorem dX12_parent_9 : decode cX12_parent 9 = .ok (.i2l, 1) := by decide +kernel
theorem dX12_parent_10 : decode cX12_parent 10 = .ok (.lconst 0, 1) := by decide +kernel
theorem dX12_parent_11 : decode cX12_parent 11 = .ok (.lconst 1, 1) := by decide +kernel
theorem dX12_parent_12 : decode cX12_parent 12 = .ok (.invokestatic 171, 3) := by decide +kernel
theorem dX12_parent_15 : decode cX12_parent 15 = .ok (.ifCond .ne 7, 3) := by decide +kernel
theorem dX12_parent_18 : decode cX12_parent 18 = .ok (.iconst (-1), 1) := by decide +kernel
theorem dX12_parent_19 : decode cX12_parent 19 = .ok (.goto 22, 3) := by decide +kernel
theorem dX12_parent_22 : decode cX12_parent 22 = .ok (.iload_n 2, 1) := by decide +kernel
theorem dX12_parent_23 : decode cX12_parent 23 = .ok (.ifCond .ne 12, 3) := by decide +kernel
theorem dX12_parent_26 : decode cX12_parent 26 = .ok (.aload_n 0, 1) := by decide +kernel
theorem dX12_parent_27 : decode cX12_parent 27 = .ok (.getfield 72, 3) := by decide +kernel
theorem dX12_parent_30 : decode cX12_parent 30 = .ok (.iload_n 1, 1) := by decide +kernel
theorem dX12_parent_31 : decode cX12_parent 31 = .ok (.iaload, 1) := by decide +kernel
theorem dX12_parent_32 : decode cX12_parent 32 = .ok (.goto 9, 3) := by decide +kernel
theorem dX12_parent_35 : decode cX12_parent 35 = .ok (.aload_n 0, 1) := by decide +kernel
theorem dX12_parent_36 : decode cX12_parent 36 = .ok (.getfield 75, 3) := by decide +kernel
theorem dX12_parent_39 : decode cX12_parent 39 = .ok (.iload_n 1, 1) := by decide +kernel
theorem dX12_parent_40 : decode cX12_parent 40 = .ok (.iaload, 1) := by decide +kernel
theorem dX12_parent_41 : decode cX12_parent 41 = .ok (.ireturn, 1) := by decide +kernel
theorem dX12_parentsPair_0 : decode cX12_parentsPair 0 = .ok (.aload_n 0, 1) := by decide +kernel
theorem dX12_parentsPair_1 : decode cX12_parentsPair 1 = .ok (.getfield 53, 3) := by decide +kernel
theorem dX12_parentsPair_4 : decode cX12_parentsPair 4 = .ok (.iload_n 1, 1) := by decide +kernel
theorem dX12_parentsPair_5 : decode cX12_parentsPair 5 = .ok (.aaload, 1) := by decide +kernel
theorem dX12_parentsPair_6 : decode cX12_parentsPair 6 = .ok (.aload_n 0, 1) := by decide +kernel
theorem dX12_parentsPair_7 : decode cX12_parentsPair 7 = .ok (.getfield 124, 3) := by decide +kernel
theorem dX12_parentsPair_10 : decode cX12_parentsPair 10 = .ok (.iload_n 2, 1) := by decide +kernel
theorem dX12_parentsPair_11 : decode cX12_parentsPair 11 = .ok (.iaload, 1) := by decide +kernel
theorem dX12_parentsPair_12 : decode cX12_parentsPair 12 = .ok (.iaload, 1) := by decide +kernel
theorem dX12_parentsPair_13 : decode cX12_parentsPair 13 = .ok (.iconst (-1), 1) := by decide +kernel
theorem dX12_parentsPair_14 : decode cX12_parentsPair 14 = .ok (.if_icmp .eq 16, 3) := by decide +kernel
theorem dX12_parentsPair_17 : decode cX12_parentsPair 17 = .ok (.aload_n 0, 1) := by decide +kernel
theorem dX12_parentsPair_18 : decode cX12_parentsPair 18 = .ok (.getfield 53, 3) := by decide +kernel
theorem dX12_parentsPair_21 : decode cX12_parentsPair 21 = .ok (.bipush 15, 2) := by decide +kernel
theorem dX12_parentsPair_23 : decode cX12_parentsPair 23 = .ok (.aaload, 1) := by decide +kernel
theorem dX12_parentsPair_24 : decode cX12_parentsPair 24 = .ok (.iload_n 3, 1) := by decide +kernel
theorem dX12_parentsPair_25 : decode cX12_parentsPair 25 = .ok (.iaload, 1) := by decide +kernel
theorem dX12_parentsPair_26 : decode cX12_parentsPair 26 = .ok (.iconst (-1), 1) := by decide +kernel
theorem dX12_parentsPair_27 : decode cX12_parentsPair 27 = .ok (.if_icmp .ne 5, 3) := by decide +kernel
theorem dX12_parentsPair_30 : decode cX12_parentsPair 30 = .ok (.iconst 0, 1) := by decide +kernel
theorem dX12_parentsPair_31 : decode cX12_parentsPair 31 = .ok (.ireturn, 1) := by decide +kernel
theorem dX12_parentsPair_32 : decode cX12_parentsPair 32 = .ok (.aload_n 0, 1) := by decide +kernel
theorem dX12_parentsPair_33 : decode cX12_parentsPair 33 = .ok (.aload_n 0, 1) := by decide +kernel
theorem dX12_parentsPair_34 : decode cX12_parentsPair 34 = .ok (.getfield 136, 3) := by decide +kernel
theorem dX12_parentsPair_37 : decode cX12_parentsPair 37 = .ok (.aload_n 0, 1) := by decide +kernel
theorem dX12_parentsPair_38 : decode cX12_parentsPair 38 = .ok (.getfield 53, 3) := by decide +kernel
theorem dX12_parentsPair_41 : decode cX12_parentsPair 41 = .ok (.iload_n 1, 1) := by decide +kernel
theorem dX12_parentsPair_42 : decode cX12_parentsPair 42 = .ok (.aaload, 1) := by decide +kernel
theorem dX12_parentsPair_43 : decode cX12_parentsPair 43 = .ok (.aload_n 0, 1) := by decide +kernel
theorem dX12_parentsPair_44 : decode cX12_parentsPair 44 = .ok (.getfield 124, 3) := by decide +kernel
theorem dX12_parentsPair_47 : decode cX12_parentsPair 47 = .ok (.iload_n 2, 1) := by decide +kernel
theorem dX12_parentsPair_48 : decode cX12_parentsPair 48 = .ok (.iaload, 1) := by decide +kernel
theorem dX12_parentsPair_49 : decode cX12_parentsPair 49 = .ok (.iaload, 1) := by decide +kernel
theorem dX12_parentsPair_50 : decode cX12_parentsPair 50 = .ok (.iaload, 1) := by decide +kernel
theorem dX12_parentsPair_51 : decode cX12_parentsPair 51 = .ok (.aload_n 0, 1) := by decide +kernel
theorem dX12_parentsPair_52 : decode cX12_parentsPair 52 = .ok (.getfield 53, 3) := by decide +kernel
theorem dX12_parentsPair_55 : decode cX12_parentsPair 55 = .ok (.bipush 15, 2) := by decide +kernel
theorem dX12_parentsPair_57 : decode cX12_parentsPair 57 = .ok (.aaload, 1) := by decide +kernel
theorem dX12_parentsPair_58 : decode cX12_parentsPair 58 = .ok (.iload_n 3, 1) := by decide +kernel
theorem dX12_parentsPair_59 : decode cX12_parentsPair 59 = .ok (.iaload, 1) := by decide +kernel
theorem dX12_parentsPair_60 : decode cX12_parentsPair 60 = .ok (.invokevirtual 357, 3) := by decide +kernel
theorem dX12_parentsPair_63 : decode cX12_parentsPair 63 = .ok (.ireturn, 1) := by decide +kernel
theorem dX12_passes_0 : decode cX12_passes 0 = .ok (.iload_n 1, 1) := by decide +kernel
theorem dX12_passes_1 : decode cX12_passes 1 = .ok (.ifCond .ne 8, 3) := by decide +kernel
theorem dX12_passes_4 : decode cX12_passes 4 = .ok (.aload_n 0, 1) := by decide +kernel
theorem dX12_passes_5 : decode cX12_passes 5 = .ok (.invokevirtual 196, 3) := by decide +kernel
theorem dX12_passes_8 : decode cX12_passes 8 = .ok (.ireturn, 1) := by decide +kernel
theorem dX12_passes_9 : decode cX12_passes 9 = .ok (.aload_n 0, 1) := by decide +kernel
theorem dX12_passes_10 : decode cX12_passes 10 = .ok (.invokevirtual 200, 3) := by decide +kernel
theorem dX12_passes_13 : decode cX12_passes 13 = .ok (.iconst 1, 1) := by decide +kernel
theorem dX12_passes_14 : decode cX12_passes 14 = .ok (.ireturn, 1) := by decide +kernel
theorem dX12_placeOf_0 : decode cX12_placeOf 0 = .ok (.iconst 0, 1) := by decide +kernel
theorem dX12_placeOf_1 : decode cX12_placeOf 1 = .ok (.istore_n 3, 1) := by decide +kernel
theorem dX12_placeOf_2 : decode cX12_placeOf 2 = .ok (.iconst 0, 1) := by decide +kernel
theorem dX12_placeOf_3 : decode cX12_placeOf 3 = .ok (.istore 4, 2) := by decide +kernel
theorem dX12_placeOf_5 : decode cX12_placeOf 5 = .ok (.iload 4, 2) := by decide +kernel
theorem dX12_placeOf_7 : decode cX12_placeOf 7 = .ok (.sipush 150, 3) := by decide +kernel
theorem dX12_placeOf_10 : decode cX12_placeOf 10 = .ok (.if_icmp .ge 81, 3) := by decide +kernel
theorem dX12_placeOf_13 : decode cX12_placeOf 13 = .ok (.iload_n 3, 1) := by decide +kernel
theorem dX12_placeOf_14 : decode cX12_placeOf 14 = .ok (.aload_n 0, 1) := by decide +kernel
theorem dX12_placeOf_15 : decode cX12_placeOf 15 = .ok (.getfield 53, 3) := by decide +kernel
theorem dX12_placeOf_18 : decode cX12_placeOf 18 = .ok (.iload_n 1, 1) := by decide +kernel
theorem dX12_placeOf_19 : decode cX12_placeOf 19 = .ok (.aaload, 1) := by decide +kernel
theorem dX12_placeOf_20 : decode cX12_placeOf 20 = .ok (.iload_n 2, 1) := by decide +kernel
theorem dX12_placeOf_21 : decode cX12_placeOf 21 = .ok (.iaload, 1) := by decide +kernel
theorem dX12_placeOf_22 : decode cX12_placeOf 22 = .ok (.iconst (-1), 1) := by decide +kernel
theorem dX12_placeOf_23 : decode cX12_placeOf 23 = .ok (.if_icmp .eq 59, 3) := by decide +kernel
theorem dX12_placeOf_26 : decode cX12_placeOf 26 = .ok (.aload_n 0, 1) := by decide +kernel
theorem dX12_placeOf_27 : decode cX12_placeOf 27 = .ok (.getfield 45, 3) := by decide +kernel
theorem dX12_placeOf_30 : decode cX12_placeOf 30 = .ok (.iload_n 1, 1) := by decide +kernel
theorem dX12_placeOf_31 : decode cX12_placeOf 31 = .ok (.aaload, 1) := by decide +kernel
theorem dX12_placeOf_32 : decode cX12_placeOf 32 = .ok (.iload 4, 2) := by decide +kernel
theorem dX12_placeOf_34 : decode cX12_placeOf 34 = .ok (.baload, 1) := by decide +kernel
theorem dX12_placeOf_35 : decode cX12_placeOf 35 = .ok (.ifCond .eq 47, 3) := by decide +kernel
theorem dX12_placeOf_38 : decode cX12_placeOf 38 = .ok (.aload_n 0, 1) := by decide +kernel
theorem dX12_placeOf_39 : decode cX12_placeOf 39 = .ok (.getfield 53, 3) := by decide +kernel
theorem dX12_placeOf_42 : decode cX12_placeOf 42 = .ok (.iload_n 1, 1) := by decide +kernel
theorem dX12_placeOf_43 : decode cX12_placeOf 43 = .ok (.aaload, 1) := by decide +kernel
theorem dX12_placeOf_44 : decode cX12_placeOf 44 = .ok (.iload 4, 2) := by decide +kernel
theorem dX12_placeOf_46 : decode cX12_placeOf 46 = .ok (.iaload, 1) := by decide +kernel
theorem dX12_placeOf_47 : decode cX12_placeOf 47 = .ok (.aload_n 0, 1) := by decide +kernel
theorem dX12_placeOf_48 : decode cX12_placeOf 48 = .ok (.getfield 53, 3) := by decide +kernel
theorem dX12_placeOf_51 : decode cX12_placeOf 51 = .ok (.iload_n 1, 1) := by decide +kernel
theorem dX12_placeOf_52 : decode cX12_placeOf 52 = .ok (.aaload, 1) := by decide +kernel
theorem dX12_placeOf_53 : decode cX12_placeOf 53 = .ok (.iload_n 2, 1) := by decide +kernel
theorem dX12_placeOf_54 : decode cX12_placeOf 54 = .ok (.iaload, 1) := by decide +kernel
theorem dX12_placeOf_55 : decode cX12_placeOf 55 = .ok (.if_icmp .ne 27, 3) := by decide +kernel
theorem dX12_placeOf_58 : decode cX12_placeOf 58 = .ok (.aload_n 0, 1) := by decide +kernel
theorem dX12_placeOf_59 : decode cX12_placeOf 59 = .ok (.getfield 56, 3) := by decide +kernel
theorem dX12_placeOf_62 : decode cX12_placeOf 62 = .ok (.iload_n 1, 1) := by decide +kernel
theorem dX12_placeOf_63 : decode cX12_placeOf 63 = .ok (.aaload, 1) := by decide +kernel
theorem dX12_placeOf_64 : decode cX12_placeOf 64 = .ok (.iload 4, 2) := by decide +kernel
theorem dX12_placeOf_66 : decode cX12_placeOf 66 = .ok (.iaload, 1) := by decide +kernel
theorem dX12_placeOf_67 : decode cX12_placeOf 67 = .ok (.aload_n 0, 1) := by decide +kernel
theorem dX12_placeOf_68 : decode cX12_placeOf 68 = .ok (.getfield 56, 3) := by decide +kernel
theorem dX12_placeOf_71 : decode cX12_placeOf 71 = .ok (.iload_n 1, 1) := by decide +kernel
theorem dX12_placeOf_72 : decode cX12_placeOf 72 = .ok (.aaload, 1) := by decide +kernel
theorem dX12_placeOf_73 : decode cX12_placeOf 73 = .ok (.iload_n 2, 1) := by decide +kernel
theorem dX12_placeOf_74 : decode cX12_placeOf 74 = .ok (.iaload, 1) := by decide +kernel
theorem dX12_placeOf_75 : decode cX12_placeOf 75 = .ok (.if_icmp .ge 7, 3) := by decide +kernel
theorem dX12_placeOf_78 : decode cX12_placeOf 78 = .ok (.iconst 1, 1) := by decide +kernel
theorem dX12_placeOf_79 : decode cX12_placeOf 79 = .ok (.goto 4, 3) := by decide +kernel
theorem dX12_placeOf_82 : decode cX12_placeOf 82 = .ok (.iconst 0, 1) := by decide +kernel
theorem dX12_placeOf_83 : decode cX12_placeOf 83 = .ok (.iadd, 1) := by decide +kernel
theorem dX12_placeOf_84 : decode cX12_placeOf 84 = .ok (.istore_n 3, 1) := by decide +kernel
theorem dX12_placeOf_85 : decode cX12_placeOf 85 = .ok (.iinc 4 1, 3) := by decide +kernel
theorem dX12_placeOf_88 : decode cX12_placeOf 88 = .ok (.goto (-83), 3) := by decide +kernel
theorem dX12_placeOf_91 : decode cX12_placeOf 91 = .ok (.iload_n 3, 1) := by decide +kernel
theorem dX12_placeOf_92 : decode cX12_placeOf 92 = .ok (.ireturn, 1) := by decide +kernel
theorem dX12_print_0 : decode cX12_print 0 = .ok (.aload_n 0, 1) := by decide +kernel
theorem dX12_print_1 : decode cX12_print 1 = .ok (.iload_n 1, 1) := by decide +kernel
theorem dX12_print_2 : decode cX12_print 2 = .ok (.invokevirtual 396, 3) := by decide +kernel
theorem dX12_print_5 : decode cX12_print 5 = .ok (.ifCond .ne 5, 3) := by decide +kernel
theorem dX12_print_8 : decode cX12_print 8 = .ok (.iconst (-1), 1) := by decide +kernel
theorem dX12_print_9 : decode cX12_print 9 = .ok (.ireturn, 1) := by decide +kernel
theorem dX12_print_10 : decode cX12_print 10 = .ok (.aload_n 0, 1) := by decide +kernel
theorem dX12_print_11 : decode cX12_print 11 = .ok (.iconst 0, 1) := by decide +kernel
theorem dX12_print_12 : decode cX12_print 12 = .ok (.putfield 560, 3) := by decide +kernel
theorem dX12_print_15 : decode cX12_print 15 = .ok (.aload_n 0, 1) := by decide +kernel
theorem dX12_print_16 : decode cX12_print 16 = .ok (.iload_n 1, 1) := by decide +kernel
theorem dX12_print_17 : decode cX12_print 17 = .ok (.aload_n 0, 1) := by decide +kernel
theorem dX12_print_18 : decode cX12_print 18 = .ok (.iload_n 1, 1) := by decide +kernel
theorem dX12_print_19 : decode cX12_print 19 = .ok (.invokevirtual 324, 3) := by decide +kernel
theorem dX12_print_22 : decode cX12_print 22 = .ok (.invokevirtual 566, 3) := by decide +kernel
theorem dX12_print_25 : decode cX12_print 25 = .ok (.iload_n 2, 1) := by decide +kernel
theorem dX12_print_26 : decode cX12_print 26 = .ok (.iconst (-1), 1) := by decide +kernel
theorem dX12_print_27 : decode cX12_print 27 = .ok (.if_icmp .ne 10, 3) := by decide +kernel
theorem dX12_print_30 : decode cX12_print 30 = .ok (.aload_n 0, 1) := by decide +kernel
theorem dX12_print_31 : decode cX12_print 31 = .ok (.getfield 560, 3) := by decide +kernel
theorem dX12_print_34 : decode cX12_print 34 = .ok (.goto 29, 3) := by decide +kernel
theorem dX12_print_37 : decode cX12_print 37 = .ok (.iload_n 2, 1) := by decide +kernel
theorem dX12_print_38 : decode cX12_print 38 = .ok (.i2l, 1) := by decide +kernel
theorem dX12_print_39 : decode cX12_print 39 = .ok (.lconst 0, 1) := by decide +kernel
theorem dX12_print_40 : decode cX12_print 40 = .ok (.aload_n 0, 1) := by decide +kernel
theorem dX12_print_41 : decode cX12_print 41 = .ok (.getfield 560, 3) := by decide +kernel
theorem dX12_print_44 : decode cX12_print 44 = .ok (.iconst 1, 1) := by decide +kernel
theorem dX12_print_45 : decode cX12_print 45 = .ok (.isub, 1) := by decide +kernel
theorem dX12_print_46 : decode cX12_print 46 = .ok (.i2l, 1) := by decide +kernel
theorem dX12_print_47 : decode cX12_print 47 = .ok (.invokestatic 171, 3) := by decide +kernel
theorem dX12_print_50 : decode cX12_print 50 = .ok (.ifCond .eq 12, 3) := by decide +kernel
theorem dX12_print_53 : decode cX12_print 53 = .ok (.aload_n 0, 1) := by decide +kernel
theorem dX12_print_54 : decode cX12_print 54 = .ok (.getfield 160, 3) := by decide +kernel
theorem dX12_print_57 : decode cX12_print 57 = .ok (.iload_n 2, 1) := by decide +kernel
theorem dX12_print_58 : decode cX12_print 58 = .ok (.baload, 1) := by decide +kernel
theorem dX12_print_59 : decode cX12_print 59 = .ok (.goto 4, 3) := by decide +kernel
theorem dX12_print_62 : decode cX12_print 62 = .ok (.iconst (-1), 1) := by decide +kernel
theorem dX12_print_63 : decode cX12_print 63 = .ok (.ireturn, 1) := by decide +kernel
theorem dX12_prints_0 : decode cX12_prints 0 = .ok (.aload_n 0, 1) := by decide +kernel
theorem dX12_prints_1 : decode cX12_prints 1 = .ok (.getfield 160, 3) := by decide +kernel
theorem dX12_prints_4 : decode cX12_prints 4 = .ok (.aload_n 0, 1) := by decide +kernel
theorem dX12_prints_5 : decode cX12_prints 5 = .ok (.getfield 560, 3) := by decide +kernel
theorem dX12_prints_8 : decode cX12_prints 8 = .ok (.iload_n 1, 1) := by decide +kernel
theorem dX12_prints_9 : decode cX12_prints 9 = .ok (.i2b, 1) := by decide +kernel
theorem dX12_prints_10 : decode cX12_prints 10 = .ok (.bastore, 1) := by decide +kernel
theorem dX12_prints_11 : decode cX12_prints 11 = .ok (.aload_n 0, 1) := by decide +kernel
theorem dX12_prints_12 : decode cX12_prints 12 = .ok (.dup, 1) := by decide +kernel
theorem dX12_prints_13 : decode cX12_prints 13 = .ok (.getfield 560, 3) := by decide +kernel
theorem dX12_prints_16 : decode cX12_prints 16 = .ok (.iconst 1, 1) := by decide +kernel
theorem dX12_prints_17 : decode cX12_prints 17 = .ok (.iadd, 1) := by decide +kernel
theorem dX12_prints_18 : decode cX12_prints 18 = .ok (.putfield 560, 3) := by decide +kernel
theorem dX12_prints_21 : decode cX12_prints 21 = .ok (.return_, 1) := by decide +kernel
theorem dX12_prints__0 : decode cX12_prints_ 0 = .ok (.aload_n 0, 1) := by decide +kernel
theorem dX12_prints__1 : decode cX12_prints_ 1 = .ok (.getfield 59, 3) := by decide +kernel
theorem dX12_prints__4 : decode cX12_prints_ 4 = .ok (.iload_n 2, 1) := by decide +kernel
theorem dX12_prints__5 : decode cX12_prints_ 5 = .ok (.iaload, 1) := by decide +kernel
theorem dX12_prints__6 : decode cX12_prints_ 6 = .ok (.istore_n 3, 1) := by decide +kernel
theorem dX12_prints__7 : decode cX12_prints_ 7 = .ok (.iconst 0, 1) := by decide +kernel
theorem dX12_prints__8 : decode cX12_prints_ 8 = .ok (.istore 4, 2) := by decide +kernel
theorem dX12_prints__10 : decode cX12_prints_ 10 = .ok (.iload 4, 2) := by decide +kernel
theorem dX12_prints__12 : decode cX12_prints_ 12 = .ok (.aload_n 0, 1) := by decide +kernel
theorem dX12_prints__13 : decode cX12_prints_ 13 = .ok (.getfield 84, 3) := by decide +kernel
theorem dX12_prints__16 : decode cX12_prints_ 16 = .ok (.iload_n 3, 1) := by decide +kernel
theorem dX12_prints__17 : decode cX12_prints_ 17 = .ok (.iaload, 1) := by decide +kernel
theorem dX12_prints__18 : decode cX12_prints_ 18 = .ok (.if_icmp .ge 27, 3) := by decide +kernel
theorem dX12_prints__21 : decode cX12_prints_ 21 = .ok (.aload_n 0, 1) := by decide +kernel
theorem dX12_prints__22 : decode cX12_prints_ 22 = .ok (.aload_n 0, 1) := by decide +kernel
theorem dX12_prints__23 : decode cX12_prints_ 23 = .ok (.getfield 78, 3) := by decide +kernel
theorem dX12_prints__26 : decode cX12_prints_ 26 = .ok (.aload_n 0, 1) := by decide +kernel
theorem dX12_prints__27 : decode cX12_prints_ 27 = .ok (.getfield 81, 3) := by decide +kernel
theorem dX12_prints__30 : decode cX12_prints_ 30 = .ok (.iload_n 3, 1) := by decide +kernel
theorem dX12_prints__31 : decode cX12_prints_ 31 = .ok (.iaload, 1) := by decide +kernel
theorem dX12_prints__32 : decode cX12_prints_ 32 = .ok (.iload 4, 2) := by decide +kernel
theorem dX12_prints__34 : decode cX12_prints_ 34 = .ok (.iadd, 1) := by decide +kernel
theorem dX12_prints__35 : decode cX12_prints_ 35 = .ok (.baload, 1) := by decide +kernel
theorem dX12_prints__36 : decode cX12_prints_ 36 = .ok (.invokevirtual 563, 3) := by decide +kernel
theorem dX12_prints__39 : decode cX12_prints_ 39 = .ok (.iinc 4 1, 3) := by decide +kernel
theorem dX12_prints__42 : decode cX12_prints_ 42 = .ok (.goto (-32), 3) := by decide +kernel
theorem dX12_prints__45 : decode cX12_prints_ 45 = .ok (.aload_n 0, 1) := by decide +kernel
theorem dX12_prints__46 : decode cX12_prints_ 46 = .ok (.getfield 50, 3) := by decide +kernel
theorem dX12_prints__49 : decode cX12_prints_ 49 = .ok (.iload_n 1, 1) := by decide +kernel
theorem dX12_prints__50 : decode cX12_prints_ 50 = .ok (.aaload, 1) := by decide +kernel
theorem dX12_prints__51 : decode cX12_prints_ 51 = .ok (.iload_n 2, 1) := by decide +kernel
theorem dX12_prints__52 : decode cX12_prints_ 52 = .ok (.laload, 1) := by decide +kernel
theorem dX12_prints__53 : decode cX12_prints_ 53 = .ok (.lstore 4, 2) := by decide +kernel
theorem dX12_prints__55 : decode cX12_prints_ 55 = .ok (.lload 4, 2) := by decide +kernel
theorem dX12_prints__57 : decode cX12_prints_ 57 = .ok (.lconst 0, 1) := by decide +kernel
theorem dX12_prints__58 : decode cX12_prints_ 58 = .ok (.lcmp, 1) := by decide +kernel
theorem dX12_prints__59 : decode cX12_prints_ 59 = .ok (.ifCond .eq 9, 3) := by decide +kernel
theorem dX12_prints__62 : decode cX12_prints_ 62 = .ok (.aload_n 0, 1) := by decide +kernel
theorem dX12_prints__63 : decode cX12_prints_ 63 = .ok (.bipush 123, 2) := by decide +kernel
theorem dX12_prints__65 : decode cX12_prints_ 65 = .ok (.invokevirtual 563, 3) := by decide +kernel
theorem dX12_prints__68 : decode cX12_prints_ 68 = .ok (.lload 4, 2) := by decide +kernel
theorem dX12_prints__70 : decode cX12_prints_ 70 = .ok (.invokestatic 297, 3) := by decide +kernel
theorem dX12_prints__73 : decode cX12_prints_ 73 = .ok (.iconst 1, 1) := by decide +kernel
theorem dX12_prints__74 : decode cX12_prints_ 74 = .ok (.isub, 1) := by decide +kernel
theorem dX12_prints__75 : decode cX12_prints_ 75 = .ok (.istore 6, 2) := by decide +kernel
theorem dX12_prints__77 : decode cX12_prints_ 77 = .ok (.iload 6, 2) := by decide +kernel
theorem dX12_prints__79 : decode cX12_prints_ 79 = .ok (.ifCond .lt 26, 3) := by decide +kernel
theorem dX12_prints__82 : decode cX12_prints_ 82 = .ok (.aload_n 0, 1) := by decide +kernel
theorem dX12_prints__83 : decode cX12_prints_ 83 = .ok (.lload 4, 2) := by decide +kernel
theorem dX12_prints__85 : decode cX12_prints_ 85 = .ok (.bipush 8, 2) := by decide +kernel
theorem dX12_prints__87 : decode cX12_prints_ 87 = .ok (.iload 6, 2) := by decide +kernel
theorem dX12_prints__89 : decode cX12_prints_ 89 = .ok (.imul, 1) := by decide +kernel
theorem dX12_prints__90 : decode cX12_prints_ 90 = .ok (.lushr, 1) := by decide +kernel
theorem dX12_prints__91 : decode cX12_prints_ 91 = .ok (.ldc2_w 420, 3) := by decide +kernel
theorem dX12_prints__94 : decode cX12_prints_ 94 = .ok (.land, 1) := by decide +kernel
theorem dX12_prints__95 : decode cX12_prints_ 95 = .ok (.l2i, 1) := by decide +kernel
theorem dX12_prints__96 : decode cX12_prints_ 96 = .ok (.invokevirtual 563, 3) := by decide +kernel
theorem dX12_prints__99 : decode cX12_prints_ 99 = .ok (.iinc 6 (-1), 3) := by decide +kernel
theorem dX12_prints__102 : decode cX12_prints_ 102 = .ok (.goto (-25), 3) := by decide +kernel
theorem dX12_prints__105 : decode cX12_prints_ 105 = .ok (.lload 4, 2) := by decide +kernel
theorem dX12_prints__107 : decode cX12_prints_ 107 = .ok (.lconst 0, 1) := by decide +kernel
theorem dX12_prints__108 : decode cX12_prints_ 108 = .ok (.lcmp, 1) := by decide +kernel
theorem dX12_prints__109 : decode cX12_prints_ 109 = .ok (.ifCond .eq 9, 3) := by decide +kernel
theorem dX12_prints__112 : decode cX12_prints_ 112 = .ok (.aload_n 0, 1) := by decide +kernel
theorem dX12_prints__113 : decode cX12_prints_ 113 = .ok (.bipush 125, 2) := by decide +kernel
theorem dX12_prints__115 : decode cX12_prints_ 115 = .ok (.invokevirtual 563, 3) := by decide +kernel
theorem dX12_prints__118 : decode cX12_prints_ 118 = .ok (.aload_n 0, 1) := by decide +kernel
theorem dX12_prints__119 : decode cX12_prints_ 119 = .ok (.iload_n 1, 1) := by decide +kernel
theorem dX12_prints__120 : decode cX12_prints_ 120 = .ok (.iload_n 2, 1) := by decide +kernel
theorem dX12_prints__121 : decode cX12_prints_ 121 = .ok (.invokevirtual 291, 3) := by decide +kernel
theorem dX12_prints__124 : decode cX12_prints_ 124 = .ok (.istore 6, 2) := by decide +kernel
theorem dX12_prints__126 : decode cX12_prints_ 126 = .ok (.iload 6, 2) := by decide +kernel
theorem dX12_prints__128 : decode cX12_prints_ 128 = .ok (.iconst (-1), 1) := by decide +kernel
theorem dX12_prints__129 : decode cX12_prints_ 129 = .ok (.if_icmp .ne 4, 3) := by decide +kernel
theorem dX12_prints__132 : decode cX12_prints_ 132 = .ok (.return_, 1) := by decide +kernel
theorem dX12_prints__133 : decode cX12_prints_ 133 = .ok (.aload_n 0, 1) := by decide +kernel
theorem dX12_prints__134 : decode cX12_prints_ 134 = .ok (.bipush 40, 2) := by decide +kernel
theorem dX12_prints__136 : decode cX12_prints_ 136 = .ok (.invokevirtual 563, 3) := by decide +kernel
theorem dX12_prints__139 : decode cX12_prints_ 139 = .ok (.iload 6, 2) := by decide +kernel
theorem dX12_prints__141 : decode cX12_prints_ 141 = .ok (.iconst (-1), 1) := by decide +kernel
theorem dX12_prints__142 : decode cX12_prints_ 142 = .ok (.if_icmp .eq 34, 3) := by decide +kernel
theorem dX12_prints__145 : decode cX12_prints_ 145 = .ok (.aload_n 0, 1) := by decide +kernel
theorem dX12_prints__146 : decode cX12_prints_ 146 = .ok (.iload_n 1, 1) := by decide +kernel
theorem dX12_prints__147 : decode cX12_prints_ 147 = .ok (.iload 6, 2) := by decide +kernel
theorem dX12_prints__149 : decode cX12_prints_ 149 = .ok (.invokevirtual 566, 3) := by decide +kernel
theorem dX12_prints__152 : decode cX12_prints_ 152 = .ok (.aload_n 0, 1) := by decide +kernel
theorem dX12_prints__153 : decode cX12_prints_ 153 = .ok (.iload_n 1, 1) := by decide +kernel
theorem dX12_prints__154 : decode cX12_prints_ 154 = .ok (.iload 6, 2) := by decide +kernel
theorem dX12_prints__156 : decode cX12_prints_ 156 = .ok (.invokevirtual 294, 3) := by decide +kernel
theorem dX12_prints__159 : decode cX12_prints_ 159 = .ok (.istore 6, 2) := by decide +kernel
theorem dX12_prints__161 : decode cX12_prints_ 161 = .ok (.iload 6, 2) := by decide +kernel
theorem dX12_prints__163 : decode cX12_prints_ 163 = .ok (.iconst (-1), 1) := by decide +kernel
theorem dX12_prints__164 : decode cX12_prints_ 164 = .ok (.if_icmp .eq (-25), 3) := by decide +kernel
theorem dX12_prints__167 : decode cX12_prints_ 167 = .ok (.aload_n 0, 1) := by decide +kernel
theorem dX12_prints__168 : decode cX12_prints_ 168 = .ok (.bipush 32, 2) := by decide +kernel
theorem dX12_prints__170 : decode cX12_prints_ 170 = .ok (.invokevirtual 563, 3) := by decide +kernel
theorem dX12_prints__173 : decode cX12_prints_ 173 = .ok (.goto (-34), 3) := by decide +kernel
theorem dX12_prints__176 : decode cX12_prints_ 176 = .ok (.aload_n 0, 1) := by decide +kernel
theorem dX12_prints__177 : decode cX12_prints_ 177 = .ok (.bipush 41, 2) := by decide +kernel
theorem dX12_prints__179 : decode cX12_prints_ 179 = .ok (.invokevirtual 563, 3) := by decide +kernel
theorem dX12_prints__182 : decode cX12_prints_ 182 = .ok (.return_, 1) := by decide +kernel
theorem dX12_put_0 : decode cX12_put 0 = .ok (.aload_n 0, 1) := by decide +kernel
theorem dX12_put_1 : decode cX12_put 1 = .ok (.iload_n 1, 1) := by decide +kernel
theorem dX12_put_2 : decode cX12_put 2 = .ok (.invokevirtual 425, 3) := by decide +kernel
theorem dX12_put_5 : decode cX12_put 5 = .ok (.ifCond .eq 65, 3) := by decide +kernel
theorem dX12_put_8 : decode cX12_put 8 = .ok (.iload_n 3, 1) := by decide +kernel
theorem dX12_put_9 : decode cX12_put 9 = .ok (.i2l, 1) := by decide +kernel
theorem dX12_put_10 : decode cX12_put 10 = .ok (.lconst 0, 1) := by decide +kernel
theorem dX12_put_11 : decode cX12_put 11 = .ok (.aload_n 0, 1) := by decide +kernel
theorem dX12_put_12 : decode cX12_put 12 = .ok (.getfield 251, 3) := by decide +kernel
theorem dX12_put_15 : decode cX12_put 15 = .ok (.iconst 1, 1) := by decide +kernel
theorem dX12_put_16 : decode cX12_put 16 = .ok (.isub, 1) := by decide +kernel
theorem dX12_put_17 : decode cX12_put 17 = .ok (.i2l, 1) := by decide +kernel
theorem dX12_put_18 : decode cX12_put 18 = .ok (.invokestatic 171, 3) := by decide +kernel
theorem dX12_put_21 : decode cX12_put 21 = .ok (.ifCond .eq 49, 3) := by decide +kernel
theorem dX12_put_24 : decode cX12_put 24 = .ok (.iload_n 2, 1) := by decide +kernel
theorem dX12_put_25 : decode cX12_put 25 = .ok (.i2l, 1) := by decide +kernel
theorem dX12_put_26 : decode cX12_put 26 = .ok (.lconst 0, 1) := by decide +kernel
theorem dX12_put_27 : decode cX12_put 27 = .ok (.aload_n 0, 1) := by decide +kernel
theorem dX12_put_28 : decode cX12_put 28 = .ok (.bipush 12, 2) := by decide +kernel
theorem dX12_put_30 : decode cX12_put 30 = .ok (.iload_n 1, 1) := by decide +kernel
theorem dX12_put_31 : decode cX12_put 31 = .ok (.invokevirtual 315, 3) := by decide +kernel
theorem dX12_put_34 : decode cX12_put 34 = .ok (.i2l, 1) := by decide +kernel
theorem dX12_put_35 : decode cX12_put 35 = .ok (.invokestatic 171, 3) := by decide +kernel
theorem dX12_put_38 : decode cX12_put 38 = .ok (.ifCond .eq 32, 3) := by decide +kernel
theorem dX12_put_41 : decode cX12_put 41 = .ok (.lload 4, 2) := by decide +kernel
theorem dX12_put_43 : decode cX12_put 43 = .ok (.invokestatic 428, 3) := by decide +kernel
theorem dX12_put_46 : decode cX12_put 46 = .ok (.ifCond .eq 24, 3) := by decide +kernel
theorem dX12_put_49 : decode cX12_put 49 = .ok (.aload_n 0, 1) := by decide +kernel
theorem dX12_put_50 : decode cX12_put 50 = .ok (.bipush 12, 2) := by decide +kernel
theorem dX12_put_52 : decode cX12_put 52 = .ok (.invokevirtual 432, 3) := by decide +kernel
theorem dX12_put_55 : decode cX12_put 55 = .ok (.bipush 24, 2) := by decide +kernel
theorem dX12_put_57 : decode cX12_put 57 = .ok (.if_icmp .ge 13, 3) := by decide +kernel
theorem dX12_put_60 : decode cX12_put 60 = .ok (.aload_n 0, 1) := by decide +kernel
theorem dX12_put_61 : decode cX12_put 61 = .ok (.getfield 336, 3) := by decide +kernel
theorem dX12_put_64 : decode cX12_put 64 = .ok (.sipush 150, 3) := by decide +kernel
theorem dX12_put_67 : decode cX12_put 67 = .ok (.if_icmp .ne 5, 3) := by decide +kernel
theorem dX12_put_70 : decode cX12_put 70 = .ok (.iconst (-1), 1) := by decide +kernel
theorem dX12_put_71 : decode cX12_put 71 = .ok (.ireturn, 1) := by decide +kernel
theorem dX12_put_72 : decode cX12_put 72 = .ok (.aload_n 0, 1) := by decide +kernel
theorem dX12_put_73 : decode cX12_put 73 = .ok (.iload_n 3, 1) := by decide +kernel
theorem dX12_put_74 : decode cX12_put 74 = .ok (.iconst (-1), 1) := by decide +kernel
theorem dX12_put_75 : decode cX12_put 75 = .ok (.invokevirtual 342, 3) := by decide +kernel
theorem dX12_put_78 : decode cX12_put 78 = .ok (.istore 6, 2) := by decide +kernel
theorem dX12_put_80 : decode cX12_put 80 = .ok (.aload_n 0, 1) := by decide +kernel
theorem dX12_put_81 : decode cX12_put 81 = .ok (.getfield 68, 3) := by decide +kernel
theorem dX12_put_84 : decode cX12_put 84 = .ok (.iload 6, 2) := by decide +kernel
theorem dX12_put_86 : decode cX12_put 86 = .ok (.iconst 1, 1) := by decide +kernel
theorem dX12_put_87 : decode cX12_put 87 = .ok (.bastore, 1) := by decide +kernel
theorem dX12_put_88 : decode cX12_put 88 = .ok (.aload_n 0, 1) := by decide +kernel
theorem dX12_put_89 : decode cX12_put 89 = .ok (.getfield 50, 3) := by decide +kernel
theorem dX12_put_92 : decode cX12_put 92 = .ok (.bipush 12, 2) := by decide +kernel
theorem dX12_put_94 : decode cX12_put 94 = .ok (.aaload, 1) := by decide +kernel
theorem dX12_put_95 : decode cX12_put 95 = .ok (.iload 6, 2) := by decide +kernel
theorem dX12_put_97 : decode cX12_put 97 = .ok (.lload 4, 2) := by decide +kernel
theorem dX12_put_99 : decode cX12_put 99 = .ok (.invokestatic 435, 3) := by decide +kernel
theorem dX12_put_102 : decode cX12_put 102 = .ok (.lastore, 1) := by decide +kernel
theorem dX12_put_103 : decode cX12_put 103 = .ok (.aload_n 0, 1) := by decide +kernel
theorem dX12_put_104 : decode cX12_put 104 = .ok (.iload 6, 2) := by decide +kernel
theorem dX12_put_106 : decode cX12_put 106 = .ok (.iload_n 1, 1) := by decide +kernel
theorem dX12_put_107 : decode cX12_put 107 = .ok (.iload_n 2, 1) := by decide +kernel
theorem dX12_put_108 : decode cX12_put 108 = .ok (.invokevirtual 439, 3) := by decide +kernel
theorem dX12_put_111 : decode cX12_put 111 = .ok (.iload 6, 2) := by decide +kernel
theorem dX12_put_113 : decode cX12_put 113 = .ok (.ireturn, 1) := by decide +kernel
theorem dX12_quarrel_0 : decode cX12_quarrel 0 = .ok (.iload_n 1, 1) := by decide +kernel
theorem dX12_quarrel_1 : decode cX12_quarrel 1 = .ok (.iconst (-1), 1) := by decide +kernel
theorem dX12_quarrel_2 : decode cX12_quarrel 2 = .ok (.if_icmp .ne 10, 3) := by decide +kernel
theorem dX12_quarrel_5 : decode cX12_quarrel 5 = .ok (.aload_n 0, 1) := by decide +kernel
theorem dX12_quarrel_6 : decode cX12_quarrel 6 = .ok (.getfield 455, 3) := by decide +kernel
theorem dX12_quarrel_9 : decode cX12_quarrel 9 = .ok (.goto 29, 3) := by decide +kernel
theorem dX12_quarrel_12 : decode cX12_quarrel 12 = .ok (.iload_n 1, 1) := by decide +kernel
theorem dX12_quarrel_13 : decode cX12_quarrel 13 = .ok (.i2l, 1) := by decide +kernel
theorem dX12_quarrel_14 : decode cX12_quarrel 14 = .ok (.lconst 0, 1) := by decide +kernel
theorem dX12_quarrel_15 : decode cX12_quarrel 15 = .ok (.aload_n 0, 1) := by decide +kernel
theorem dX12_quarrel_16 : decode cX12_quarrel 16 = .ok (.getfield 455, 3) := by decide +kernel
theorem dX12_quarrel_19 : decode cX12_quarrel 19 = .ok (.iconst 1, 1) := by decide +kernel
theorem dX12_quarrel_20 : decode cX12_quarrel 20 = .ok (.isub, 1) := by decide +kernel
theorem dX12_quarrel_21 : decode cX12_quarrel 21 = .ok (.i2l, 1) := by decide +kernel
theorem dX12_quarrel_22 : decode cX12_quarrel 22 = .ok (.invokestatic 171, 3) := by decide +kernel
theorem dX12_quarrel_25 : decode cX12_quarrel 25 = .ok (.ifCond .eq 12, 3) := by decide +kernel
theorem dX12_quarrel_28 : decode cX12_quarrel 28 = .ok (.aload_n 0, 1) := by decide +kernel
theorem dX12_quarrel_29 : decode cX12_quarrel 29 = .ok (.getfield 139, 3) := by decide +kernel
theorem dX12_quarrel_32 : decode cX12_quarrel 32 = .ok (.iload_n 1, 1) := by decide +kernel
theorem dX12_quarrel_33 : decode cX12_quarrel 33 = .ok (.iaload, 1) := by decide +kernel
theorem dX12_quarrel_34 : decode cX12_quarrel 34 = .ok (.goto 4, 3) := by decide +kernel
theorem dX12_quarrel_37 : decode cX12_quarrel 37 = .ok (.iconst (-1), 1) := by decide +kernel
theorem dX12_quarrel_38 : decode cX12_quarrel 38 = .ok (.ireturn, 1) := by decide +kernel
theorem dX12_quarrels_0 : decode cX12_quarrels 0 = .ok (.aload_n 0, 1) := by decide +kernel
theorem dX12_quarrels_1 : decode cX12_quarrels 1 = .ok (.getfield 139, 3) := by decide +kernel
theorem dX12_quarrels_4 : decode cX12_quarrels 4 = .ok (.aload_n 0, 1) := by decide +kernel
theorem dX12_quarrels_5 : decode cX12_quarrels 5 = .ok (.getfield 455, 3) := by decide +kernel
theorem dX12_quarrels_8 : decode cX12_quarrels 8 = .ok (.sipush 1000, 3) := by decide +kernel
theorem dX12_quarrels_11 : decode cX12_quarrels 11 = .ok (.iload_n 1, 1) := by decide +kernel
theorem dX12_quarrels_12 : decode cX12_quarrels 12 = .ok (.imul, 1) := by decide +kernel
theorem dX12_quarrels_13 : decode cX12_quarrels 13 = .ok (.iload_n 2, 1) := by decide +kernel
theorem dX12_quarrels_14 : decode cX12_quarrels 14 = .ok (.iadd, 1) := by decide +kernel
theorem dX12_quarrels_15 : decode cX12_quarrels 15 = .ok (.iastore, 1) := by decide +kernel
theorem dX12_quarrels_16 : decode cX12_quarrels 16 = .ok (.aload_n 0, 1) := by decide +kernel
theorem dX12_quarrels_17 : decode cX12_quarrels 17 = .ok (.dup, 1) := by decide +kernel
theorem dX12_quarrels_18 : decode cX12_quarrels 18 = .ok (.getfield 455, 3) := by decide +kernel
theorem dX12_quarrels_21 : decode cX12_quarrels 21 = .ok (.iconst 1, 1) := by decide +kernel
theorem dX12_quarrels_22 : decode cX12_quarrels 22 = .ok (.iadd, 1) := by decide +kernel
theorem dX12_quarrels_23 : decode cX12_quarrels 23 = .ok (.putfield 455, 3) := by decide +kernel
theorem dX12_quarrels_26 : decode cX12_quarrels 26 = .ok (.return_, 1) := by decide +kernel
theorem dX12_readsGrammar_0 : decode cX12_readsGrammar 0 = .ok (.aload_n 0, 1) := by decide +kernel
theorem dX12_readsGrammar_1 : decode cX12_readsGrammar 1 = .ok (.iconst (-1), 1) := by decide +kernel
theorem dX12_readsGrammar_2 : decode cX12_readsGrammar 2 = .ok (.putfield 193, 3) := by decide +kernel
theorem dX12_readsGrammar_5 : decode cX12_readsGrammar 5 = .ok (.aload_n 0, 1) := by decide +kernel
theorem dX12_readsGrammar_6 : decode cX12_readsGrammar 6 = .ok (.iconst 0, 1) := by decide +kernel
theorem dX12_readsGrammar_7 : decode cX12_readsGrammar 7 = .ok (.putfield 227, 3) := by decide +kernel
theorem dX12_readsGrammar_10 : decode cX12_readsGrammar 10 = .ok (.iconst 0, 1) := by decide +kernel
theorem dX12_readsGrammar_11 : decode cX12_readsGrammar 11 = .ok (.istore_n 1, 1) := by decide +kernel
theorem dX12_readsGrammar_12 : decode cX12_readsGrammar 12 = .ok (.iload_n 1, 1) := by decide +kernel
theorem dX12_readsGrammar_13 : decode cX12_readsGrammar 13 = .ok (.aload_n 0, 1) := by decide +kernel
theorem dX12_readsGrammar_14 : decode cX12_readsGrammar 14 = .ok (.getfield 163, 3) := by decide +kernel
theorem dX12_readsGrammar_17 : decode cX12_readsGrammar 17 = .ok (.if_icmp .ge 21, 3) := by decide +kernel
theorem dX12_readsGrammar_20 : decode cX12_readsGrammar 20 = .ok (.aload_n 0, 1) := by decide +kernel
theorem dX12_readsGrammar_21 : decode cX12_readsGrammar 21 = .ok (.getfield 13, 3) := by decide +kernel
theorem dX12_readsGrammar_24 : decode cX12_readsGrammar 24 = .ok (.iload_n 1, 1) := by decide +kernel
theorem dX12_readsGrammar_25 : decode cX12_readsGrammar 25 = .ok (.aload_n 0, 1) := by decide +kernel
theorem dX12_readsGrammar_26 : decode cX12_readsGrammar 26 = .ok (.getfield 9, 3) := by decide +kernel
theorem dX12_readsGrammar_29 : decode cX12_readsGrammar 29 = .ok (.iload_n 1, 1) := by decide +kernel
theorem dX12_readsGrammar_30 : decode cX12_readsGrammar 30 = .ok (.baload, 1) := by decide +kernel
theorem dX12_readsGrammar_31 : decode cX12_readsGrammar 31 = .ok (.bastore, 1) := by decide +kernel
theorem dX12_readsGrammar_32 : decode cX12_readsGrammar 32 = .ok (.iinc 1 1, 3) := by decide +kernel
theorem dX12_readsGrammar_35 : decode cX12_readsGrammar 35 = .ok (.goto (-23), 3) := by decide +kernel
theorem dX12_readsGrammar_38 : decode cX12_readsGrammar 38 = .ok (.aload_n 0, 1) := by decide +kernel
theorem dX12_readsGrammar_39 : decode cX12_readsGrammar 39 = .ok (.iconst 0, 1) := by decide +kernel
theorem dX12_readsGrammar_40 : decode cX12_readsGrammar 40 = .ok (.putfield 179, 3) := by decide +kernel
theorem dX12_readsGrammar_43 : decode cX12_readsGrammar 43 = .ok (.aload_n 0, 1) := by decide +kernel
theorem dX12_readsGrammar_44 : decode cX12_readsGrammar 44 = .ok (.invokevirtual 190, 3) := by decide +kernel
theorem dX12_readsGrammar_47 : decode cX12_readsGrammar 47 = .ok (.aload_n 0, 1) := by decide +kernel
theorem dX12_readsGrammar_48 : decode cX12_readsGrammar 48 = .ok (.invokevirtual 248, 3) := by decide +kernel
theorem dX12_readsGrammar_51 : decode cX12_readsGrammar 51 = .ok (.istore_n 1, 1) := by decide +kernel
theorem dX12_readsGrammar_52 : decode cX12_readsGrammar 52 = .ok (.iload_n 1, 1) := by decide +kernel
theorem dX12_readsGrammar_53 : decode cX12_readsGrammar 53 = .ok (.ifCond .eq 22, 3) := by decide +kernel
theorem dX12_readsGrammar_56 : decode cX12_readsGrammar 56 = .ok (.aload_n 0, 1) := by decide +kernel
theorem dX12_readsGrammar_57 : decode cX12_readsGrammar 57 = .ok (.getfield 179, 3) := by decide +kernel
theorem dX12_readsGrammar_60 : decode cX12_readsGrammar 60 = .ok (.aload_n 0, 1) := by decide +kernel
theorem dX12_readsGrammar_61 : decode cX12_readsGrammar 61 = .ok (.getfield 163, 3) := by decide +kernel
theorem dX12_readsGrammar_64 : decode cX12_readsGrammar 64 = .ok (.if_icmp .ge 11, 3) := by decide +kernel
theorem dX12_readsGrammar_67 : decode cX12_readsGrammar 67 = .ok (.aload_n 0, 1) := by decide +kernel
theorem dX12_readsGrammar_68 : decode cX12_readsGrammar 68 = .ok (.invokevirtual 248, 3) := by decide +kernel
theorem dX12_readsGrammar_71 : decode cX12_readsGrammar 71 = .ok (.istore_n 1, 1) := by decide +kernel
theorem dX12_readsGrammar_72 : decode cX12_readsGrammar 72 = .ok (.goto (-20), 3) := by decide +kernel
theorem dX12_readsGrammar_75 : decode cX12_readsGrammar 75 = .ok (.iload_n 1, 1) := by decide +kernel
theorem dX12_readsGrammar_76 : decode cX12_readsGrammar 76 = .ok (.ifCond .ne 4, 3) := by decide +kernel
theorem dX12_readsGrammar_79 : decode cX12_readsGrammar 79 = .ok (.return_, 1) := by decide +kernel
theorem dX12_readsGrammar_80 : decode cX12_readsGrammar 80 = .ok (.iconst (-1), 1) := by decide +kernel
theorem dX12_readsGrammar_81 : decode cX12_readsGrammar 81 = .ok (.istore_n 2, 1) := by decide +kernel
theorem dX12_readsGrammar_82 : decode cX12_readsGrammar 82 = .ok (.iconst 0, 1) := by decide +kernel
theorem dX12_readsGrammar_83 : decode cX12_readsGrammar 83 = .ok (.istore_n 3, 1) := by decide +kernel
theorem dX12_readsGrammar_84 : decode cX12_readsGrammar 84 = .ok (.iload_n 3, 1) := by decide +kernel
theorem dX12_readsGrammar_85 : decode cX12_readsGrammar 85 = .ok (.aload_n 0, 1) := by decide +kernel
theorem dX12_readsGrammar_86 : decode cX12_readsGrammar 86 = .ok (.getfield 227, 3) := by decide +kernel
theorem dX12_readsGrammar_89 : decode cX12_readsGrammar 89 = .ok (.if_icmp .ge 101, 3) := by decide +kernel
theorem dX12_readsGrammar_92 : decode cX12_readsGrammar 92 = .ok (.iconst 0, 1) := by decide +kernel
theorem dX12_readsGrammar_93 : decode cX12_readsGrammar 93 = .ok (.istore 4, 2) := by decide +kernel
theorem dX12_readsGrammar_95 : decode cX12_readsGrammar 95 = .ok (.iload 4, 2) := by decide +kernel
theorem dX12_readsGrammar_97 : decode cX12_readsGrammar 97 = .ok (.aload_n 0, 1) := by decide +kernel
theorem dX12_readsGrammar_98 : decode cX12_readsGrammar 98 = .ok (.getfield 26, 3) := by decide +kernel
theorem dX12_readsGrammar_101 : decode cX12_readsGrammar 101 = .ok (.iload_n 3, 1) := by decide +kernel
theorem dX12_readsGrammar_102 : decode cX12_readsGrammar 102 = .ok (.iaload, 1) := by decide +kernel
theorem dX12_readsGrammar_103 : decode cX12_readsGrammar 103 = .ok (.if_icmp .ge 81, 3) := by decide +kernel
theorem dX12_readsGrammar_106 : decode cX12_readsGrammar 106 = .ok (.aload_n 0, 1) := by decide +kernel
theorem dX12_readsGrammar_107 : decode cX12_readsGrammar 107 = .ok (.getfield 40, 3) := by decide +kernel
theorem dX12_readsGrammar_110 : decode cX12_readsGrammar 110 = .ok (.iload_n 3, 1) := by decide +kernel
theorem dX12_readsGrammar_111 : decode cX12_readsGrammar 111 = .ok (.aaload, 1) := by decide +kernel
theorem dX12_readsGrammar_112 : decode cX12_readsGrammar 112 = .ok (.iload 4, 2) := by decide +kernel
theorem dX12_readsGrammar_114 : decode cX12_readsGrammar 114 = .ok (.aload_n 0, 1) := by decide +kernel
theorem dX12_readsGrammar_115 : decode cX12_readsGrammar 115 = .ok (.aload_n 0, 1) := by decide +kernel
theorem dX12_readsGrammar_116 : decode cX12_readsGrammar 116 = .ok (.getfield 31, 3) := by decide +kernel
theorem dX12_readsGrammar_119 : decode cX12_readsGrammar 119 = .ok (.iload_n 3, 1) := by decide +kernel
theorem dX12_readsGrammar_120 : decode cX12_readsGrammar 120 = .ok (.aaload, 1) := by decide +kernel
theorem dX12_readsGrammar_121 : decode cX12_readsGrammar 121 = .ok (.iload 4, 2) := by decide +kernel
theorem dX12_readsGrammar_123 : decode cX12_readsGrammar 123 = .ok (.iaload, 1) := by decide +kernel
theorem dX12_readsGrammar_124 : decode cX12_readsGrammar 124 = .ok (.aload_n 0, 1) := by decide +kernel
theorem dX12_readsGrammar_125 : decode cX12_readsGrammar 125 = .ok (.getfield 34, 3) := by decide +kernel
theorem dX12_readsGrammar_128 : decode cX12_readsGrammar 128 = .ok (.iload_n 3, 1) := by decide +kernel
theorem dX12_readsGrammar_129 : decode cX12_readsGrammar 129 = .ok (.aaload, 1) := by decide +kernel
theorem dX12_readsGrammar_130 : decode cX12_readsGrammar 130 = .ok (.iload 4, 2) := by decide +kernel
theorem dX12_readsGrammar_132 : decode cX12_readsGrammar 132 = .ok (.iaload, 1) := by decide +kernel
theorem dX12_readsGrammar_133 : decode cX12_readsGrammar 133 = .ok (.invokevirtual 241, 3) := by decide +kernel
theorem dX12_readsGrammar_136 : decode cX12_readsGrammar 136 = .ok (.iastore, 1) := by decide +kernel
theorem dX12_readsGrammar_137 : decode cX12_readsGrammar 137 = .ok (.aload_n 0, 1) := by decide +kernel
theorem dX12_readsGrammar_138 : decode cX12_readsGrammar 138 = .ok (.getfield 40, 3) := by decide +kernel
theorem dX12_readsGrammar_141 : decode cX12_readsGrammar 141 = .ok (.iload_n 3, 1) := by decide +kernel
theorem dX12_readsGrammar_142 : decode cX12_readsGrammar 142 = .ok (.aaload, 1) := by decide +kernel
theorem dX12_readsGrammar_143 : decode cX12_readsGrammar 143 = .ok (.iload 4, 2) := by decide +kernel
theorem dX12_readsGrammar_145 : decode cX12_readsGrammar 145 = .ok (.iaload, 1) := by decide +kernel
theorem dX12_readsGrammar_146 : decode cX12_readsGrammar 146 = .ok (.iconst (-1), 1) := by decide +kernel
theorem dX12_readsGrammar_147 : decode cX12_readsGrammar 147 = .ok (.if_icmp .ne 31, 3) := by decide +kernel
theorem dX12_readsGrammar_150 : decode cX12_readsGrammar 150 = .ok (.iload_n 2, 1) := by decide +kernel
theorem dX12_readsGrammar_151 : decode cX12_readsGrammar 151 = .ok (.iconst (-1), 1) := by decide +kernel
theorem dX12_readsGrammar_152 : decode cX12_readsGrammar 152 = .ok (.if_icmp .eq 16, 3) := by decide +kernel
theorem dX12_readsGrammar_155 : decode cX12_readsGrammar 155 = .ok (.aload_n 0, 1) := by decide +kernel
theorem dX12_readsGrammar_156 : decode cX12_readsGrammar 156 = .ok (.getfield 31, 3) := by decide +kernel
theorem dX12_readsGrammar_159 : decode cX12_readsGrammar 159 = .ok (.iload_n 3, 1) := by decide +kernel
theorem dX12_readsGrammar_160 : decode cX12_readsGrammar 160 = .ok (.aaload, 1) := by decide +kernel
theorem dX12_readsGrammar_161 : decode cX12_readsGrammar 161 = .ok (.iload 4, 2) := by decide +kernel
theorem dX12_readsGrammar_163 : decode cX12_readsGrammar 163 = .ok (.iaload, 1) := by decide +kernel
theorem dX12_readsGrammar_164 : decode cX12_readsGrammar 164 = .ok (.iload_n 2, 1) := by decide +kernel
theorem dX12_readsGrammar_165 : decode cX12_readsGrammar 165 = .ok (.if_icmp .ge 13, 3) := by decide +kernel
theorem dX12_readsGrammar_168 : decode cX12_readsGrammar 168 = .ok (.aload_n 0, 1) := by decide +kernel
theorem dX12_readsGrammar_169 : decode cX12_readsGrammar 169 = .ok (.getfield 31, 3) := by decide +kernel
theorem dX12_readsGrammar_172 : decode cX12_readsGrammar 172 = .ok (.iload_n 3, 1) := by decide +kernel
theorem dX12_readsGrammar_173 : decode cX12_readsGrammar 173 = .ok (.aaload, 1) := by decide +kernel
theorem dX12_readsGrammar_174 : decode cX12_readsGrammar 174 = .ok (.iload 4, 2) := by decide +kernel
theorem dX12_readsGrammar_176 : decode cX12_readsGrammar 176 = .ok (.iaload, 1) := by decide +kernel
theorem dX12_readsGrammar_177 : decode cX12_readsGrammar 177 = .ok (.istore_n 2, 1) := by decide +kernel
theorem dX12_readsGrammar_178 : decode cX12_readsGrammar 178 = .ok (.iinc 4 1, 3) := by decide +kernel
theorem dX12_readsGrammar_181 : decode cX12_readsGrammar 181 = .ok (.goto (-86), 3) := by decide +kernel
theorem dX12_readsGrammar_184 : decode cX12_readsGrammar 184 = .ok (.iinc 3 1, 3) := by decide +kernel
theorem dX12_readsGrammar_187 : decode cX12_readsGrammar 187 = .ok (.goto (-103), 3) := by decide +kernel
theorem dX12_readsGrammar_190 : decode cX12_readsGrammar 190 = .ok (.aload_n 0, 1) := by decide +kernel
theorem dX12_readsGrammar_191 : decode cX12_readsGrammar 191 = .ok (.iload_n 2, 1) := by decide +kernel
theorem dX12_readsGrammar_192 : decode cX12_readsGrammar 192 = .ok (.putfield 193, 3) := by decide +kernel
theorem dX12_readsGrammar_195 : decode cX12_readsGrammar 195 = .ok (.return_, 1) := by decide +kernel
theorem dX12_readsNode_0 : decode cX12_readsNode 0 = .ok (.aload_n 0, 1) := by decide +kernel
theorem dX12_readsNode_1 : decode cX12_readsNode 1 = .ok (.getfield 179, 3) := by decide +kernel
theorem dX12_readsNode_4 : decode cX12_readsNode 4 = .ok (.aload_n 0, 1) := by decide +kernel
theorem dX12_readsNode_5 : decode cX12_readsNode 5 = .ok (.getfield 163, 3) := by decide +kernel
theorem dX12_readsNode_8 : decode cX12_readsNode 8 = .ok (.if_icmp .ge 34, 3) := by decide +kernel
theorem dX12_readsNode_11 : decode cX12_readsNode 11 = .ok (.aload_n 0, 1) := by decide +kernel
theorem dX12_readsNode_12 : decode cX12_readsNode 12 = .ok (.getfield 9, 3) := by decide +kernel
theorem dX12_readsNode_15 : decode cX12_readsNode 15 = .ok (.aload_n 0, 1) := by decide +kernel
theorem dX12_readsNode_16 : decode cX12_readsNode 16 = .ok (.getfield 179, 3) := by decide +kernel
theorem dX12_readsNode_19 : decode cX12_readsNode 19 = .ok (.baload, 1) := by decide +kernel
theorem dX12_readsNode_20 : decode cX12_readsNode 20 = .ok (.invokestatic 175, 3) := by decide +kernel
theorem dX12_readsNode_23 : decode cX12_readsNode 23 = .ok (.ifCond .eq 19, 3) := by decide +kernel
theorem dX12_readsNode_26 : decode cX12_readsNode 26 = .ok (.aload_n 0, 1) := by decide +kernel
theorem dX12_readsNode_27 : decode cX12_readsNode 27 = .ok (.aload_n 0, 1) := by decide +kernel
theorem dX12_readsNode_28 : decode cX12_readsNode 28 = .ok (.getfield 182, 3) := by decide +kernel
theorem dX12_readsNode_31 : decode cX12_readsNode 31 = .ok (.aload_n 0, 1) := by decide +kernel
theorem dX12_readsNode_32 : decode cX12_readsNode 32 = .ok (.getfield 179, 3) := by decide +kernel
theorem dX12_readsNode_35 : decode cX12_readsNode 35 = .ok (.isub, 1) := by decide +kernel
theorem dX12_readsNode_36 : decode cX12_readsNode 36 = .ok (.invokevirtual 254, 3) := by decide +kernel
theorem dX12_readsNode_39 : decode cX12_readsNode 39 = .ok (.goto 4, 3) := by decide +kernel
theorem dX12_readsNode_42 : decode cX12_readsNode 42 = .ok (.iconst (-1), 1) := by decide +kernel
theorem dX12_readsNode_43 : decode cX12_readsNode 43 = .ok (.istore_n 3, 1) := by decide +kernel
theorem dX12_readsNode_44 : decode cX12_readsNode 44 = .ok (.iload_n 3, 1) := by decide +kernel
theorem dX12_readsNode_45 : decode cX12_readsNode 45 = .ok (.iconst (-1), 1) := by decide +kernel
theorem dX12_readsNode_46 : decode cX12_readsNode 46 = .ok (.if_icmp .eq 12, 3) := by decide +kernel
theorem dX12_readsNode_49 : decode cX12_readsNode 49 = .ok (.aload_n 0, 1) := by decide +kernel
theorem dX12_readsNode_50 : decode cX12_readsNode 50 = .ok (.getfield 258, 3) := by decide +kernel
theorem dX12_readsNode_53 : decode cX12_readsNode 53 = .ok (.bipush 24, 2) := by decide +kernel
theorem dX12_readsNode_55 : decode cX12_readsNode 55 = .ok (.if_icmp .ne 8, 3) := by decide +kernel
theorem dX12_readsNode_58 : decode cX12_readsNode 58 = .ok (.aload_n 0, 1) := by decide +kernel
theorem dX12_readsNode_59 : decode cX12_readsNode 59 = .ok (.invokevirtual 196, 3) := by decide +kernel
theorem dX12_readsNode_62 : decode cX12_readsNode 62 = .ok (.ireturn, 1) := by decide +kernel
theorem dX12_readsNode_63 : decode cX12_readsNode 63 = .ok (.aload_n 0, 1) := by decide +kernel
theorem dX12_readsNode_64 : decode cX12_readsNode 64 = .ok (.getfield 258, 3) := by decide +kernel
theorem dX12_readsNode_67 : decode cX12_readsNode 67 = .ok (.istore 4, 2) := by decide +kernel
theorem dX12_readsNode_69 : decode cX12_readsNode 69 = .ok (.aload_n 0, 1) := by decide +kernel
theorem dX12_readsNode_70 : decode cX12_readsNode 70 = .ok (.dup, 1) := by decide +kernel
theorem dX12_readsNode_71 : decode cX12_readsNode 71 = .ok (.getfield 258, 3) := by decide +kernel
theorem dX12_readsNode_74 : decode cX12_readsNode 74 = .ok (.iconst 1, 1) := by decide +kernel
theorem dX12_readsNode_75 : decode cX12_readsNode 75 = .ok (.iadd, 1) := by decide +kernel
theorem dX12_readsNode_76 : decode cX12_readsNode 76 = .ok (.putfield 258, 3) := by decide +kernel
theorem dX12_readsNode_79 : decode cX12_readsNode 79 = .ok (.aload_n 0, 1) := by decide +kernel
theorem dX12_readsNode_80 : decode cX12_readsNode 80 = .ok (.getfield 65, 3) := by decide +kernel
theorem dX12_readsNode_83 : decode cX12_readsNode 83 = .ok (.iload 4, 2) := by decide +kernel
theorem dX12_readsNode_85 : decode cX12_readsNode 85 = .ok (.iload_n 3, 1) := by decide +kernel
theorem dX12_readsNode_86 : decode cX12_readsNode 86 = .ok (.iastore, 1) := by decide +kernel
theorem dX12_readsNode_87 : decode cX12_readsNode 87 = .ok (.aload_n 0, 1) := by decide +kernel
theorem dX12_readsNode_88 : decode cX12_readsNode 88 = .ok (.getfield 45, 3) := by decide +kernel
theorem dX12_readsNode_91 : decode cX12_readsNode 91 = .ok (.bipush 15, 2) := by decide +kernel
theorem dX12_readsNode_93 : decode cX12_readsNode 93 = .ok (.aaload, 1) := by decide +kernel
theorem dX12_readsNode_94 : decode cX12_readsNode 94 = .ok (.iload 4, 2) := by decide +kernel
theorem dX12_readsNode_96 : decode cX12_readsNode 96 = .ok (.iconst 1, 1) := by decide +kernel
theorem dX12_readsNode_97 : decode cX12_readsNode 97 = .ok (.bastore, 1) := by decide +kernel
theorem dX12_readsNode_98 : decode cX12_readsNode 98 = .ok (.aload_n 0, 1) := by decide +kernel
theorem dX12_readsNode_99 : decode cX12_readsNode 99 = .ok (.getfield 53, 3) := by decide +kernel
theorem dX12_readsNode_102 : decode cX12_readsNode 102 = .ok (.bipush 15, 2) := by decide +kernel
theorem dX12_readsNode_104 : decode cX12_readsNode 104 = .ok (.aaload, 1) := by decide +kernel
theorem dX12_readsNode_105 : decode cX12_readsNode 105 = .ok (.iload 4, 2) := by decide +kernel
theorem dX12_readsNode_107 : decode cX12_readsNode 107 = .ok (.iload_n 1, 1) := by decide +kernel
theorem dX12_readsNode_108 : decode cX12_readsNode 108 = .ok (.iastore, 1) := by decide +kernel
theorem dX12_readsNode_109 : decode cX12_readsNode 109 = .ok (.aload_n 0, 1) := by decide +kernel
theorem dX12_readsNode_110 : decode cX12_readsNode 110 = .ok (.getfield 56, 3) := by decide +kernel
theorem dX12_readsNode_113 : decode cX12_readsNode 113 = .ok (.bipush 15, 2) := by decide +kernel
theorem dX12_readsNode_115 : decode cX12_readsNode 115 = .ok (.aaload, 1) := by decide +kernel
theorem dX12_readsNode_116 : decode cX12_readsNode 116 = .ok (.iload 4, 2) := by decide +kernel
theorem dX12_readsNode_118 : decode cX12_readsNode 118 = .ok (.iload 4, 2) := by decide +kernel
theorem dX12_readsNode_120 : decode cX12_readsNode 120 = .ok (.iastore, 1) := by decide +kernel
theorem dX12_readsNode_121 : decode cX12_readsNode 121 = .ok (.aload_n 0, 1) := by decide +kernel
theorem dX12_readsNode_122 : decode cX12_readsNode 122 = .ok (.getfield 50, 3) := by decide +kernel
theorem dX12_readsNode_125 : decode cX12_readsNode 125 = .ok (.bipush 15, 2) := by decide +kernel
theorem dX12_readsNode_127 : decode cX12_readsNode 127 = .ok (.aaload, 1) := by decide +kernel
theorem dX12_readsNode_128 : decode cX12_readsNode 128 = .ok (.iload 4, 2) := by decide +kernel
theorem dX12_readsNode_130 : decode cX12_readsNode 130 = .ok (.lconst 0, 1) := by decide +kernel
theorem dX12_readsNode_131 : decode cX12_readsNode 131 = .ok (.lastore, 1) := by decide +kernel
theorem dX12_readsNode_132 : decode cX12_readsNode 132 = .ok (.aload_n 0, 1) := by decide +kernel
theorem dX12_readsNode_133 : decode cX12_readsNode 133 = .ok (.invokevirtual 200, 3) := by decide +kernel
theorem dX12_readsNode_136 : decode cX12_readsNode 136 = .ok (.aload_n 0, 1) := by decide +kernel
theorem dX12_readsNode_137 : decode cX12_readsNode 137 = .ok (.invokevirtual 261, 3) := by decide +kernel
theorem dX12_readsNode_140 : decode cX12_readsNode 140 = .ok (.ifCond .eq 16, 3) := by decide +kernel
theorem dX12_readsNode_143 : decode cX12_readsNode 143 = .ok (.aload_n 0, 1) := by decide +kernel
theorem dX12_readsNode_144 : decode cX12_readsNode 144 = .ok (.aload_n 0, 1) := by decide +kernel
theorem dX12_readsNode_145 : decode cX12_readsNode 145 = .ok (.getfield 163, 3) := by decide +kernel
theorem dX12_readsNode_148 : decode cX12_readsNode 148 = .ok (.putfield 179, 3) := by decide +kernel
theorem dX12_readsNode_151 : decode cX12_readsNode 151 = .ok (.aload_n 0, 1) := by decide +kernel
theorem dX12_readsNode_152 : decode cX12_readsNode 152 = .ok (.invokevirtual 196, 3) := by decide +kernel
theorem dX12_readsNode_155 : decode cX12_readsNode 155 = .ok (.ireturn, 1) := by decide +kernel
theorem dX12_readsNode_156 : decode cX12_readsNode 156 = .ok (.aload_n 0, 1) := by decide +kernel
theorem dX12_readsNode_157 : decode cX12_readsNode 157 = .ok (.invokevirtual 224, 3) := by decide +kernel
theorem dX12_readsNode_160 : decode cX12_readsNode 160 = .ok (.ifCond .eq 21, 3) := by decide +kernel
theorem dX12_readsNode_163 : decode cX12_readsNode 163 = .ok (.aload_n 0, 1) := by decide +kernel
theorem dX12_readsNode_164 : decode cX12_readsNode 164 = .ok (.getfield 50, 3) := by decide +kernel
theorem dX12_readsNode_167 : decode cX12_readsNode 167 = .ok (.bipush 15, 2) := by decide +kernel
theorem dX12_readsNode_169 : decode cX12_readsNode 169 = .ok (.aaload, 1) := by decide +kernel
theorem dX12_readsNode_170 : decode cX12_readsNode 170 = .ok (.iload 4, 2) := by decide +kernel
theorem dX12_readsNode_172 : decode cX12_readsNode 172 = .ok (.aload_n 0, 1) := by decide +kernel
theorem dX12_readsNode_173 : decode cX12_readsNode 173 = .ok (.invokevirtual 264, 3) := by decide +kernel
theorem dX12_readsNode_176 : decode cX12_readsNode 176 = .ok (.lastore, 1) := by decide +kernel
theorem dX12_readsNode_177 : decode cX12_readsNode 177 = .ok (.aload_n 0, 1) := by decide +kernel
theorem dX12_readsNode_178 : decode cX12_readsNode 178 = .ok (.invokevirtual 200, 3) := by decide +kernel
theorem dX12_readsNode_181 : decode cX12_readsNode 181 = .ok (.aload_n 0, 1) := by decide +kernel
theorem dX12_readsNode_182 : decode cX12_readsNode 182 = .ok (.bipush 40, 2) := by decide +kernel
theorem dX12_readsNode_184 : decode cX12_readsNode 184 = .ok (.invokevirtual 221, 3) := by decide +kernel
theorem dX12_readsNode_187 : decode cX12_readsNode 187 = .ok (.ifCond .ne 5, 3) := by decide +kernel
theorem dX12_readsNode_190 : decode cX12_readsNode 190 = .ok (.iconst 1, 1) := by decide +kernel
theorem dX12_readsNode_191 : decode cX12_readsNode 191 = .ok (.ireturn, 1) := by decide +kernel
theorem dX12_readsNode_192 : decode cX12_readsNode 192 = .ok (.aload_n 0, 1) := by decide +kernel
theorem dX12_readsNode_193 : decode cX12_readsNode 193 = .ok (.iload_n 2, 1) := by decide +kernel
theorem dX12_readsNode_194 : decode cX12_readsNode 194 = .ok (.bipush 8, 2) := by decide +kernel
theorem dX12_readsNode_196 : decode cX12_readsNode 196 = .ok (.if_icmp .ge 7, 3) := by decide +kernel
theorem dX12_readsNode_199 : decode cX12_readsNode 199 = .ok (.iconst 1, 1) := by decide +kernel
theorem dX12_readsNode_200 : decode cX12_readsNode 200 = .ok (.goto 4, 3) := by decide +kernel
theorem dX12_readsNode_203 : decode cX12_readsNode 203 = .ok (.iconst 0, 1) := by decide +kernel
theorem dX12_readsNode_204 : decode cX12_readsNode 204 = .ok (.invokevirtual 237, 3) := by decide +kernel
theorem dX12_readsNode_207 : decode cX12_readsNode 207 = .ok (.ifCond .ne 5, 3) := by decide +kernel
theorem dX12_readsNode_210 : decode cX12_readsNode 210 = .ok (.iconst 0, 1) := by decide +kernel
theorem dX12_readsNode_211 : decode cX12_readsNode 211 = .ok (.ireturn, 1) := by decide +kernel
theorem dX12_readsNode_212 : decode cX12_readsNode 212 = .ok (.aload_n 0, 1) := by decide +kernel
theorem dX12_readsNode_213 : decode cX12_readsNode 213 = .ok (.iload 4, 2) := by decide +kernel
theorem dX12_readsNode_215 : decode cX12_readsNode 215 = .ok (.iload_n 2, 1) := by decide +kernel
theorem dX12_readsNode_216 : decode cX12_readsNode 216 = .ok (.iconst 1, 1) := by decide +kernel
theorem dX12_readsNode_217 : decode cX12_readsNode 217 = .ok (.iadd, 1) := by decide +kernel
theorem dX12_readsNode_218 : decode cX12_readsNode 218 = .ok (.invokevirtual 268, 3) := by decide +kernel
theorem dX12_readsNode_221 : decode cX12_readsNode 221 = .ok (.istore 5, 2) := by decide +kernel
theorem dX12_readsNode_223 : decode cX12_readsNode 223 = .ok (.iload 5, 2) := by decide +kernel
theorem dX12_readsNode_225 : decode cX12_readsNode 225 = .ok (.ifCond .eq 26, 3) := by decide +kernel
theorem dX12_readsNode_228 : decode cX12_readsNode 228 = .ok (.aload_n 0, 1) := by decide +kernel
theorem dX12_readsNode_229 : decode cX12_readsNode 229 = .ok (.bipush 41, 2) := by decide +kernel
theorem dX12_readsNode_231 : decode cX12_readsNode 231 = .ok (.invokevirtual 221, 3) := by decide +kernel
theorem dX12_readsNode_234 : decode cX12_readsNode 234 = .ok (.ifCond .ne 17, 3) := by decide +kernel
theorem dX12_readsNode_237 : decode cX12_readsNode 237 = .ok (.aload_n 0, 1) := by decide +kernel
theorem dX12_readsNode_238 : decode cX12_readsNode 238 = .ok (.iload 4, 2) := by decide +kernel
theorem dX12_readsNode_240 : decode cX12_readsNode 240 = .ok (.iload_n 2, 1) := by decide +kernel
theorem dX12_readsNode_241 : decode cX12_readsNode 241 = .ok (.iconst 1, 1) := by decide +kernel
theorem dX12_readsNode_242 : decode cX12_readsNode 242 = .ok (.iadd, 1) := by decide +kernel
theorem dX12_readsNode_243 : decode cX12_readsNode 243 = .ok (.invokevirtual 268, 3) := by decide +kernel
theorem dX12_readsNode_246 : decode cX12_readsNode 246 = .ok (.istore 5, 2) := by decide +kernel
theorem dX12_readsNode_248 : decode cX12_readsNode 248 = .ok (.goto (-25), 3) := by decide +kernel
theorem dX12_readsNode_251 : decode cX12_readsNode 251 = .ok (.iload 5, 2) := by decide +kernel
theorem dX12_readsNode_253 : decode cX12_readsNode 253 = .ok (.ifCond .eq 15, 3) := by decide +kernel
theorem dX12_readsNode_256 : decode cX12_readsNode 256 = .ok (.aload_n 0, 1) := by decide +kernel
theorem dX12_readsNode_257 : decode cX12_readsNode 257 = .ok (.iconst 1, 1) := by decide +kernel
theorem dX12_readsNode_258 : decode cX12_readsNode 258 = .ok (.invokevirtual 237, 3) := by decide +kernel
theorem dX12_readsNode_261 : decode cX12_readsNode 261 = .ok (.ifCond .eq 7, 3) := by decide +kernel
theorem dX12_readsNode_264 : decode cX12_readsNode 264 = .ok (.iconst 1, 1) := by decide +kernel
theorem dX12_readsNode_265 : decode cX12_readsNode 265 = .ok (.goto 4, 3) := by decide +kernel
theorem dX12_readsNode_268 : decode cX12_readsNode 268 = .ok (.iconst 0, 1) := by decide +kernel
theorem dX12_readsNode_269 : decode cX12_readsNode 269 = .ok (.ireturn, 1) := by decide +kernel
theorem dX12_readsTree_0 : decode cX12_readsTree 0 = .ok (.aload_n 0, 1) := by decide +kernel
theorem dX12_readsTree_1 : decode cX12_readsTree 1 = .ok (.iconst (-1), 1) := by decide +kernel
theorem dX12_readsTree_2 : decode cX12_readsTree 2 = .ok (.putfield 193, 3) := by decide +kernel
theorem dX12_readsTree_5 : decode cX12_readsTree 5 = .ok (.aload_n 0, 1) := by decide +kernel
theorem dX12_readsTree_6 : decode cX12_readsTree 6 = .ok (.iconst 0, 1) := by decide +kernel
theorem dX12_readsTree_7 : decode cX12_readsTree 7 = .ok (.putfield 258, 3) := by decide +kernel
theorem dX12_readsTree_10 : decode cX12_readsTree 10 = .ok (.iconst 0, 1) := by decide +kernel
theorem dX12_readsTree_11 : decode cX12_readsTree 11 = .ok (.istore_n 1, 1) := by decide +kernel
theorem dX12_readsTree_12 : decode cX12_readsTree 12 = .ok (.iload_n 1, 1) := by decide +kernel
theorem dX12_readsTree_13 : decode cX12_readsTree 13 = .ok (.sipush 150, 3) := by decide +kernel
theorem dX12_readsTree_16 : decode cX12_readsTree 16 = .ok (.if_icmp .ge 19, 3) := by decide +kernel
theorem dX12_readsTree_19 : decode cX12_readsTree 19 = .ok (.aload_n 0, 1) := by decide +kernel
theorem dX12_readsTree_20 : decode cX12_readsTree 20 = .ok (.getfield 45, 3) := by decide +kernel
theorem dX12_readsTree_23 : decode cX12_readsTree 23 = .ok (.bipush 15, 2) := by decide +kernel
theorem dX12_readsTree_25 : decode cX12_readsTree 25 = .ok (.aaload, 1) := by decide +kernel
theorem dX12_readsTree_26 : decode cX12_readsTree 26 = .ok (.iload_n 1, 1) := by decide +kernel
theorem dX12_readsTree_27 : decode cX12_readsTree 27 = .ok (.iconst 0, 1) := by decide +kernel
theorem dX12_readsTree_28 : decode cX12_readsTree 28 = .ok (.bastore, 1) := by decide +kernel
theorem dX12_readsTree_29 : decode cX12_readsTree 29 = .ok (.iinc 1 1, 3) := by decide +kernel
theorem dX12_readsTree_32 : decode cX12_readsTree 32 = .ok (.goto (-20), 3) := by decide +kernel
theorem dX12_readsTree_35 : decode cX12_readsTree 35 = .ok (.aload_n 0, 1) := by decide +kernel
theorem dX12_readsTree_36 : decode cX12_readsTree 36 = .ok (.iconst 0, 1) := by decide +kernel
theorem dX12_readsTree_37 : decode cX12_readsTree 37 = .ok (.putfield 179, 3) := by decide +kernel
theorem dX12_readsTree_40 : decode cX12_readsTree 40 = .ok (.aload_n 0, 1) := by decide +kernel
theorem dX12_readsTree_41 : decode cX12_readsTree 41 = .ok (.invokevirtual 190, 3) := by decide +kernel
theorem dX12_readsTree_44 : decode cX12_readsTree 44 = .ok (.aload_n 0, 1) := by decide +kernel
theorem dX12_readsTree_45 : decode cX12_readsTree 45 = .ok (.iconst (-1), 1) := by decide +kernel
theorem dX12_readsTree_46 : decode cX12_readsTree 46 = .ok (.iconst 1, 1) := by decide +kernel
theorem dX12_readsTree_47 : decode cX12_readsTree 47 = .ok (.invokevirtual 268, 3) := by decide +kernel
theorem dX12_readsTree_50 : decode cX12_readsTree 50 = .ok (.istore_n 1, 1) := by decide +kernel
theorem dX12_readsTree_51 : decode cX12_readsTree 51 = .ok (.iload_n 1, 1) := by decide +kernel
theorem dX12_readsTree_52 : decode cX12_readsTree 52 = .ok (.ifCond .eq 19, 3) := by decide +kernel
theorem dX12_readsTree_55 : decode cX12_readsTree 55 = .ok (.aload_n 0, 1) := by decide +kernel
theorem dX12_readsTree_56 : decode cX12_readsTree 56 = .ok (.getfield 179, 3) := by decide +kernel
theorem dX12_readsTree_59 : decode cX12_readsTree 59 = .ok (.aload_n 0, 1) := by decide +kernel
theorem dX12_readsTree_60 : decode cX12_readsTree 60 = .ok (.getfield 163, 3) := by decide +kernel
theorem dX12_readsTree_63 : decode cX12_readsTree 63 = .ok (.if_icmp .ge 8, 3) := by decide +kernel
theorem dX12_readsTree_66 : decode cX12_readsTree 66 = .ok (.aload_n 0, 1) := by decide +kernel
theorem dX12_readsTree_67 : decode cX12_readsTree 67 = .ok (.invokevirtual 196, 3) := by decide +kernel
theorem dX12_readsTree_70 : decode cX12_readsTree 70 = .ok (.istore_n 1, 1) := by decide +kernel
theorem dX12_readsTree_71 : decode cX12_readsTree 71 = .ok (.iload_n 1, 1) := by decide +kernel
theorem dX12_readsTree_72 : decode cX12_readsTree 72 = .ok (.ifCond .eq 7, 3) := by decide +kernel
theorem dX12_readsTree_75 : decode cX12_readsTree 75 = .ok (.aload_n 0, 1) := by decide +kernel
theorem dX12_readsTree_76 : decode cX12_readsTree 76 = .ok (.invokevirtual 272, 3) := by decide +kernel
theorem dX12_readsTree_79 : decode cX12_readsTree 79 = .ok (.return_, 1) := by decide +kernel
theorem dX12_rename_0 : decode cX12_rename 0 = .ok (.aload_n 0, 1) := by decide +kernel
theorem dX12_rename_1 : decode cX12_rename 1 = .ok (.iload_n 1, 1) := by decide +kernel
theorem dX12_rename_2 : decode cX12_rename 2 = .ok (.invokevirtual 425, 3) := by decide +kernel
theorem dX12_rename_5 : decode cX12_rename 5 = .ok (.ifCond .eq 27, 3) := by decide +kernel
theorem dX12_rename_8 : decode cX12_rename 8 = .ok (.lload_n 2, 1) := by decide +kernel
theorem dX12_rename_9 : decode cX12_rename 9 = .ok (.invokestatic 428, 3) := by decide +kernel
theorem dX12_rename_12 : decode cX12_rename 12 = .ok (.ifCond .eq 20, 3) := by decide +kernel
theorem dX12_rename_15 : decode cX12_rename 15 = .ok (.lload_n 2, 1) := by decide +kernel
theorem dX12_rename_16 : decode cX12_rename 16 = .ok (.invokestatic 435, 3) := by decide +kernel
theorem dX12_rename_19 : decode cX12_rename 19 = .ok (.aload_n 0, 1) := by decide +kernel
theorem dX12_rename_20 : decode cX12_rename 20 = .ok (.getfield 50, 3) := by decide +kernel
theorem dX12_rename_23 : decode cX12_rename 23 = .ok (.bipush 12, 2) := by decide +kernel
theorem dX12_rename_25 : decode cX12_rename 25 = .ok (.aaload, 1) := by decide +kernel
theorem dX12_rename_26 : decode cX12_rename 26 = .ok (.iload_n 1, 1) := by decide +kernel
theorem dX12_rename_27 : decode cX12_rename 27 = .ok (.laload, 1) := by decide +kernel
theorem dX12_rename_28 : decode cX12_rename 28 = .ok (.lcmp, 1) := by decide +kernel
theorem dX12_rename_29 : decode cX12_rename 29 = .ok (.ifCond .ne 5, 3) := by decide +kernel
theorem dX12_rename_32 : decode cX12_rename 32 = .ok (.iconst 0, 1) := by decide +kernel
theorem dX12_rename_33 : decode cX12_rename 33 = .ok (.ireturn, 1) := by decide +kernel
theorem dX12_rename_34 : decode cX12_rename 34 = .ok (.aload_n 0, 1) := by decide +kernel
theorem dX12_rename_35 : decode cX12_rename 35 = .ok (.getfield 50, 3) := by decide +kernel
theorem dX12_rename_38 : decode cX12_rename 38 = .ok (.bipush 12, 2) := by decide +kernel
theorem dX12_rename_40 : decode cX12_rename 40 = .ok (.aaload, 1) := by decide +kernel
theorem dX12_rename_41 : decode cX12_rename 41 = .ok (.iload_n 1, 1) := by decide +kernel
theorem dX12_rename_42 : decode cX12_rename 42 = .ok (.lload_n 2, 1) := by decide +kernel
theorem dX12_rename_43 : decode cX12_rename 43 = .ok (.invokestatic 435, 3) := by decide +kernel
theorem dX12_rename_46 : decode cX12_rename 46 = .ok (.lastore, 1) := by decide +kernel
theorem dX12_rename_47 : decode cX12_rename 47 = .ok (.aload_n 0, 1) := by decide +kernel
theorem dX12_rename_48 : decode cX12_rename 48 = .ok (.bipush 12, 2) := by decide +kernel
theorem dX12_rename_50 : decode cX12_rename 50 = .ok (.invokevirtual 275, 3) := by decide +kernel
theorem dX12_rename_53 : decode cX12_rename 53 = .ok (.iconst 1, 1) := by decide +kernel
theorem dX12_rename_54 : decode cX12_rename 54 = .ok (.ireturn, 1) := by decide +kernel
theorem dX12_root_0 : decode cX12_root 0 = .ok (.iconst 0, 1) := by decide +kernel
theorem dX12_root_1 : decode cX12_root 1 = .ok (.istore_n 2, 1) := by decide +kernel
theorem dX12_root_2 : decode cX12_root 2 = .ok (.iload_n 2, 1) := by decide +kernel
theorem dX12_root_3 : decode cX12_root 3 = .ok (.sipush 150, 3) := by decide +kernel
theorem dX12_root_6 : decode cX12_root 6 = .ok (.if_icmp .ge 34, 3) := by decide +kernel
theorem dX12_root_9 : decode cX12_root 9 = .ok (.aload_n 0, 1) := by decide +kernel
theorem dX12_root_10 : decode cX12_root 10 = .ok (.getfield 45, 3) := by decide +kernel
theorem dX12_root_13 : decode cX12_root 13 = .ok (.iload_n 1, 1) := by decide +kernel
theorem dX12_root_14 : decode cX12_root 14 = .ok (.aaload, 1) := by decide +kernel
theorem dX12_root_15 : decode cX12_root 15 = .ok (.iload_n 2, 1) := by decide +kernel
theorem dX12_root_16 : decode cX12_root 16 = .ok (.baload, 1) := by decide +kernel
theorem dX12_root_17 : decode cX12_root 17 = .ok (.ifCond .eq 17, 3) := by decide +kernel
theorem dX12_root_20 : decode cX12_root 20 = .ok (.aload_n 0, 1) := by decide +kernel
theorem dX12_root_21 : decode cX12_root 21 = .ok (.getfield 53, 3) := by decide +kernel
theorem dX12_root_24 : decode cX12_root 24 = .ok (.iload_n 1, 1) := by decide +kernel
theorem dX12_root_25 : decode cX12_root 25 = .ok (.aaload, 1) := by decide +kernel
theorem dX12_root_26 : decode cX12_root 26 = .ok (.iload_n 2, 1) := by decide +kernel
theorem dX12_root_27 : decode cX12_root 27 = .ok (.iaload, 1) := by decide +kernel
theorem dX12_root_28 : decode cX12_root 28 = .ok (.iconst (-1), 1) := by decide +kernel
theorem dX12_root_29 : decode cX12_root 29 = .ok (.if_icmp .ne 5, 3) := by decide +kernel
theorem dX12_root_32 : decode cX12_root 32 = .ok (.iload_n 2, 1) := by decide +kernel
theorem dX12_root_33 : decode cX12_root 33 = .ok (.ireturn, 1) := by decide +kernel
theorem dX12_root_34 : decode cX12_root 34 = .ok (.iinc 2 1, 3) := by decide +kernel
theorem dX12_root_37 : decode cX12_root 37 = .ok (.goto (-35), 3) := by decide +kernel
theorem dX12_root_40 : decode cX12_root 40 = .ok (.iconst (-1), 1) := by decide +kernel
theorem dX12_root_41 : decode cX12_root 41 = .ok (.ireturn, 1) := by decide +kernel
theorem dX12_rounds_0 : decode cX12_rounds 0 = .ok (.iconst 1, 1) := by decide +kernel
theorem dX12_rounds_1 : decode cX12_rounds 1 = .ok (.istore_n 2, 1) := by decide +kernel
theorem dX12_rounds_2 : decode cX12_rounds 2 = .ok (.iload_n 2, 1) := by decide +kernel
theorem dX12_rounds_3 : decode cX12_rounds 3 = .ok (.iconst 4, 1) := by decide +kernel
theorem dX12_rounds_4 : decode cX12_rounds 4 = .ok (.if_icmp .gt 119, 3) := by decide +kernel
theorem dX12_rounds_7 : decode cX12_rounds 7 = .ok (.iconst 0, 1) := by decide +kernel
theorem dX12_rounds_8 : decode cX12_rounds 8 = .ok (.istore_n 3, 1) := by decide +kernel
theorem dX12_rounds_9 : decode cX12_rounds 9 = .ok (.iload_n 3, 1) := by decide +kernel
theorem dX12_rounds_10 : decode cX12_rounds 10 = .ok (.aload_n 0, 1) := by decide +kernel
theorem dX12_rounds_11 : decode cX12_rounds 11 = .ok (.getfield 354, 3) := by decide +kernel
theorem dX12_rounds_14 : decode cX12_rounds 14 = .ok (.if_icmp .ge 103, 3) := by decide +kernel
theorem dX12_rounds_17 : decode cX12_rounds 17 = .ok (.aload_n 0, 1) := by decide +kernel
theorem dX12_rounds_18 : decode cX12_rounds 18 = .ok (.getfield 127, 3) := by decide +kernel
theorem dX12_rounds_21 : decode cX12_rounds 21 = .ok (.iload_n 3, 1) := by decide +kernel
theorem dX12_rounds_22 : decode cX12_rounds 22 = .ok (.iaload, 1) := by decide +kernel
theorem dX12_rounds_23 : decode cX12_rounds 23 = .ok (.iconst (-1), 1) := by decide +kernel
theorem dX12_rounds_24 : decode cX12_rounds 24 = .ok (.if_icmp .eq 6, 3) := by decide +kernel
theorem dX12_rounds_27 : decode cX12_rounds 27 = .ok (.goto 84, 3) := by decide +kernel
theorem dX12_rounds_30 : decode cX12_rounds 30 = .ok (.iconst 0, 1) := by decide +kernel
theorem dX12_rounds_31 : decode cX12_rounds 31 = .ok (.istore 4, 2) := by decide +kernel
theorem dX12_rounds_33 : decode cX12_rounds 33 = .ok (.iload 4, 2) := by decide +kernel
theorem dX12_rounds_35 : decode cX12_rounds 35 = .ok (.aload_n 0, 1) := by decide +kernel
theorem dX12_rounds_36 : decode cX12_rounds 36 = .ok (.getfield 258, 3) := by decide +kernel
theorem dX12_rounds_39 : decode cX12_rounds 39 = .ok (.if_icmp .ge 32, 3) := by decide +kernel
theorem dX12_rounds_42 : decode cX12_rounds 42 = .ok (.aload_n 0, 1) := by decide +kernel
theorem dX12_rounds_43 : decode cX12_rounds 43 = .ok (.getfield 130, 3) := by decide +kernel
theorem dX12_rounds_46 : decode cX12_rounds 46 = .ok (.iload 4, 2) := by decide +kernel
theorem dX12_rounds_48 : decode cX12_rounds 48 = .ok (.iaload, 1) := by decide +kernel
theorem dX12_rounds_49 : decode cX12_rounds 49 = .ok (.iconst (-1), 1) := by decide +kernel
theorem dX12_rounds_50 : decode cX12_rounds 50 = .ok (.if_icmp .ne 15, 3) := by decide +kernel
theorem dX12_rounds_53 : decode cX12_rounds 53 = .ok (.aload_n 0, 1) := by decide +kernel
theorem dX12_rounds_54 : decode cX12_rounds 54 = .ok (.iload_n 1, 1) := by decide +kernel
theorem dX12_rounds_55 : decode cX12_rounds 55 = .ok (.iload_n 2, 1) := by decide +kernel
theorem dX12_rounds_56 : decode cX12_rounds 56 = .ok (.iload_n 3, 1) := by decide +kernel
theorem dX12_rounds_57 : decode cX12_rounds 57 = .ok (.iload 4, 2) := by decide +kernel
theorem dX12_rounds_59 : decode cX12_rounds 59 = .ok (.invokevirtual 383, 3) := by decide +kernel
theorem dX12_rounds_62 : decode cX12_rounds 62 = .ok (.ifCond .ne 9, 3) := by decide +kernel
theorem dX12_rounds_65 : decode cX12_rounds 65 = .ok (.iinc 4 1, 3) := by decide +kernel
theorem dX12_rounds_68 : decode cX12_rounds 68 = .ok (.goto (-35), 3) := by decide +kernel
theorem dX12_rounds_71 : decode cX12_rounds 71 = .ok (.iload 4, 2) := by decide +kernel
theorem dX12_rounds_73 : decode cX12_rounds 73 = .ok (.aload_n 0, 1) := by decide +kernel
theorem dX12_rounds_74 : decode cX12_rounds 74 = .ok (.getfield 258, 3) := by decide +kernel
theorem dX12_rounds_77 : decode cX12_rounds 77 = .ok (.if_icmp .ne 6, 3) := by decide +kernel
theorem dX12_rounds_80 : decode cX12_rounds 80 = .ok (.goto 31, 3) := by decide +kernel
theorem dX12_rounds_83 : decode cX12_rounds 83 = .ok (.iload_n 2, 1) := by decide +kernel
theorem dX12_rounds_84 : decode cX12_rounds 84 = .ok (.iconst 1, 1) := by decide +kernel
theorem dX12_rounds_85 : decode cX12_rounds 85 = .ok (.if_icmp .ne 19, 3) := by decide +kernel
theorem dX12_rounds_88 : decode cX12_rounds 88 = .ok (.aload_n 0, 1) := by decide +kernel
theorem dX12_rounds_89 : decode cX12_rounds 89 = .ok (.iload_n 1, 1) := by decide +kernel
theorem dX12_rounds_90 : decode cX12_rounds 90 = .ok (.aload_n 0, 1) := by decide +kernel
theorem dX12_rounds_91 : decode cX12_rounds 91 = .ok (.getfield 124, 3) := by decide +kernel
theorem dX12_rounds_94 : decode cX12_rounds 94 = .ok (.iload_n 3, 1) := by decide +kernel
theorem dX12_rounds_95 : decode cX12_rounds 95 = .ok (.iaload, 1) := by decide +kernel
theorem dX12_rounds_96 : decode cX12_rounds 96 = .ok (.iload 4, 2) := by decide +kernel
theorem dX12_rounds_98 : decode cX12_rounds 98 = .ok (.invokevirtual 379, 3) := by decide +kernel
theorem dX12_rounds_101 : decode cX12_rounds 101 = .ok (.goto 10, 3) := by decide +kernel
theorem dX12_rounds_104 : decode cX12_rounds 104 = .ok (.aload_n 0, 1) := by decide +kernel
theorem dX12_rounds_105 : decode cX12_rounds 105 = .ok (.iload_n 3, 1) := by decide +kernel
theorem dX12_rounds_106 : decode cX12_rounds 106 = .ok (.iload 4, 2) := by decide +kernel
theorem dX12_rounds_108 : decode cX12_rounds 108 = .ok (.invokevirtual 369, 3) := by decide +kernel
theorem dX12_rounds_111 : decode cX12_rounds 111 = .ok (.iinc 3 1, 3) := by decide +kernel
theorem dX12_rounds_114 : decode cX12_rounds 114 = .ok (.goto (-105), 3) := by decide +kernel
theorem dX12_rounds_117 : decode cX12_rounds 117 = .ok (.iinc 2 1, 3) := by decide +kernel
theorem dX12_rounds_120 : decode cX12_rounds 120 = .ok (.goto (-118), 3) := by decide +kernel
theorem dX12_rounds_123 : decode cX12_rounds 123 = .ok (.return_, 1) := by decide +kernel
theorem dX12_ruleRead_0 : decode cX12_ruleRead 0 = .ok (.aload_n 0, 1) := by decide +kernel
theorem dX12_ruleRead_1 : decode cX12_ruleRead 1 = .ok (.getfield 227, 3) := by decide +kernel
theorem dX12_ruleRead_4 : decode cX12_ruleRead 4 = .ok (.bipush 10, 2) := by decide +kernel
theorem dX12_ruleRead_6 : decode cX12_ruleRead 6 = .ok (.if_icmp .eq 31, 3) := by decide +kernel
theorem dX12_ruleRead_9 : decode cX12_ruleRead 9 = .ok (.aload_n 0, 1) := by decide +kernel
theorem dX12_ruleRead_10 : decode cX12_ruleRead 10 = .ok (.invokevirtual 234, 3) := by decide +kernel
theorem dX12_ruleRead_13 : decode cX12_ruleRead 13 = .ok (.ifCond .eq 24, 3) := by decide +kernel
theorem dX12_ruleRead_16 : decode cX12_ruleRead 16 = .ok (.aload_n 0, 1) := by decide +kernel
theorem dX12_ruleRead_17 : decode cX12_ruleRead 17 = .ok (.aload_n 0, 1) := by decide +kernel
theorem dX12_ruleRead_18 : decode cX12_ruleRead 18 = .ok (.getfield 179, 3) := by decide +kernel
theorem dX12_ruleRead_21 : decode cX12_ruleRead 21 = .ok (.aload_n 0, 1) := by decide +kernel
theorem dX12_ruleRead_22 : decode cX12_ruleRead 22 = .ok (.getfield 182, 3) := by decide +kernel
theorem dX12_ruleRead_25 : decode cX12_ruleRead 25 = .ok (.aload_n 0, 1) := by decide +kernel
theorem dX12_ruleRead_26 : decode cX12_ruleRead 26 = .ok (.getfield 179, 3) := by decide +kernel
theorem dX12_ruleRead_29 : decode cX12_ruleRead 29 = .ok (.isub, 1) := by decide +kernel
theorem dX12_ruleRead_30 : decode cX12_ruleRead 30 = .ok (.invokevirtual 241, 3) := by decide +kernel
theorem dX12_ruleRead_33 : decode cX12_ruleRead 33 = .ok (.iconst (-1), 1) := by decide +kernel
theorem dX12_ruleRead_34 : decode cX12_ruleRead 34 = .ok (.if_icmp .eq 8, 3) := by decide +kernel
theorem dX12_ruleRead_37 : decode cX12_ruleRead 37 = .ok (.aload_n 0, 1) := by decide +kernel
theorem dX12_ruleRead_38 : decode cX12_ruleRead 38 = .ok (.invokevirtual 196, 3) := by decide +kernel
theorem dX12_ruleRead_41 : decode cX12_ruleRead 41 = .ok (.ireturn, 1) := by decide +kernel
theorem dX12_ruleRead_42 : decode cX12_ruleRead 42 = .ok (.aload_n 0, 1) := by decide +kernel
theorem dX12_ruleRead_43 : decode cX12_ruleRead 43 = .ok (.getfield 227, 3) := by decide +kernel
theorem dX12_ruleRead_46 : decode cX12_ruleRead 46 = .ok (.istore_n 1, 1) := by decide +kernel
theorem dX12_ruleRead_47 : decode cX12_ruleRead 47 = .ok (.aload_n 0, 1) := by decide +kernel
theorem dX12_ruleRead_48 : decode cX12_ruleRead 48 = .ok (.getfield 16, 3) := by decide +kernel
theorem dX12_ruleRead_51 : decode cX12_ruleRead 51 = .ok (.iload_n 1, 1) := by decide +kernel
theorem dX12_ruleRead_52 : decode cX12_ruleRead 52 = .ok (.aload_n 0, 1) := by decide +kernel
theorem dX12_ruleRead_53 : decode cX12_ruleRead 53 = .ok (.getfield 179, 3) := by decide +kernel
theorem dX12_ruleRead_56 : decode cX12_ruleRead 56 = .ok (.iastore, 1) := by decide +kernel
theorem dX12_ruleRead_57 : decode cX12_ruleRead 57 = .ok (.aload_n 0, 1) := by decide +kernel
theorem dX12_ruleRead_58 : decode cX12_ruleRead 58 = .ok (.getfield 20, 3) := by decide +kernel
theorem dX12_ruleRead_61 : decode cX12_ruleRead 61 = .ok (.iload_n 1, 1) := by decide +kernel
theorem dX12_ruleRead_62 : decode cX12_ruleRead 62 = .ok (.aload_n 0, 1) := by decide +kernel
theorem dX12_ruleRead_63 : decode cX12_ruleRead 63 = .ok (.getfield 182, 3) := by decide +kernel
theorem dX12_ruleRead_66 : decode cX12_ruleRead 66 = .ok (.aload_n 0, 1) := by decide +kernel
theorem dX12_ruleRead_67 : decode cX12_ruleRead 67 = .ok (.getfield 179, 3) := by decide +kernel
theorem dX12_ruleRead_70 : decode cX12_ruleRead 70 = .ok (.isub, 1) := by decide +kernel
theorem dX12_ruleRead_71 : decode cX12_ruleRead 71 = .ok (.iastore, 1) := by decide +kernel
theorem dX12_ruleRead_72 : decode cX12_ruleRead 72 = .ok (.aload_n 0, 1) := by decide +kernel
theorem dX12_ruleRead_73 : decode cX12_ruleRead 73 = .ok (.getfield 26, 3) := by decide +kernel
theorem dX12_ruleRead_76 : decode cX12_ruleRead 76 = .ok (.iload_n 1, 1) := by decide +kernel
theorem dX12_ruleRead_77 : decode cX12_ruleRead 77 = .ok (.iconst 0, 1) := by decide +kernel
theorem dX12_ruleRead_78 : decode cX12_ruleRead 78 = .ok (.iastore, 1) := by decide +kernel
theorem dX12_ruleRead_79 : decode cX12_ruleRead 79 = .ok (.aload_n 0, 1) := by decide +kernel
theorem dX12_ruleRead_80 : decode cX12_ruleRead 80 = .ok (.dup, 1) := by decide +kernel
theorem dX12_ruleRead_81 : decode cX12_ruleRead 81 = .ok (.getfield 227, 3) := by decide +kernel
theorem dX12_ruleRead_84 : decode cX12_ruleRead 84 = .ok (.iconst 1, 1) := by decide +kernel
theorem dX12_ruleRead_85 : decode cX12_ruleRead 85 = .ok (.iadd, 1) := by decide +kernel
theorem dX12_ruleRead_86 : decode cX12_ruleRead 86 = .ok (.putfield 227, 3) := by decide +kernel
theorem dX12_ruleRead_89 : decode cX12_ruleRead 89 = .ok (.aload_n 0, 1) := by decide +kernel
theorem dX12_ruleRead_90 : decode cX12_ruleRead 90 = .ok (.invokevirtual 200, 3) := by decide +kernel
theorem dX12_ruleRead_93 : decode cX12_ruleRead 93 = .ok (.aload_n 0, 1) := by decide +kernel
theorem dX12_ruleRead_94 : decode cX12_ruleRead 94 = .ok (.ldc 213, 2) := by decide +kernel
theorem dX12_ruleRead_96 : decode cX12_ruleRead 96 = .ok (.invokevirtual 215, 3) := by decide +kernel
theorem dX12_ruleRead_99 : decode cX12_ruleRead 99 = .ok (.ifCond .eq 25, 3) := by decide +kernel
theorem dX12_ruleRead_102 : decode cX12_ruleRead 102 = .ok (.aload_n 0, 1) := by decide +kernel
theorem dX12_ruleRead_103 : decode cX12_ruleRead 103 = .ok (.getfield 23, 3) := by decide +kernel
theorem dX12_ruleRead_106 : decode cX12_ruleRead 106 = .ok (.iload_n 1, 1) := by decide +kernel
theorem dX12_ruleRead_107 : decode cX12_ruleRead 107 = .ok (.iconst 0, 1) := by decide +kernel
theorem dX12_ruleRead_108 : decode cX12_ruleRead 108 = .ok (.iastore, 1) := by decide +kernel
theorem dX12_ruleRead_109 : decode cX12_ruleRead 109 = .ok (.aload_n 0, 1) := by decide +kernel
theorem dX12_ruleRead_110 : decode cX12_ruleRead 110 = .ok (.invokevirtual 200, 3) := by decide +kernel
theorem dX12_ruleRead_113 : decode cX12_ruleRead 113 = .ok (.aload_n 0, 1) := by decide +kernel
theorem dX12_ruleRead_114 : decode cX12_ruleRead 114 = .ok (.aload_n 0, 1) := by decide +kernel
theorem dX12_ruleRead_115 : decode cX12_ruleRead 115 = .ok (.bipush 59, 2) := by decide +kernel
theorem dX12_ruleRead_117 : decode cX12_ruleRead 117 = .ok (.invokevirtual 221, 3) := by decide +kernel
theorem dX12_ruleRead_120 : decode cX12_ruleRead 120 = .ok (.invokevirtual 237, 3) := by decide +kernel
theorem dX12_ruleRead_123 : decode cX12_ruleRead 123 = .ok (.ireturn, 1) := by decide +kernel
theorem dX12_ruleRead_124 : decode cX12_ruleRead 124 = .ok (.aload_n 0, 1) := by decide +kernel
theorem dX12_ruleRead_125 : decode cX12_ruleRead 125 = .ok (.getfield 23, 3) := by decide +kernel
theorem dX12_ruleRead_128 : decode cX12_ruleRead 128 = .ok (.iload_n 1, 1) := by decide +kernel
theorem dX12_ruleRead_129 : decode cX12_ruleRead 129 = .ok (.aload_n 0, 1) := by decide +kernel
theorem dX12_ruleRead_130 : decode cX12_ruleRead 130 = .ok (.ldc 219, 2) := by decide +kernel
theorem dX12_ruleRead_132 : decode cX12_ruleRead 132 = .ok (.invokevirtual 215, 3) := by decide +kernel
theorem dX12_ruleRead_135 : decode cX12_ruleRead 135 = .ok (.ifCond .eq 7, 3) := by decide +kernel
theorem dX12_ruleRead_138 : decode cX12_ruleRead 138 = .ok (.iconst 1, 1) := by decide +kernel
theorem dX12_ruleRead_139 : decode cX12_ruleRead 139 = .ok (.goto 4, 3) := by decide +kernel
theorem dX12_ruleRead_142 : decode cX12_ruleRead 142 = .ok (.iconst 2, 1) := by decide +kernel
theorem dX12_ruleRead_143 : decode cX12_ruleRead 143 = .ok (.iastore, 1) := by decide +kernel
theorem dX12_ruleRead_144 : decode cX12_ruleRead 144 = .ok (.aload_n 0, 1) := by decide +kernel
theorem dX12_ruleRead_145 : decode cX12_ruleRead 145 = .ok (.aload_n 0, 1) := by decide +kernel
theorem dX12_ruleRead_146 : decode cX12_ruleRead 146 = .ok (.ldc 219, 2) := by decide +kernel
theorem dX12_ruleRead_148 : decode cX12_ruleRead 148 = .ok (.invokevirtual 215, 3) := by decide +kernel
theorem dX12_ruleRead_151 : decode cX12_ruleRead 151 = .ok (.ifCond .ne 12, 3) := by decide +kernel
theorem dX12_ruleRead_154 : decode cX12_ruleRead 154 = .ok (.aload_n 0, 1) := by decide +kernel
theorem dX12_ruleRead_155 : decode cX12_ruleRead 155 = .ok (.bipush 61, 2) := by decide +kernel
theorem dX12_ruleRead_157 : decode cX12_ruleRead 157 = .ok (.invokevirtual 221, 3) := by decide +kernel
theorem dX12_ruleRead_160 : decode cX12_ruleRead 160 = .ok (.ifCond .eq 7, 3) := by decide +kernel
theorem dX12_ruleRead_163 : decode cX12_ruleRead 163 = .ok (.iconst 1, 1) := by decide +kernel
theorem dX12_ruleRead_164 : decode cX12_ruleRead 164 = .ok (.goto 4, 3) := by decide +kernel
theorem dX12_ruleRead_167 : decode cX12_ruleRead 167 = .ok (.iconst 0, 1) := by decide +kernel
theorem dX12_ruleRead_168 : decode cX12_ruleRead 168 = .ok (.invokevirtual 237, 3) := by decide +kernel
theorem dX12_ruleRead_171 : decode cX12_ruleRead 171 = .ok (.ifCond .eq 15, 3) := by decide +kernel
theorem dX12_ruleRead_174 : decode cX12_ruleRead 174 = .ok (.aload_n 0, 1) := by decide +kernel
theorem dX12_ruleRead_175 : decode cX12_ruleRead 175 = .ok (.iload_n 1, 1) := by decide +kernel
theorem dX12_ruleRead_176 : decode cX12_ruleRead 176 = .ok (.invokevirtual 245, 3) := by decide +kernel
theorem dX12_ruleRead_179 : decode cX12_ruleRead 179 = .ok (.ifCond .eq 7, 3) := by decide +kernel
theorem dX12_ruleRead_182 : decode cX12_ruleRead 182 = .ok (.iconst 1, 1) := by decide +kernel
theorem dX12_ruleRead_183 : decode cX12_ruleRead 183 = .ok (.goto 4, 3) := by decide +kernel
theorem dX12_ruleRead_186 : decode cX12_ruleRead 186 = .ok (.iconst 0, 1) := by decide +kernel
theorem dX12_ruleRead_187 : decode cX12_ruleRead 187 = .ok (.ireturn, 1) := by decide +kernel
theorem dX12_same_0 : decode cX12_same 0 = .ok (.aload_n 0, 1) := by decide +kernel
theorem dX12_same_1 : decode cX12_same 1 = .ok (.iload_n 1, 1) := by decide +kernel
theorem dX12_same_2 : decode cX12_same 2 = .ok (.invokevirtual 396, 3) := by decide +kernel
theorem dX12_same_5 : decode cX12_same 5 = .ok (.ifCond .eq 34, 3) := by decide +kernel
theorem dX12_same_8 : decode cX12_same 8 = .ok (.aload_n 0, 1) := by decide +kernel
theorem dX12_same_9 : decode cX12_same 9 = .ok (.iload_n 2, 1) := by decide +kernel
theorem dX12_same_10 : decode cX12_same 10 = .ok (.invokevirtual 396, 3) := by decide +kernel
theorem dX12_same_13 : decode cX12_same 13 = .ok (.ifCond .eq 26, 3) := by decide +kernel
theorem dX12_same_16 : decode cX12_same 16 = .ok (.aload_n 0, 1) := by decide +kernel
theorem dX12_same_17 : decode cX12_same 17 = .ok (.iload_n 1, 1) := by decide +kernel
theorem dX12_same_18 : decode cX12_same 18 = .ok (.aload_n 0, 1) := by decide +kernel
theorem dX12_same_19 : decode cX12_same 19 = .ok (.iload_n 1, 1) := by decide +kernel
theorem dX12_same_20 : decode cX12_same 20 = .ok (.invokevirtual 324, 3) := by decide +kernel
theorem dX12_same_23 : decode cX12_same 23 = .ok (.iload_n 2, 1) := by decide +kernel
theorem dX12_same_24 : decode cX12_same 24 = .ok (.aload_n 0, 1) := by decide +kernel
theorem dX12_same_25 : decode cX12_same 25 = .ok (.iload_n 2, 1) := by decide +kernel
theorem dX12_same_26 : decode cX12_same 26 = .ok (.invokevirtual 324, 3) := by decide +kernel
theorem dX12_same_29 : decode cX12_same 29 = .ok (.invokevirtual 557, 3) := by decide +kernel
theorem dX12_same_32 : decode cX12_same 32 = .ok (.ifCond .eq 7, 3) := by decide +kernel
theorem dX12_same_35 : decode cX12_same 35 = .ok (.iconst 1, 1) := by decide +kernel
theorem dX12_same_36 : decode cX12_same 36 = .ok (.goto 4, 3) := by decide +kernel
theorem dX12_same_39 : decode cX12_same 39 = .ok (.iconst 0, 1) := by decide +kernel
theorem dX12_same_40 : decode cX12_same 40 = .ok (.ireturn, 1) := by decide +kernel
theorem dX12_says_0 : decode cX12_says 0 = .ok (.aload_n 0, 1) := by decide +kernel
theorem dX12_says_1 : decode cX12_says 1 = .ok (.getfield 45, 3) := by decide +kernel
theorem dX12_says_4 : decode cX12_says 4 = .ok (.iload_n 1, 1) := by decide +kernel
theorem dX12_says_5 : decode cX12_says 5 = .ok (.aaload, 1) := by decide +kernel
theorem dX12_says_6 : decode cX12_says 6 = .ok (.iload_n 3, 1) := by decide +kernel
theorem dX12_says_7 : decode cX12_says 7 = .ok (.baload, 1) := by decide +kernel
theorem dX12_says_8 : decode cX12_says 8 = .ok (.ifCond .eq 40, 3) := by decide +kernel
theorem dX12_says_11 : decode cX12_says 11 = .ok (.aload_n 0, 1) := by decide +kernel
theorem dX12_says_12 : decode cX12_says 12 = .ok (.getfield 45, 3) := by decide +kernel
theorem dX12_says_15 : decode cX12_says 15 = .ok (.iload_n 1, 1) := by decide +kernel
theorem dX12_says_16 : decode cX12_says 16 = .ok (.aaload, 1) := by decide +kernel
theorem dX12_says_17 : decode cX12_says 17 = .ok (.iload 4, 2) := by decide +kernel
theorem dX12_says_19 : decode cX12_says 19 = .ok (.baload, 1) := by decide +kernel
theorem dX12_says_20 : decode cX12_says 20 = .ok (.ifCond .eq 28, 3) := by decide +kernel
theorem dX12_says_23 : decode cX12_says 23 = .ok (.aload_n 0, 1) := by decide +kernel
theorem dX12_says_24 : decode cX12_says 24 = .ok (.getfield 53, 3) := by decide +kernel
theorem dX12_says_27 : decode cX12_says 27 = .ok (.iload_n 1, 1) := by decide +kernel
theorem dX12_says_28 : decode cX12_says 28 = .ok (.aaload, 1) := by decide +kernel
theorem dX12_says_29 : decode cX12_says 29 = .ok (.iload_n 3, 1) := by decide +kernel
theorem dX12_says_30 : decode cX12_says 30 = .ok (.iaload, 1) := by decide +kernel
theorem dX12_says_31 : decode cX12_says 31 = .ok (.iload_n 2, 1) := by decide +kernel
theorem dX12_says_32 : decode cX12_says 32 = .ok (.if_icmp .ne 16, 3) := by decide +kernel
theorem dX12_says_35 : decode cX12_says 35 = .ok (.aload_n 0, 1) := by decide +kernel
theorem dX12_says_36 : decode cX12_says 36 = .ok (.getfield 53, 3) := by decide +kernel
theorem dX12_says_39 : decode cX12_says 39 = .ok (.iload_n 1, 1) := by decide +kernel
theorem dX12_says_40 : decode cX12_says 40 = .ok (.aaload, 1) := by decide +kernel
theorem dX12_says_41 : decode cX12_says 41 = .ok (.iload 4, 2) := by decide +kernel
theorem dX12_says_43 : decode cX12_says 43 = .ok (.iaload, 1) := by decide +kernel
theorem dX12_says_44 : decode cX12_says 44 = .ok (.iload_n 2, 1) := by decide +kernel
theorem dX12_says_45 : decode cX12_says 45 = .ok (.if_icmp .eq 5, 3) := by decide +kernel
theorem dX12_says_48 : decode cX12_says 48 = .ok (.iconst 0, 1) := by decide +kernel
theorem dX12_says_49 : decode cX12_says 49 = .ok (.ireturn, 1) := by decide +kernel
theorem dX12_says_50 : decode cX12_says 50 = .ok (.aload_n 0, 1) := by decide +kernel
theorem dX12_says_51 : decode cX12_says 51 = .ok (.getfield 56, 3) := by decide +kernel
theorem dX12_says_54 : decode cX12_says 54 = .ok (.iload_n 1, 1) := by decide +kernel
theorem dX12_says_55 : decode cX12_says 55 = .ok (.aaload, 1) := by decide +kernel
theorem dX12_says_56 : decode cX12_says 56 = .ok (.iload_n 3, 1) := by decide +kernel
theorem dX12_says_57 : decode cX12_says 57 = .ok (.iaload, 1) := by decide +kernel
theorem dX12_says_58 : decode cX12_says 58 = .ok (.aload_n 0, 1) := by decide +kernel
theorem dX12_says_59 : decode cX12_says 59 = .ok (.getfield 56, 3) := by decide +kernel
theorem dX12_says_62 : decode cX12_says 62 = .ok (.iload_n 1, 1) := by decide +kernel
theorem dX12_says_63 : decode cX12_says 63 = .ok (.aaload, 1) := by decide +kernel
theorem dX12_says_64 : decode cX12_says 64 = .ok (.iload 4, 2) := by decide +kernel
theorem dX12_says_66 : decode cX12_says 66 = .ok (.iaload, 1) := by decide +kernel
theorem dX12_says_67 : decode cX12_says 67 = .ok (.if_icmp .ge 7, 3) := by decide +kernel
theorem dX12_says_70 : decode cX12_says 70 = .ok (.iconst 1, 1) := by decide +kernel
theorem dX12_says_71 : decode cX12_says 71 = .ok (.goto 4, 3) := by decide +kernel
theorem dX12_says_74 : decode cX12_says 74 = .ok (.iconst (-1), 1) := by decide +kernel
theorem dX12_says_75 : decode cX12_says 75 = .ok (.ireturn, 1) := by decide +kernel
theorem dX12_secondQuarrels_0 : decode cX12_secondQuarrels 0 = .ok (.iconst 0, 1) := by decide +kernel
theorem dX12_secondQuarrels_1 : decode cX12_secondQuarrels 1 = .ok (.istore_n 1, 1) := by decide +kernel
theorem dX12_secondQuarrels_2 : decode cX12_secondQuarrels 2 = .ok (.iload_n 1, 1) := by decide +kernel
theorem dX12_secondQuarrels_3 : decode cX12_secondQuarrels 3 = .ok (.sipush 150, 3) := by decide +kernel
theorem dX12_secondQuarrels_6 : decode cX12_secondQuarrels 6 = .ok (.if_icmp .ge 35, 3) := by decide +kernel
theorem dX12_secondQuarrels_9 : decode cX12_secondQuarrels 9 = .ok (.aload_n 0, 1) := by decide +kernel
theorem dX12_secondQuarrels_10 : decode cX12_secondQuarrels 10 = .ok (.getfield 45, 3) := by decide +kernel
theorem dX12_secondQuarrels_13 : decode cX12_secondQuarrels 13 = .ok (.bipush 13, 2) := by decide +kernel
theorem dX12_secondQuarrels_15 : decode cX12_secondQuarrels 15 = .ok (.aaload, 1) := by decide +kernel
theorem dX12_secondQuarrels_16 : decode cX12_secondQuarrels 16 = .ok (.iload_n 1, 1) := by decide +kernel
theorem dX12_secondQuarrels_17 : decode cX12_secondQuarrels 17 = .ok (.baload, 1) := by decide +kernel
theorem dX12_secondQuarrels_18 : decode cX12_secondQuarrels 18 = .ok (.ifCond .eq 17, 3) := by decide +kernel
theorem dX12_secondQuarrels_21 : decode cX12_secondQuarrels 21 = .ok (.aload_n 0, 1) := by decide +kernel
theorem dX12_secondQuarrels_22 : decode cX12_secondQuarrels 22 = .ok (.iload_n 1, 1) := by decide +kernel
theorem dX12_secondQuarrels_23 : decode cX12_secondQuarrels 23 = .ok (.invokevirtual 480, 3) := by decide +kernel
theorem dX12_secondQuarrels_26 : decode cX12_secondQuarrels 26 = .ok (.ifCond .eq 9, 3) := by decide +kernel
theorem dX12_secondQuarrels_29 : decode cX12_secondQuarrels 29 = .ok (.aload_n 0, 1) := by decide +kernel
theorem dX12_secondQuarrels_30 : decode cX12_secondQuarrels 30 = .ok (.iconst 4, 1) := by decide +kernel
theorem dX12_secondQuarrels_31 : decode cX12_secondQuarrels 31 = .ok (.iload_n 1, 1) := by decide +kernel
theorem dX12_secondQuarrels_32 : decode cX12_secondQuarrels 32 = .ok (.invokevirtual 468, 3) := by decide +kernel
theorem dX12_secondQuarrels_35 : decode cX12_secondQuarrels 35 = .ok (.iinc 1 1, 3) := by decide +kernel
theorem dX12_secondQuarrels_38 : decode cX12_secondQuarrels 38 = .ok (.goto (-36), 3) := by decide +kernel
theorem dX12_secondQuarrels_41 : decode cX12_secondQuarrels 41 = .ok (.aload_n 0, 1) := by decide +kernel
theorem dX12_secondQuarrels_42 : decode cX12_secondQuarrels 42 = .ok (.bipush 13, 2) := by decide +kernel
theorem dX12_secondQuarrels_44 : decode cX12_secondQuarrels 44 = .ok (.invokevirtual 432, 3) := by decide +kernel
theorem dX12_secondQuarrels_47 : decode cX12_secondQuarrels 47 = .ok (.bipush 40, 2) := by decide +kernel
theorem dX12_secondQuarrels_49 : decode cX12_secondQuarrels 49 = .ok (.if_icmp .le 13, 3) := by decide +kernel
theorem dX12_secondQuarrels_52 : decode cX12_secondQuarrels 52 = .ok (.aload_n 0, 1) := by decide +kernel
theorem dX12_secondQuarrels_53 : decode cX12_secondQuarrels 53 = .ok (.bipush 8, 2) := by decide +kernel
theorem dX12_secondQuarrels_55 : decode cX12_secondQuarrels 55 = .ok (.aload_n 0, 1) := by decide +kernel
theorem dX12_secondQuarrels_56 : decode cX12_secondQuarrels 56 = .ok (.invokevirtual 483, 3) := by decide +kernel
theorem dX12_secondQuarrels_59 : decode cX12_secondQuarrels 59 = .ok (.invokevirtual 468, 3) := by decide +kernel
theorem dX12_secondQuarrels_62 : decode cX12_secondQuarrels 62 = .ok (.return_, 1) := by decide +kernel
theorem dX12_settle_0 : decode cX12_settle 0 = .ok (.iload_n 1, 1) := by decide +kernel
theorem dX12_settle_1 : decode cX12_settle 1 = .ok (.i2l, 1) := by decide +kernel
theorem dX12_settle_2 : decode cX12_settle 2 = .ok (.lconst 0, 1) := by decide +kernel
theorem dX12_settle_3 : decode cX12_settle 3 = .ok (.aload_n 0, 1) := by decide +kernel
theorem dX12_settle_4 : decode cX12_settle 4 = .ok (.getfield 336, 3) := by decide +kernel
theorem dX12_settle_7 : decode cX12_settle 7 = .ok (.iconst 1, 1) := by decide +kernel
theorem dX12_settle_8 : decode cX12_settle 8 = .ok (.isub, 1) := by decide +kernel
theorem dX12_settle_9 : decode cX12_settle 9 = .ok (.i2l, 1) := by decide +kernel
theorem dX12_settle_10 : decode cX12_settle 10 = .ok (.invokestatic 171, 3) := by decide +kernel
theorem dX12_settle_13 : decode cX12_settle 13 = .ok (.ifCond .eq 23, 3) := by decide +kernel
theorem dX12_settle_16 : decode cX12_settle 16 = .ok (.iload_n 2, 1) := by decide +kernel
theorem dX12_settle_17 : decode cX12_settle 17 = .ok (.i2l, 1) := by decide +kernel
theorem dX12_settle_18 : decode cX12_settle 18 = .ok (.lconst 1, 1) := by decide +kernel
theorem dX12_settle_19 : decode cX12_settle 19 = .ok (.ldc2_w 445, 3) := by decide +kernel
theorem dX12_settle_22 : decode cX12_settle 22 = .ok (.invokestatic 171, 3) := by decide +kernel
theorem dX12_settle_25 : decode cX12_settle 25 = .ok (.ifCond .eq 11, 3) := by decide +kernel
theorem dX12_settle_28 : decode cX12_settle 28 = .ok (.aload_n 0, 1) := by decide +kernel
theorem dX12_settle_29 : decode cX12_settle 29 = .ok (.iload_n 3, 1) := by decide +kernel
theorem dX12_settle_30 : decode cX12_settle 30 = .ok (.invokevirtual 396, 3) := by decide +kernel
theorem dX12_settle_33 : decode cX12_settle 33 = .ok (.ifCond .ne 5, 3) := by decide +kernel
theorem dX12_settle_36 : decode cX12_settle 36 = .ok (.iconst 0, 1) := by decide +kernel
theorem dX12_settle_37 : decode cX12_settle 37 = .ok (.ireturn, 1) := by decide +kernel
theorem dX12_settle_38 : decode cX12_settle 38 = .ok (.iconst 0, 1) := by decide +kernel
theorem dX12_settle_39 : decode cX12_settle 39 = .ok (.istore 4, 2) := by decide +kernel
theorem dX12_settle_41 : decode cX12_settle 41 = .ok (.iload 4, 2) := by decide +kernel
theorem dX12_settle_43 : decode cX12_settle 43 = .ok (.aload_n 0, 1) := by decide +kernel
theorem dX12_settle_44 : decode cX12_settle 44 = .ok (.getfield 447, 3) := by decide +kernel
theorem dX12_settle_47 : decode cX12_settle 47 = .ok (.if_icmp .ge 31, 3) := by decide +kernel
theorem dX12_settle_50 : decode cX12_settle 50 = .ok (.aload_n 0, 1) := by decide +kernel
theorem dX12_settle_51 : decode cX12_settle 51 = .ok (.getfield 142, 3) := by decide +kernel
theorem dX12_settle_54 : decode cX12_settle 54 = .ok (.iload 4, 2) := by decide +kernel
theorem dX12_settle_56 : decode cX12_settle 56 = .ok (.iaload, 1) := by decide +kernel
theorem dX12_settle_57 : decode cX12_settle 57 = .ok (.iload_n 1, 1) := by decide +kernel
theorem dX12_settle_58 : decode cX12_settle 58 = .ok (.if_icmp .ne 14, 3) := by decide +kernel
theorem dX12_settle_61 : decode cX12_settle 61 = .ok (.aload_n 0, 1) := by decide +kernel
theorem dX12_settle_62 : decode cX12_settle 62 = .ok (.getfield 145, 3) := by decide +kernel
theorem dX12_settle_65 : decode cX12_settle 65 = .ok (.iload 4, 2) := by decide +kernel
theorem dX12_settle_67 : decode cX12_settle 67 = .ok (.iaload, 1) := by decide +kernel
theorem dX12_settle_68 : decode cX12_settle 68 = .ok (.iload_n 2, 1) := by decide +kernel
theorem dX12_settle_69 : decode cX12_settle 69 = .ok (.if_icmp .eq 9, 3) := by decide +kernel
theorem dX12_settle_72 : decode cX12_settle 72 = .ok (.iinc 4 1, 3) := by decide +kernel
theorem dX12_settle_75 : decode cX12_settle 75 = .ok (.goto (-34), 3) := by decide +kernel
theorem dX12_settle_78 : decode cX12_settle 78 = .ok (.aload_n 0, 1) := by decide +kernel
theorem dX12_settle_79 : decode cX12_settle 79 = .ok (.getfield 142, 3) := by decide +kernel
theorem dX12_settle_82 : decode cX12_settle 82 = .ok (.iload 4, 2) := by decide +kernel
theorem dX12_settle_84 : decode cX12_settle 84 = .ok (.iload_n 1, 1) := by decide +kernel
theorem dX12_settle_85 : decode cX12_settle 85 = .ok (.iastore, 1) := by decide +kernel
theorem dX12_settle_86 : decode cX12_settle 86 = .ok (.aload_n 0, 1) := by decide +kernel
theorem dX12_settle_87 : decode cX12_settle 87 = .ok (.getfield 145, 3) := by decide +kernel
theorem dX12_settle_90 : decode cX12_settle 90 = .ok (.iload 4, 2) := by decide +kernel
theorem dX12_settle_92 : decode cX12_settle 92 = .ok (.iload_n 2, 1) := by decide +kernel
theorem dX12_settle_93 : decode cX12_settle 93 = .ok (.iastore, 1) := by decide +kernel
theorem dX12_settle_94 : decode cX12_settle 94 = .ok (.aload_n 0, 1) := by decide +kernel
theorem dX12_settle_95 : decode cX12_settle 95 = .ok (.getfield 148, 3) := by decide +kernel
theorem dX12_settle_98 : decode cX12_settle 98 = .ok (.iload 4, 2) := by decide +kernel
theorem dX12_settle_100 : decode cX12_settle 100 = .ok (.iload_n 3, 1) := by decide +kernel
theorem dX12_settle_101 : decode cX12_settle 101 = .ok (.iastore, 1) := by decide +kernel
theorem dX12_settle_102 : decode cX12_settle 102 = .ok (.aload_n 0, 1) := by decide +kernel
theorem dX12_settle_103 : decode cX12_settle 103 = .ok (.aload_n 0, 1) := by decide +kernel
theorem dX12_settle_104 : decode cX12_settle 104 = .ok (.getfield 447, 3) := by decide +kernel
theorem dX12_settle_107 : decode cX12_settle 107 = .ok (.iload 4, 2) := by decide +kernel
theorem dX12_settle_109 : decode cX12_settle 109 = .ok (.iconst 1, 1) := by decide +kernel
theorem dX12_settle_110 : decode cX12_settle 110 = .ok (.iadd, 1) := by decide +kernel
theorem dX12_settle_111 : decode cX12_settle 111 = .ok (.invokestatic 450, 3) := by decide +kernel
theorem dX12_settle_114 : decode cX12_settle 114 = .ok (.putfield 447, 3) := by decide +kernel
theorem dX12_settle_117 : decode cX12_settle 117 = .ok (.iconst 1, 1) := by decide +kernel
theorem dX12_settle_118 : decode cX12_settle 118 = .ok (.ireturn, 1) := by decide +kernel
theorem dX12_settledFor_0 : decode cX12_settledFor 0 = .ok (.iconst 0, 1) := by decide +kernel
theorem dX12_settledFor_1 : decode cX12_settledFor 1 = .ok (.istore 5, 2) := by decide +kernel
theorem dX12_settledFor_3 : decode cX12_settledFor 3 = .ok (.iload 5, 2) := by decide +kernel
theorem dX12_settledFor_5 : decode cX12_settledFor 5 = .ok (.aload_n 0, 1) := by decide +kernel
theorem dX12_settledFor_6 : decode cX12_settledFor 6 = .ok (.getfield 447, 3) := by decide +kernel
theorem dX12_settledFor_9 : decode cX12_settledFor 9 = .ok (.if_icmp .ge 62, 3) := by decide +kernel
theorem dX12_settledFor_12 : decode cX12_settledFor 12 = .ok (.aload_n 0, 1) := by decide +kernel
theorem dX12_settledFor_13 : decode cX12_settledFor 13 = .ok (.getfield 142, 3) := by decide +kernel
theorem dX12_settledFor_16 : decode cX12_settledFor 16 = .ok (.iload 5, 2) := by decide +kernel
theorem dX12_settledFor_18 : decode cX12_settledFor 18 = .ok (.iaload, 1) := by decide +kernel
theorem dX12_settledFor_19 : decode cX12_settledFor 19 = .ok (.iload_n 1, 1) := by decide +kernel
theorem dX12_settledFor_20 : decode cX12_settledFor 20 = .ok (.if_icmp .ne 45, 3) := by decide +kernel
theorem dX12_settledFor_23 : decode cX12_settledFor 23 = .ok (.aload_n 0, 1) := by decide +kernel
theorem dX12_settledFor_24 : decode cX12_settledFor 24 = .ok (.getfield 145, 3) := by decide +kernel
theorem dX12_settledFor_27 : decode cX12_settledFor 27 = .ok (.iload 5, 2) := by decide +kernel
theorem dX12_settledFor_29 : decode cX12_settledFor 29 = .ok (.iaload, 1) := by decide +kernel
theorem dX12_settledFor_30 : decode cX12_settledFor 30 = .ok (.iload_n 2, 1) := by decide +kernel
theorem dX12_settledFor_31 : decode cX12_settledFor 31 = .ok (.if_icmp .ne 34, 3) := by decide +kernel
theorem dX12_settledFor_34 : decode cX12_settledFor 34 = .ok (.aload_n 0, 1) := by decide +kernel
theorem dX12_settledFor_35 : decode cX12_settledFor 35 = .ok (.getfield 148, 3) := by decide +kernel
theorem dX12_settledFor_38 : decode cX12_settledFor 38 = .ok (.iload 5, 2) := by decide +kernel
theorem dX12_settledFor_40 : decode cX12_settledFor 40 = .ok (.iaload, 1) := by decide +kernel
theorem dX12_settledFor_41 : decode cX12_settledFor 41 = .ok (.iload_n 3, 1) := by decide +kernel
theorem dX12_settledFor_42 : decode cX12_settledFor 42 = .ok (.if_icmp .eq 15, 3) := by decide +kernel
theorem dX12_settledFor_45 : decode cX12_settledFor 45 = .ok (.aload_n 0, 1) := by decide +kernel
theorem dX12_settledFor_46 : decode cX12_settledFor 46 = .ok (.getfield 148, 3) := by decide +kernel
theorem dX12_settledFor_49 : decode cX12_settledFor 49 = .ok (.iload 5, 2) := by decide +kernel
theorem dX12_settledFor_51 : decode cX12_settledFor 51 = .ok (.iaload, 1) := by decide +kernel
theorem dX12_settledFor_52 : decode cX12_settledFor 52 = .ok (.iload 4, 2) := by decide +kernel
theorem dX12_settledFor_54 : decode cX12_settledFor 54 = .ok (.if_icmp .ne 11, 3) := by decide +kernel
theorem dX12_settledFor_57 : decode cX12_settledFor 57 = .ok (.aload_n 0, 1) := by decide +kernel
theorem dX12_settledFor_58 : decode cX12_settledFor 58 = .ok (.getfield 148, 3) := by decide +kernel
theorem dX12_settledFor_61 : decode cX12_settledFor 61 = .ok (.iload 5, 2) := by decide +kernel
theorem dX12_settledFor_63 : decode cX12_settledFor 63 = .ok (.iaload, 1) := by decide +kernel
theorem dX12_settledFor_64 : decode cX12_settledFor 64 = .ok (.ireturn, 1) := by decide +kernel
theorem dX12_settledFor_65 : decode cX12_settledFor 65 = .ok (.iinc 5 1, 3) := by decide +kernel
theorem dX12_settledFor_68 : decode cX12_settledFor 68 = .ok (.goto (-65), 3) := by decide +kernel
theorem dX12_settledFor_71 : decode cX12_settledFor 71 = .ok (.iconst (-1), 1) := by decide +kernel
theorem dX12_settledFor_72 : decode cX12_settledFor 72 = .ok (.ireturn, 1) := by decide +kernel
theorem dX12_shrinks_0 : decode cX12_shrinks 0 = .ok (.iconst 0, 1) := by decide +kernel
theorem dX12_shrinks_1 : decode cX12_shrinks 1 = .ok (.istore_n 2, 1) := by decide +kernel
theorem dX12_shrinks_2 : decode cX12_shrinks 2 = .ok (.aload_n 0, 1) := by decide +kernel
theorem dX12_shrinks_3 : decode cX12_shrinks 3 = .ok (.bipush 12, 2) := by decide +kernel
theorem dX12_shrinks_5 : decode cX12_shrinks 5 = .ok (.iload_n 1, 1) := by decide +kernel
theorem dX12_shrinks_6 : decode cX12_shrinks 6 = .ok (.invokevirtual 291, 3) := by decide +kernel
theorem dX12_shrinks_9 : decode cX12_shrinks 9 = .ok (.istore_n 3, 1) := by decide +kernel
theorem dX12_shrinks_10 : decode cX12_shrinks 10 = .ok (.iload_n 3, 1) := by decide +kernel
theorem dX12_shrinks_11 : decode cX12_shrinks 11 = .ok (.iconst (-1), 1) := by decide +kernel
theorem dX12_shrinks_12 : decode cX12_shrinks 12 = .ok (.if_icmp .eq 27, 3) := by decide +kernel
theorem dX12_shrinks_15 : decode cX12_shrinks 15 = .ok (.aload_n 0, 1) := by decide +kernel
theorem dX12_shrinks_16 : decode cX12_shrinks 16 = .ok (.getfield 56, 3) := by decide +kernel
theorem dX12_shrinks_19 : decode cX12_shrinks 19 = .ok (.bipush 12, 2) := by decide +kernel
theorem dX12_shrinks_21 : decode cX12_shrinks 21 = .ok (.aaload, 1) := by decide +kernel
theorem dX12_shrinks_22 : decode cX12_shrinks 22 = .ok (.iload_n 3, 1) := by decide +kernel
theorem dX12_shrinks_23 : decode cX12_shrinks 23 = .ok (.iload_n 2, 1) := by decide +kernel
theorem dX12_shrinks_24 : decode cX12_shrinks 24 = .ok (.iastore, 1) := by decide +kernel
theorem dX12_shrinks_25 : decode cX12_shrinks 25 = .ok (.iinc 2 1, 3) := by decide +kernel
theorem dX12_shrinks_28 : decode cX12_shrinks 28 = .ok (.aload_n 0, 1) := by decide +kernel
theorem dX12_shrinks_29 : decode cX12_shrinks 29 = .ok (.bipush 12, 2) := by decide +kernel
theorem dX12_shrinks_31 : decode cX12_shrinks 31 = .ok (.iload_n 3, 1) := by decide +kernel
theorem dX12_shrinks_32 : decode cX12_shrinks 32 = .ok (.invokevirtual 294, 3) := by decide +kernel
theorem dX12_shrinks_35 : decode cX12_shrinks 35 = .ok (.istore_n 3, 1) := by decide +kernel
theorem dX12_shrinks_36 : decode cX12_shrinks 36 = .ok (.goto (-26), 3) := by decide +kernel
theorem dX12_shrinks_39 : decode cX12_shrinks 39 = .ok (.return_, 1) := by decide +kernel
theorem dX12_sideOf_0 : decode cX12_sideOf 0 = .ok (.aload_n 0, 1) := by decide +kernel
theorem dX12_sideOf_1 : decode cX12_sideOf 1 = .ok (.getfield 45, 3) := by decide +kernel
theorem dX12_sideOf_4 : decode cX12_sideOf 4 = .ok (.iload_n 2, 1) := by decide +kernel
theorem dX12_sideOf_5 : decode cX12_sideOf 5 = .ok (.aaload, 1) := by decide +kernel
theorem dX12_sideOf_6 : decode cX12_sideOf 6 = .ok (.iload_n 1, 1) := by decide +kernel
theorem dX12_sideOf_7 : decode cX12_sideOf 7 = .ok (.baload, 1) := by decide +kernel
theorem dX12_sideOf_8 : decode cX12_sideOf 8 = .ok (.ifCond .ne 5, 3) := by decide +kernel
theorem dX12_sideOf_11 : decode cX12_sideOf 11 = .ok (.iload_n 3, 1) := by decide +kernel
theorem dX12_sideOf_12 : decode cX12_sideOf 12 = .ok (.ireturn, 1) := by decide +kernel
theorem dX12_sideOf_13 : decode cX12_sideOf 13 = .ok (.aload_n 0, 1) := by decide +kernel
theorem dX12_sideOf_14 : decode cX12_sideOf 14 = .ok (.getfield 45, 3) := by decide +kernel
theorem dX12_sideOf_17 : decode cX12_sideOf 17 = .ok (.iload_n 3, 1) := by decide +kernel
theorem dX12_sideOf_18 : decode cX12_sideOf 18 = .ok (.aaload, 1) := by decide +kernel
theorem dX12_sideOf_19 : decode cX12_sideOf 19 = .ok (.iload_n 1, 1) := by decide +kernel
theorem dX12_sideOf_20 : decode cX12_sideOf 20 = .ok (.baload, 1) := by decide +kernel
theorem dX12_sideOf_21 : decode cX12_sideOf 21 = .ok (.ifCond .ne 5, 3) := by decide +kernel
theorem dX12_sideOf_24 : decode cX12_sideOf 24 = .ok (.iload_n 2, 1) := by decide +kernel
theorem dX12_sideOf_25 : decode cX12_sideOf 25 = .ok (.ireturn, 1) := by decide +kernel
theorem dX12_sideOf_26 : decode cX12_sideOf 26 = .ok (.iload 5, 2) := by decide +kernel
theorem dX12_sideOf_28 : decode cX12_sideOf 28 = .ok (.ifCond .eq 31, 3) := by decide +kernel
theorem dX12_sideOf_31 : decode cX12_sideOf 31 = .ok (.aload_n 0, 1) := by decide +kernel
theorem dX12_sideOf_32 : decode cX12_sideOf 32 = .ok (.getfield 50, 3) := by decide +kernel
theorem dX12_sideOf_35 : decode cX12_sideOf 35 = .ok (.iload_n 2, 1) := by decide +kernel
theorem dX12_sideOf_36 : decode cX12_sideOf 36 = .ok (.aaload, 1) := by decide +kernel
theorem dX12_sideOf_37 : decode cX12_sideOf 37 = .ok (.iload_n 1, 1) := by decide +kernel
theorem dX12_sideOf_38 : decode cX12_sideOf 38 = .ok (.laload, 1) := by decide +kernel
theorem dX12_sideOf_39 : decode cX12_sideOf 39 = .ok (.aload_n 0, 1) := by decide +kernel
theorem dX12_sideOf_40 : decode cX12_sideOf 40 = .ok (.getfield 50, 3) := by decide +kernel
theorem dX12_sideOf_43 : decode cX12_sideOf 43 = .ok (.iload_n 3, 1) := by decide +kernel
theorem dX12_sideOf_44 : decode cX12_sideOf 44 = .ok (.aaload, 1) := by decide +kernel
theorem dX12_sideOf_45 : decode cX12_sideOf 45 = .ok (.iload_n 1, 1) := by decide +kernel
theorem dX12_sideOf_46 : decode cX12_sideOf 46 = .ok (.laload, 1) := by decide +kernel
theorem dX12_sideOf_47 : decode cX12_sideOf 47 = .ok (.lcmp, 1) := by decide +kernel
theorem dX12_sideOf_48 : decode cX12_sideOf 48 = .ok (.ifCond .ne 7, 3) := by decide +kernel
theorem dX12_sideOf_51 : decode cX12_sideOf 51 = .ok (.iconst 1, 1) := by decide +kernel
theorem dX12_sideOf_52 : decode cX12_sideOf 52 = .ok (.goto 31, 3) := by decide +kernel
theorem dX12_sideOf_55 : decode cX12_sideOf 55 = .ok (.iconst 0, 1) := by decide +kernel
theorem dX12_sideOf_56 : decode cX12_sideOf 56 = .ok (.goto 27, 3) := by decide +kernel
theorem dX12_sideOf_59 : decode cX12_sideOf 59 = .ok (.aload_n 0, 1) := by decide +kernel
theorem dX12_sideOf_60 : decode cX12_sideOf 60 = .ok (.getfield 53, 3) := by decide +kernel
theorem dX12_sideOf_63 : decode cX12_sideOf 63 = .ok (.iload_n 2, 1) := by decide +kernel
theorem dX12_sideOf_64 : decode cX12_sideOf 64 = .ok (.aaload, 1) := by decide +kernel
theorem dX12_sideOf_65 : decode cX12_sideOf 65 = .ok (.iload_n 1, 1) := by decide +kernel
theorem dX12_sideOf_66 : decode cX12_sideOf 66 = .ok (.iaload, 1) := by decide +kernel
theorem dX12_sideOf_67 : decode cX12_sideOf 67 = .ok (.aload_n 0, 1) := by decide +kernel
theorem dX12_sideOf_68 : decode cX12_sideOf 68 = .ok (.getfield 53, 3) := by decide +kernel
theorem dX12_sideOf_71 : decode cX12_sideOf 71 = .ok (.iload_n 3, 1) := by decide +kernel
theorem dX12_sideOf_72 : decode cX12_sideOf 72 = .ok (.aaload, 1) := by decide +kernel
theorem dX12_sideOf_73 : decode cX12_sideOf 73 = .ok (.iload_n 1, 1) := by decide +kernel
theorem dX12_sideOf_74 : decode cX12_sideOf 74 = .ok (.iaload, 1) := by decide +kernel
theorem dX12_sideOf_75 : decode cX12_sideOf 75 = .ok (.if_icmp .ne 7, 3) := by decide +kernel
theorem dX12_sideOf_78 : decode cX12_sideOf 78 = .ok (.iconst 1, 1) := by decide +kernel
theorem dX12_sideOf_79 : decode cX12_sideOf 79 = .ok (.goto 4, 3) := by decide +kernel
theorem dX12_sideOf_82 : decode cX12_sideOf 82 = .ok (.iconst 0, 1) := by decide +kernel
theorem dX12_sideOf_83 : decode cX12_sideOf 83 = .ok (.istore 6, 2) := by decide +kernel
theorem dX12_sideOf_85 : decode cX12_sideOf 85 = .ok (.iload 6, 2) := by decide +kernel
theorem dX12_sideOf_87 : decode cX12_sideOf 87 = .ok (.ifCond .eq 5, 3) := by decide +kernel
theorem dX12_sideOf_90 : decode cX12_sideOf 90 = .ok (.iload_n 2, 1) := by decide +kernel
theorem dX12_sideOf_91 : decode cX12_sideOf 91 = .ok (.ireturn, 1) := by decide +kernel
theorem dX12_sideOf_92 : decode cX12_sideOf 92 = .ok (.aload_n 0, 1) := by decide +kernel
theorem dX12_sideOf_93 : decode cX12_sideOf 93 = .ok (.getfield 45, 3) := by decide +kernel
theorem dX12_sideOf_96 : decode cX12_sideOf 96 = .ok (.iload 4, 2) := by decide +kernel
theorem dX12_sideOf_98 : decode cX12_sideOf 98 = .ok (.aaload, 1) := by decide +kernel
theorem dX12_sideOf_99 : decode cX12_sideOf 99 = .ok (.iload_n 1, 1) := by decide +kernel
theorem dX12_sideOf_100 : decode cX12_sideOf 100 = .ok (.baload, 1) := by decide +kernel
theorem dX12_sideOf_101 : decode cX12_sideOf 101 = .ok (.ifCond .eq 105, 3) := by decide +kernel
theorem dX12_sideOf_104 : decode cX12_sideOf 104 = .ok (.iload 5, 2) := by decide +kernel
theorem dX12_sideOf_106 : decode cX12_sideOf 106 = .ok (.ifCond .eq 27, 3) := by decide +kernel
theorem dX12_sideOf_109 : decode cX12_sideOf 109 = .ok (.aload_n 0, 1) := by decide +kernel
theorem dX12_sideOf_110 : decode cX12_sideOf 110 = .ok (.getfield 50, 3) := by decide +kernel
theorem dX12_sideOf_113 : decode cX12_sideOf 113 = .ok (.iload_n 2, 1) := by decide +kernel
theorem dX12_sideOf_114 : decode cX12_sideOf 114 = .ok (.aaload, 1) := by decide +kernel
theorem dX12_sideOf_115 : decode cX12_sideOf 115 = .ok (.iload_n 1, 1) := by decide +kernel
theorem dX12_sideOf_116 : decode cX12_sideOf 116 = .ok (.laload, 1) := by decide +kernel
theorem dX12_sideOf_117 : decode cX12_sideOf 117 = .ok (.aload_n 0, 1) := by decide +kernel
theorem dX12_sideOf_118 : decode cX12_sideOf 118 = .ok (.getfield 50, 3) := by decide +kernel
theorem dX12_sideOf_121 : decode cX12_sideOf 121 = .ok (.iload 4, 2) := by decide +kernel
theorem dX12_sideOf_123 : decode cX12_sideOf 123 = .ok (.aaload, 1) := by decide +kernel
theorem dX12_sideOf_124 : decode cX12_sideOf 124 = .ok (.iload_n 1, 1) := by decide +kernel
theorem dX12_sideOf_125 : decode cX12_sideOf 125 = .ok (.laload, 1) := by decide +kernel
theorem dX12_sideOf_126 : decode cX12_sideOf 126 = .ok (.lcmp, 1) := by decide +kernel
theorem dX12_sideOf_127 : decode cX12_sideOf 127 = .ok (.ifCond .ne 28, 3) := by decide +kernel
theorem dX12_sideOf_130 : decode cX12_sideOf 130 = .ok (.goto 23, 3) := by decide +kernel
theorem dX12_sideOf_133 : decode cX12_sideOf 133 = .ok (.aload_n 0, 1) := by decide +kernel
theorem dX12_sideOf_134 : decode cX12_sideOf 134 = .ok (.getfield 53, 3) := by decide +kernel
theorem dX12_sideOf_137 : decode cX12_sideOf 137 = .ok (.iload_n 2, 1) := by decide +kernel
theorem dX12_sideOf_138 : decode cX12_sideOf 138 = .ok (.aaload, 1) := by decide +kernel
theorem dX12_sideOf_139 : decode cX12_sideOf 139 = .ok (.iload_n 1, 1) := by decide +kernel
theorem dX12_sideOf_140 : decode cX12_sideOf 140 = .ok (.iaload, 1) := by decide +kernel
theorem dX12_sideOf_141 : decode cX12_sideOf 141 = .ok (.aload_n 0, 1) := by decide +kernel
theorem dX12_sideOf_142 : decode cX12_sideOf 142 = .ok (.getfield 53, 3) := by decide +kernel
theorem dX12_sideOf_145 : decode cX12_sideOf 145 = .ok (.iload 4, 2) := by decide +kernel
theorem dX12_sideOf_147 : decode cX12_sideOf 147 = .ok (.aaload, 1) := by decide +kernel
theorem dX12_sideOf_148 : decode cX12_sideOf 148 = .ok (.iload_n 1, 1) := by decide +kernel
theorem dX12_sideOf_149 : decode cX12_sideOf 149 = .ok (.iaload, 1) := by decide +kernel
theorem dX12_sideOf_150 : decode cX12_sideOf 150 = .ok (.if_icmp .ne 5, 3) := by decide +kernel
theorem dX12_sideOf_153 : decode cX12_sideOf 153 = .ok (.iload_n 3, 1) := by decide +kernel
theorem dX12_sideOf_154 : decode cX12_sideOf 154 = .ok (.ireturn, 1) := by decide +kernel
theorem dX12_sideOf_155 : decode cX12_sideOf 155 = .ok (.iload 5, 2) := by decide +kernel
theorem dX12_sideOf_157 : decode cX12_sideOf 157 = .ok (.ifCond .eq 27, 3) := by decide +kernel
theorem dX12_sideOf_160 : decode cX12_sideOf 160 = .ok (.aload_n 0, 1) := by decide +kernel
theorem dX12_sideOf_161 : decode cX12_sideOf 161 = .ok (.getfield 50, 3) := by decide +kernel
theorem dX12_sideOf_164 : decode cX12_sideOf 164 = .ok (.iload_n 3, 1) := by decide +kernel
theorem dX12_sideOf_165 : decode cX12_sideOf 165 = .ok (.aaload, 1) := by decide +kernel
theorem dX12_sideOf_166 : decode cX12_sideOf 166 = .ok (.iload_n 1, 1) := by decide +kernel
theorem dX12_sideOf_167 : decode cX12_sideOf 167 = .ok (.laload, 1) := by decide +kernel
theorem dX12_sideOf_168 : decode cX12_sideOf 168 = .ok (.aload_n 0, 1) := by decide +kernel
theorem dX12_sideOf_169 : decode cX12_sideOf 169 = .ok (.getfield 50, 3) := by decide +kernel
theorem dX12_sideOf_172 : decode cX12_sideOf 172 = .ok (.iload 4, 2) := by decide +kernel
theorem dX12_sideOf_174 : decode cX12_sideOf 174 = .ok (.aaload, 1) := by decide +kernel
theorem dX12_sideOf_175 : decode cX12_sideOf 175 = .ok (.iload_n 1, 1) := by decide +kernel
theorem dX12_sideOf_176 : decode cX12_sideOf 176 = .ok (.laload, 1) := by decide +kernel
theorem dX12_sideOf_177 : decode cX12_sideOf 177 = .ok (.lcmp, 1) := by decide +kernel
theorem dX12_sideOf_178 : decode cX12_sideOf 178 = .ok (.ifCond .ne 28, 3) := by decide +kernel
theorem dX12_sideOf_181 : decode cX12_sideOf 181 = .ok (.goto 23, 3) := by decide +kernel
theorem dX12_sideOf_184 : decode cX12_sideOf 184 = .ok (.aload_n 0, 1) := by decide +kernel
theorem dX12_sideOf_185 : decode cX12_sideOf 185 = .ok (.getfield 53, 3) := by decide +kernel
theorem dX12_sideOf_188 : decode cX12_sideOf 188 = .ok (.iload_n 3, 1) := by decide +kernel
theorem dX12_sideOf_189 : decode cX12_sideOf 189 = .ok (.aaload, 1) := by decide +kernel
theorem dX12_sideOf_190 : decode cX12_sideOf 190 = .ok (.iload_n 1, 1) := by decide +kernel
theorem dX12_sideOf_191 : decode cX12_sideOf 191 = .ok (.iaload, 1) := by decide +kernel
theorem dX12_sideOf_192 : decode cX12_sideOf 192 = .ok (.aload_n 0, 1) := by decide +kernel
theorem dX12_sideOf_193 : decode cX12_sideOf 193 = .ok (.getfield 53, 3) := by decide +kernel
theorem dX12_sideOf_196 : decode cX12_sideOf 196 = .ok (.iload 4, 2) := by decide +kernel
theorem dX12_sideOf_198 : decode cX12_sideOf 198 = .ok (.aaload, 1) := by decide +kernel
theorem dX12_sideOf_199 : decode cX12_sideOf 199 = .ok (.iload_n 1, 1) := by decide +kernel
theorem dX12_sideOf_200 : decode cX12_sideOf 200 = .ok (.iaload, 1) := by decide +kernel
theorem dX12_sideOf_201 : decode cX12_sideOf 201 = .ok (.if_icmp .ne 5, 3) := by decide +kernel
theorem dX12_sideOf_204 : decode cX12_sideOf 204 = .ok (.iload_n 2, 1) := by decide +kernel
theorem dX12_sideOf_205 : decode cX12_sideOf 205 = .ok (.ireturn, 1) := by decide +kernel
theorem dX12_sideOf_206 : decode cX12_sideOf 206 = .ok (.aload_n 0, 1) := by decide +kernel
theorem dX12_sideOf_207 : decode cX12_sideOf 207 = .ok (.iload_n 1, 1) := by decide +kernel
theorem dX12_sideOf_208 : decode cX12_sideOf 208 = .ok (.iload 5, 2) := by decide +kernel
theorem dX12_sideOf_210 : decode cX12_sideOf 210 = .ok (.ifCond .eq 7, 3) := by decide +kernel
theorem dX12_sideOf_213 : decode cX12_sideOf 213 = .ok (.iconst 2, 1) := by decide +kernel
theorem dX12_sideOf_214 : decode cX12_sideOf 214 = .ok (.goto 4, 3) := by decide +kernel
theorem dX12_sideOf_217 : decode cX12_sideOf 217 = .ok (.iconst 3, 1) := by decide +kernel
theorem dX12_sideOf_218 : decode cX12_sideOf 218 = .ok (.iload_n 2, 1) := by decide +kernel
theorem dX12_sideOf_219 : decode cX12_sideOf 219 = .ok (.iload_n 3, 1) := by decide +kernel
theorem dX12_sideOf_220 : decode cX12_sideOf 220 = .ok (.invokevirtual 461, 3) := by decide +kernel
theorem dX12_sideOf_223 : decode cX12_sideOf 223 = .ok (.istore 7, 2) := by decide +kernel
theorem dX12_sideOf_225 : decode cX12_sideOf 225 = .ok (.iload 7, 2) := by decide +kernel
theorem dX12_sideOf_227 : decode cX12_sideOf 227 = .ok (.iconst (-1), 1) := by decide +kernel
theorem dX12_sideOf_228 : decode cX12_sideOf 228 = .ok (.if_icmp .ne 8, 3) := by decide +kernel
theorem dX12_sideOf_231 : decode cX12_sideOf 231 = .ok (.bipush (-2), 2) := by decide +kernel
theorem dX12_sideOf_233 : decode cX12_sideOf 233 = .ok (.goto 5, 3) := by decide +kernel
theorem dX12_sideOf_236 : decode cX12_sideOf 236 = .ok (.iload 7, 2) := by decide +kernel
theorem dX12_sideOf_238 : decode cX12_sideOf 238 = .ok (.ireturn, 1) := by decide +kernel
theorem dX12_size_0 : decode cX12_size 0 = .ok (.iconst 0, 1) := by decide +kernel
theorem dX12_size_1 : decode cX12_size 1 = .ok (.istore_n 2, 1) := by decide +kernel
theorem dX12_size_2 : decode cX12_size 2 = .ok (.iconst 0, 1) := by decide +kernel
theorem dX12_size_3 : decode cX12_size 3 = .ok (.istore_n 3, 1) := by decide +kernel
theorem dX12_size_4 : decode cX12_size 4 = .ok (.iload_n 3, 1) := by decide +kernel
theorem dX12_size_5 : decode cX12_size 5 = .ok (.sipush 150, 3) := by decide +kernel
theorem dX12_size_8 : decode cX12_size 8 = .ok (.if_icmp .ge 28, 3) := by decide +kernel
theorem dX12_size_11 : decode cX12_size 11 = .ok (.iload_n 2, 1) := by decide +kernel
theorem dX12_size_12 : decode cX12_size 12 = .ok (.aload_n 0, 1) := by decide +kernel
theorem dX12_size_13 : decode cX12_size 13 = .ok (.getfield 45, 3) := by decide +kernel
theorem dX12_size_16 : decode cX12_size 16 = .ok (.iload_n 1, 1) := by decide +kernel
theorem dX12_size_17 : decode cX12_size 17 = .ok (.aaload, 1) := by decide +kernel
theorem dX12_size_18 : decode cX12_size 18 = .ok (.iload_n 3, 1) := by decide +kernel
theorem dX12_size_19 : decode cX12_size 19 = .ok (.baload, 1) := by decide +kernel
theorem dX12_size_20 : decode cX12_size 20 = .ok (.ifCond .eq 7, 3) := by decide +kernel
theorem dX12_size_23 : decode cX12_size 23 = .ok (.iconst 1, 1) := by decide +kernel
theorem dX12_size_24 : decode cX12_size 24 = .ok (.goto 4, 3) := by decide +kernel
theorem dX12_size_27 : decode cX12_size 27 = .ok (.iconst 0, 1) := by decide +kernel
theorem dX12_size_28 : decode cX12_size 28 = .ok (.iadd, 1) := by decide +kernel
theorem dX12_size_29 : decode cX12_size 29 = .ok (.istore_n 2, 1) := by decide +kernel
theorem dX12_size_30 : decode cX12_size 30 = .ok (.iinc 3 1, 3) := by decide +kernel
theorem dX12_size_33 : decode cX12_size 33 = .ok (.goto (-29), 3) := by decide +kernel
theorem dX12_size_36 : decode cX12_size 36 = .ok (.iload_n 2, 1) := by decide +kernel
theorem dX12_size_37 : decode cX12_size 37 = .ok (.ireturn, 1) := by decide +kernel
theorem dX12_skips_0 : decode cX12_skips 0 = .ok (.aload_n 0, 1) := by decide +kernel
theorem dX12_skips_1 : decode cX12_skips 1 = .ok (.getfield 179, 3) := by decide +kernel
theorem dX12_skips_4 : decode cX12_skips 4 = .ok (.aload_n 0, 1) := by decide +kernel
theorem dX12_skips_5 : decode cX12_skips 5 = .ok (.getfield 163, 3) := by decide +kernel
theorem dX12_skips_8 : decode cX12_skips 8 = .ok (.if_icmp .ge 44, 3) := by decide +kernel
theorem dX12_skips_11 : decode cX12_skips 11 = .ok (.aload_n 0, 1) := by decide +kernel
theorem dX12_skips_12 : decode cX12_skips 12 = .ok (.getfield 9, 3) := by decide +kernel
theorem dX12_skips_15 : decode cX12_skips 15 = .ok (.aload_n 0, 1) := by decide +kernel
theorem dX12_skips_16 : decode cX12_skips 16 = .ok (.getfield 179, 3) := by decide +kernel
theorem dX12_skips_19 : decode cX12_skips 19 = .ok (.baload, 1) := by decide +kernel
theorem dX12_skips_20 : decode cX12_skips 20 = .ok (.bipush 32, 2) := by decide +kernel
theorem dX12_skips_22 : decode cX12_skips 22 = .ok (.if_icmp .eq 17, 3) := by decide +kernel
theorem dX12_skips_25 : decode cX12_skips 25 = .ok (.aload_n 0, 1) := by decide +kernel
theorem dX12_skips_26 : decode cX12_skips 26 = .ok (.getfield 9, 3) := by decide +kernel
theorem dX12_skips_29 : decode cX12_skips 29 = .ok (.aload_n 0, 1) := by decide +kernel
theorem dX12_skips_30 : decode cX12_skips 30 = .ok (.getfield 179, 3) := by decide +kernel
theorem dX12_skips_33 : decode cX12_skips 33 = .ok (.baload, 1) := by decide +kernel
theorem dX12_skips_34 : decode cX12_skips 34 = .ok (.bipush 10, 2) := by decide +kernel
theorem dX12_skips_36 : decode cX12_skips 36 = .ok (.if_icmp .ne 16, 3) := by decide +kernel
theorem dX12_skips_39 : decode cX12_skips 39 = .ok (.aload_n 0, 1) := by decide +kernel
theorem dX12_skips_40 : decode cX12_skips 40 = .ok (.dup, 1) := by decide +kernel
theorem dX12_skips_41 : decode cX12_skips 41 = .ok (.getfield 179, 3) := by decide +kernel
theorem dX12_skips_44 : decode cX12_skips 44 = .ok (.iconst 1, 1) := by decide +kernel
theorem dX12_skips_45 : decode cX12_skips 45 = .ok (.iadd, 1) := by decide +kernel
theorem dX12_skips_46 : decode cX12_skips 46 = .ok (.putfield 179, 3) := by decide +kernel
theorem dX12_skips_49 : decode cX12_skips 49 = .ok (.goto (-49), 3) := by decide +kernel
theorem dX12_skips_52 : decode cX12_skips 52 = .ok (.aload_n 0, 1) := by decide +kernel
theorem dX12_skips_53 : decode cX12_skips 53 = .ok (.aload_n 0, 1) := by decide +kernel
theorem dX12_skips_54 : decode cX12_skips 54 = .ok (.getfield 179, 3) := by decide +kernel
theorem dX12_skips_57 : decode cX12_skips 57 = .ok (.putfield 182, 3) := by decide +kernel
theorem dX12_skips_60 : decode cX12_skips 60 = .ok (.aload_n 0, 1) := by decide +kernel
theorem dX12_skips_61 : decode cX12_skips 61 = .ok (.getfield 179, 3) := by decide +kernel
theorem dX12_skips_64 : decode cX12_skips 64 = .ok (.aload_n 0, 1) := by decide +kernel
theorem dX12_skips_65 : decode cX12_skips 65 = .ok (.getfield 163, 3) := by decide +kernel
theorem dX12_skips_68 : decode cX12_skips 68 = .ok (.if_icmp .ne 4, 3) := by decide +kernel
theorem dX12_skips_71 : decode cX12_skips 71 = .ok (.return_, 1) := by decide +kernel
theorem dX12_skips_72 : decode cX12_skips 72 = .ok (.aload_n 0, 1) := by decide +kernel
theorem dX12_skips_73 : decode cX12_skips 73 = .ok (.getfield 9, 3) := by decide +kernel
theorem dX12_skips_76 : decode cX12_skips 76 = .ok (.aload_n 0, 1) := by decide +kernel
theorem dX12_skips_77 : decode cX12_skips 77 = .ok (.getfield 179, 3) := by decide +kernel
theorem dX12_skips_80 : decode cX12_skips 80 = .ok (.baload, 1) := by decide +kernel
theorem dX12_skips_81 : decode cX12_skips 81 = .ok (.invokestatic 175, 3) := by decide +kernel
theorem dX12_skips_84 : decode cX12_skips 84 = .ok (.ifCond .eq 43, 3) := by decide +kernel
theorem dX12_skips_87 : decode cX12_skips 87 = .ok (.aload_n 0, 1) := by decide +kernel
theorem dX12_skips_88 : decode cX12_skips 88 = .ok (.getfield 182, 3) := by decide +kernel
theorem dX12_skips_91 : decode cX12_skips 91 = .ok (.aload_n 0, 1) := by decide +kernel
theorem dX12_skips_92 : decode cX12_skips 92 = .ok (.getfield 163, 3) := by decide +kernel
theorem dX12_skips_95 : decode cX12_skips 95 = .ok (.if_icmp .ge 31, 3) := by decide +kernel
theorem dX12_skips_98 : decode cX12_skips 98 = .ok (.aload_n 0, 1) := by decide +kernel
theorem dX12_skips_99 : decode cX12_skips 99 = .ok (.getfield 9, 3) := by decide +kernel
theorem dX12_skips_102 : decode cX12_skips 102 = .ok (.aload_n 0, 1) := by decide +kernel
theorem dX12_skips_103 : decode cX12_skips 103 = .ok (.getfield 182, 3) := by decide +kernel
theorem dX12_skips_106 : decode cX12_skips 106 = .ok (.baload, 1) := by decide +kernel
theorem dX12_skips_107 : decode cX12_skips 107 = .ok (.invokestatic 175, 3) := by decide +kernel
theorem dX12_skips_110 : decode cX12_skips 110 = .ok (.ifCond .eq 16, 3) := by decide +kernel
theorem dX12_skips_113 : decode cX12_skips 113 = .ok (.aload_n 0, 1) := by decide +kernel
theorem dX12_skips_114 : decode cX12_skips 114 = .ok (.dup, 1) := by decide +kernel
theorem dX12_skips_115 : decode cX12_skips 115 = .ok (.getfield 182, 3) := by decide +kernel
theorem dX12_skips_118 : decode cX12_skips 118 = .ok (.iconst 1, 1) := by decide +kernel
theorem dX12_skips_119 : decode cX12_skips 119 = .ok (.iadd, 1) := by decide +kernel
theorem dX12_skips_120 : decode cX12_skips 120 = .ok (.putfield 182, 3) := by decide +kernel
theorem dX12_skips_123 : decode cX12_skips 123 = .ok (.goto (-36), 3) := by decide +kernel
theorem dX12_skips_126 : decode cX12_skips 126 = .ok (.return_, 1) := by decide +kernel
theorem dX12_skips_127 : decode cX12_skips 127 = .ok (.aload_n 0, 1) := by decide +kernel
theorem dX12_skips_128 : decode cX12_skips 128 = .ok (.aload_n 0, 1) := by decide +kernel
theorem dX12_skips_129 : decode cX12_skips 129 = .ok (.getfield 179, 3) := by decide +kernel
theorem dX12_skips_132 : decode cX12_skips 132 = .ok (.iconst 1, 1) := by decide +kernel
theorem dX12_skips_133 : decode cX12_skips 133 = .ok (.iadd, 1) := by decide +kernel
theorem dX12_skips_134 : decode cX12_skips 134 = .ok (.putfield 182, 3) := by decide +kernel
theorem dX12_skips_137 : decode cX12_skips 137 = .ok (.aload_n 0, 1) := by decide +kernel
theorem dX12_skips_138 : decode cX12_skips 138 = .ok (.getfield 9, 3) := by decide +kernel
theorem dX12_skips_141 : decode cX12_skips 141 = .ok (.aload_n 0, 1) := by decide +kernel
theorem dX12_skips_142 : decode cX12_skips 142 = .ok (.getfield 179, 3) := by decide +kernel
theorem dX12_skips_145 : decode cX12_skips 145 = .ok (.baload, 1) := by decide +kernel
theorem dX12_skips_146 : decode cX12_skips 146 = .ok (.bipush 123, 2) := by decide +kernel
theorem dX12_skips_148 : decode cX12_skips 148 = .ok (.if_icmp .eq 4, 3) := by decide +kernel
theorem dX12_skips_151 : decode cX12_skips 151 = .ok (.return_, 1) := by decide +kernel
theorem dX12_skips_152 : decode cX12_skips 152 = .ok (.aload_n 0, 1) := by decide +kernel
theorem dX12_skips_153 : decode cX12_skips 153 = .ok (.getfield 182, 3) := by decide +kernel
theorem dX12_skips_156 : decode cX12_skips 156 = .ok (.aload_n 0, 1) := by decide +kernel
theorem dX12_skips_157 : decode cX12_skips 157 = .ok (.getfield 163, 3) := by decide +kernel
theorem dX12_skips_160 : decode cX12_skips 160 = .ok (.if_icmp .ge 31, 3) := by decide +kernel
theorem dX12_skips_163 : decode cX12_skips 163 = .ok (.aload_n 0, 1) := by decide +kernel
theorem dX12_skips_164 : decode cX12_skips 164 = .ok (.getfield 9, 3) := by decide +kernel
theorem dX12_skips_167 : decode cX12_skips 167 = .ok (.aload_n 0, 1) := by decide +kernel
theorem dX12_skips_168 : decode cX12_skips 168 = .ok (.getfield 182, 3) := by decide +kernel
theorem dX12_skips_171 : decode cX12_skips 171 = .ok (.baload, 1) := by decide +kernel
theorem dX12_skips_172 : decode cX12_skips 172 = .ok (.invokestatic 185, 3) := by decide +kernel
theorem dX12_skips_175 : decode cX12_skips 175 = .ok (.ifCond .eq 16, 3) := by decide +kernel
theorem dX12_skips_178 : decode cX12_skips 178 = .ok (.aload_n 0, 1) := by decide +kernel
theorem dX12_skips_179 : decode cX12_skips 179 = .ok (.dup, 1) := by decide +kernel
theorem dX12_skips_180 : decode cX12_skips 180 = .ok (.getfield 182, 3) := by decide +kernel
theorem dX12_skips_183 : decode cX12_skips 183 = .ok (.iconst 1, 1) := by decide +kernel
theorem dX12_skips_184 : decode cX12_skips 184 = .ok (.iadd, 1) := by decide +kernel
theorem dX12_skips_185 : decode cX12_skips 185 = .ok (.putfield 182, 3) := by decide +kernel
theorem dX12_skips_188 : decode cX12_skips 188 = .ok (.goto (-36), 3) := by decide +kernel
theorem dX12_skips_191 : decode cX12_skips 191 = .ok (.aload_n 0, 1) := by decide +kernel
theorem dX12_skips_192 : decode cX12_skips 192 = .ok (.getfield 182, 3) := by decide +kernel
theorem dX12_skips_195 : decode cX12_skips 195 = .ok (.aload_n 0, 1) := by decide +kernel
theorem dX12_skips_196 : decode cX12_skips 196 = .ok (.getfield 163, 3) := by decide +kernel
theorem dX12_skips_199 : decode cX12_skips 199 = .ok (.if_icmp .ge 52, 3) := by decide +kernel
theorem dX12_skips_202 : decode cX12_skips 202 = .ok (.aload_n 0, 1) := by decide +kernel
theorem dX12_skips_203 : decode cX12_skips 203 = .ok (.getfield 9, 3) := by decide +kernel
theorem dX12_skips_206 : decode cX12_skips 206 = .ok (.aload_n 0, 1) := by decide +kernel
theorem dX12_skips_207 : decode cX12_skips 207 = .ok (.getfield 182, 3) := by decide +kernel
theorem dX12_skips_210 : decode cX12_skips 210 = .ok (.baload, 1) := by decide +kernel
theorem dX12_skips_211 : decode cX12_skips 211 = .ok (.bipush 125, 2) := by decide +kernel
theorem dX12_skips_213 : decode cX12_skips 213 = .ok (.if_icmp .ne 38, 3) := by decide +kernel
theorem dX12_skips_216 : decode cX12_skips 216 = .ok (.aload_n 0, 1) := by decide +kernel
theorem dX12_skips_217 : decode cX12_skips 217 = .ok (.getfield 182, 3) := by decide +kernel
theorem dX12_skips_220 : decode cX12_skips 220 = .ok (.aload_n 0, 1) := by decide +kernel
theorem dX12_skips_221 : decode cX12_skips 221 = .ok (.getfield 179, 3) := by decide +kernel
theorem dX12_skips_224 : decode cX12_skips 224 = .ok (.isub, 1) := by decide +kernel
theorem dX12_skips_225 : decode cX12_skips 225 = .ok (.iconst 1, 1) := by decide +kernel
theorem dX12_skips_226 : decode cX12_skips 226 = .ok (.isub, 1) := by decide +kernel
theorem dX12_skips_227 : decode cX12_skips 227 = .ok (.i2l, 1) := by decide +kernel
theorem dX12_skips_228 : decode cX12_skips 228 = .ok (.lconst 1, 1) := by decide +kernel
theorem dX12_skips_229 : decode cX12_skips 229 = .ok (.ldc2_w 188, 3) := by decide +kernel
theorem dX12_skips_232 : decode cX12_skips 232 = .ok (.invokestatic 171, 3) := by decide +kernel
theorem dX12_skips_235 : decode cX12_skips 235 = .ok (.ifCond .eq 16, 3) := by decide +kernel
theorem dX12_skips_238 : decode cX12_skips 238 = .ok (.aload_n 0, 1) := by decide +kernel
theorem dX12_skips_239 : decode cX12_skips 239 = .ok (.dup, 1) := by decide +kernel
theorem dX12_skips_240 : decode cX12_skips 240 = .ok (.getfield 182, 3) := by decide +kernel
theorem dX12_skips_243 : decode cX12_skips 243 = .ok (.iconst 1, 1) := by decide +kernel
theorem dX12_skips_244 : decode cX12_skips 244 = .ok (.iadd, 1) := by decide +kernel
theorem dX12_skips_245 : decode cX12_skips 245 = .ok (.putfield 182, 3) := by decide +kernel
theorem dX12_skips_248 : decode cX12_skips 248 = .ok (.goto 13, 3) := by decide +kernel
theorem dX12_skips_251 : decode cX12_skips 251 = .ok (.aload_n 0, 1) := by decide +kernel
theorem dX12_skips_252 : decode cX12_skips 252 = .ok (.aload_n 0, 1) := by decide +kernel
theorem dX12_skips_253 : decode cX12_skips 253 = .ok (.getfield 179, 3) := by decide +kernel
theorem dX12_skips_256 : decode cX12_skips 256 = .ok (.iconst 1, 1) := by decide +kernel
theorem dX12_skips_257 : decode cX12_skips 257 = .ok (.iadd, 1) := by decide +kernel
theorem dX12_skips_258 : decode cX12_skips 258 = .ok (.putfield 182, 3) := by decide +kernel
theorem dX12_skips_261 : decode cX12_skips 261 = .ok (.return_, 1) := by decide +kernel
theorem dX12_stacks_0 : decode cX12_stacks 0 = .ok (.iconst 0, 1) := by decide +kernel
theorem dX12_stacks_1 : decode cX12_stacks 1 = .ok (.istore 4, 2) := by decide +kernel
theorem dX12_stacks_3 : decode cX12_stacks 3 = .ok (.iload 4, 2) := by decide +kernel
theorem dX12_stacks_5 : decode cX12_stacks 5 = .ok (.sipush 150, 3) := by decide +kernel
theorem dX12_stacks_8 : decode cX12_stacks 8 = .ok (.if_icmp .ge 117, 3) := by decide +kernel
theorem dX12_stacks_11 : decode cX12_stacks 11 = .ok (.aload_n 0, 1) := by decide +kernel
theorem dX12_stacks_12 : decode cX12_stacks 12 = .ok (.getfield 45, 3) := by decide +kernel
theorem dX12_stacks_15 : decode cX12_stacks 15 = .ok (.bipush 13, 2) := by decide +kernel
theorem dX12_stacks_17 : decode cX12_stacks 17 = .ok (.aaload, 1) := by decide +kernel
theorem dX12_stacks_18 : decode cX12_stacks 18 = .ok (.iload 4, 2) := by decide +kernel
theorem dX12_stacks_20 : decode cX12_stacks 20 = .ok (.iload 4, 2) := by decide +kernel
theorem dX12_stacks_22 : decode cX12_stacks 22 = .ok (.aload_n 0, 1) := by decide +kernel
theorem dX12_stacks_23 : decode cX12_stacks 23 = .ok (.getfield 336, 3) := by decide +kernel
theorem dX12_stacks_26 : decode cX12_stacks 26 = .ok (.if_icmp .ge 19, 3) := by decide +kernel
theorem dX12_stacks_29 : decode cX12_stacks 29 = .ok (.aload_n 0, 1) := by decide +kernel
theorem dX12_stacks_30 : decode cX12_stacks 30 = .ok (.iload 4, 2) := by decide +kernel
theorem dX12_stacks_32 : decode cX12_stacks 32 = .ok (.iload_n 1, 1) := by decide +kernel
theorem dX12_stacks_33 : decode cX12_stacks 33 = .ok (.iload_n 2, 1) := by decide +kernel
theorem dX12_stacks_34 : decode cX12_stacks 34 = .ok (.iload_n 3, 1) := by decide +kernel
theorem dX12_stacks_35 : decode cX12_stacks 35 = .ok (.invokevirtual 474, 3) := by decide +kernel
theorem dX12_stacks_38 : decode cX12_stacks 38 = .ok (.ifCond .eq 7, 3) := by decide +kernel
theorem dX12_stacks_41 : decode cX12_stacks 41 = .ok (.iconst 1, 1) := by decide +kernel
theorem dX12_stacks_42 : decode cX12_stacks 42 = .ok (.goto 4, 3) := by decide +kernel
theorem dX12_stacks_45 : decode cX12_stacks 45 = .ok (.iconst 0, 1) := by decide +kernel
theorem dX12_stacks_46 : decode cX12_stacks 46 = .ok (.bastore, 1) := by decide +kernel
theorem dX12_stacks_47 : decode cX12_stacks 47 = .ok (.aload_n 0, 1) := by decide +kernel
theorem dX12_stacks_48 : decode cX12_stacks 48 = .ok (.getfield 45, 3) := by decide +kernel
theorem dX12_stacks_51 : decode cX12_stacks 51 = .ok (.bipush 13, 2) := by decide +kernel
theorem dX12_stacks_53 : decode cX12_stacks 53 = .ok (.aaload, 1) := by decide +kernel
theorem dX12_stacks_54 : decode cX12_stacks 54 = .ok (.iload 4, 2) := by decide +kernel
theorem dX12_stacks_56 : decode cX12_stacks 56 = .ok (.baload, 1) := by decide +kernel
theorem dX12_stacks_57 : decode cX12_stacks 57 = .ok (.ifCond .ne 6, 3) := by decide +kernel
theorem dX12_stacks_60 : decode cX12_stacks 60 = .ok (.goto 59, 3) := by decide +kernel
theorem dX12_stacks_63 : decode cX12_stacks 63 = .ok (.aload_n 0, 1) := by decide +kernel
theorem dX12_stacks_64 : decode cX12_stacks 64 = .ok (.getfield 50, 3) := by decide +kernel
theorem dX12_stacks_67 : decode cX12_stacks 67 = .ok (.bipush 13, 2) := by decide +kernel
theorem dX12_stacks_69 : decode cX12_stacks 69 = .ok (.aaload, 1) := by decide +kernel
theorem dX12_stacks_70 : decode cX12_stacks 70 = .ok (.iload 4, 2) := by decide +kernel
theorem dX12_stacks_72 : decode cX12_stacks 72 = .ok (.aload_n 0, 1) := by decide +kernel
theorem dX12_stacks_73 : decode cX12_stacks 73 = .ok (.getfield 50, 3) := by decide +kernel
theorem dX12_stacks_76 : decode cX12_stacks 76 = .ok (.aload_n 0, 1) := by decide +kernel
theorem dX12_stacks_77 : decode cX12_stacks 77 = .ok (.iload 4, 2) := by decide +kernel
theorem dX12_stacks_79 : decode cX12_stacks 79 = .ok (.iload_n 1, 1) := by decide +kernel
theorem dX12_stacks_80 : decode cX12_stacks 80 = .ok (.iload_n 2, 1) := by decide +kernel
theorem dX12_stacks_81 : decode cX12_stacks 81 = .ok (.iload_n 3, 1) := by decide +kernel
theorem dX12_stacks_82 : decode cX12_stacks 82 = .ok (.iconst 1, 1) := by decide +kernel
theorem dX12_stacks_83 : decode cX12_stacks 83 = .ok (.invokevirtual 470, 3) := by decide +kernel
theorem dX12_stacks_86 : decode cX12_stacks 86 = .ok (.aaload, 1) := by decide +kernel
theorem dX12_stacks_87 : decode cX12_stacks 87 = .ok (.iload 4, 2) := by decide +kernel
theorem dX12_stacks_89 : decode cX12_stacks 89 = .ok (.laload, 1) := by decide +kernel
theorem dX12_stacks_90 : decode cX12_stacks 90 = .ok (.lastore, 1) := by decide +kernel
theorem dX12_stacks_91 : decode cX12_stacks 91 = .ok (.aload_n 0, 1) := by decide +kernel
theorem dX12_stacks_92 : decode cX12_stacks 92 = .ok (.getfield 53, 3) := by decide +kernel
theorem dX12_stacks_95 : decode cX12_stacks 95 = .ok (.bipush 13, 2) := by decide +kernel
theorem dX12_stacks_97 : decode cX12_stacks 97 = .ok (.aaload, 1) := by decide +kernel
theorem dX12_stacks_98 : decode cX12_stacks 98 = .ok (.iload 4, 2) := by decide +kernel
theorem dX12_stacks_100 : decode cX12_stacks 100 = .ok (.aload_n 0, 1) := by decide +kernel
theorem dX12_stacks_101 : decode cX12_stacks 101 = .ok (.getfield 53, 3) := by decide +kernel
theorem dX12_stacks_104 : decode cX12_stacks 104 = .ok (.aload_n 0, 1) := by decide +kernel
theorem dX12_stacks_105 : decode cX12_stacks 105 = .ok (.iload 4, 2) := by decide +kernel
theorem dX12_stacks_107 : decode cX12_stacks 107 = .ok (.iload_n 1, 1) := by decide +kernel
theorem dX12_stacks_108 : decode cX12_stacks 108 = .ok (.iload_n 2, 1) := by decide +kernel
theorem dX12_stacks_109 : decode cX12_stacks 109 = .ok (.iload_n 3, 1) := by decide +kernel
theorem dX12_stacks_110 : decode cX12_stacks 110 = .ok (.iconst 0, 1) := by decide +kernel
theorem dX12_stacks_111 : decode cX12_stacks 111 = .ok (.invokevirtual 470, 3) := by decide +kernel
theorem dX12_stacks_114 : decode cX12_stacks 114 = .ok (.aaload, 1) := by decide +kernel
theorem dX12_stacks_115 : decode cX12_stacks 115 = .ok (.iload 4, 2) := by decide +kernel
theorem dX12_stacks_117 : decode cX12_stacks 117 = .ok (.iaload, 1) := by decide +kernel
theorem dX12_stacks_118 : decode cX12_stacks 118 = .ok (.iastore, 1) := by decide +kernel
theorem dX12_stacks_119 : decode cX12_stacks 119 = .ok (.iinc 4 1, 3) := by decide +kernel
theorem dX12_stacks_122 : decode cX12_stacks 122 = .ok (.goto (-119), 3) := by decide +kernel
theorem dX12_stacks_125 : decode cX12_stacks 125 = .ok (.iconst 1, 1) := by decide +kernel
theorem dX12_stacks_126 : decode cX12_stacks 126 = .ok (.istore 4, 2) := by decide +kernel
theorem dX12_stacks_128 : decode cX12_stacks 128 = .ok (.iload 4, 2) := by decide +kernel
theorem dX12_stacks_130 : decode cX12_stacks 130 = .ok (.ifCond .eq 91, 3) := by decide +kernel
theorem dX12_stacks_133 : decode cX12_stacks 133 = .ok (.iconst 0, 1) := by decide +kernel
theorem dX12_stacks_134 : decode cX12_stacks 134 = .ok (.istore 4, 2) := by decide +kernel
theorem dX12_stacks_136 : decode cX12_stacks 136 = .ok (.iconst 0, 1) := by decide +kernel
theorem dX12_stacks_137 : decode cX12_stacks 137 = .ok (.istore 5, 2) := by decide +kernel
theorem dX12_stacks_139 : decode cX12_stacks 139 = .ok (.iload 5, 2) := by decide +kernel
theorem dX12_stacks_141 : decode cX12_stacks 141 = .ok (.sipush 150, 3) := by decide +kernel
theorem dX12_stacks_144 : decode cX12_stacks 144 = .ok (.if_icmp .ge 74, 3) := by decide +kernel
theorem dX12_stacks_147 : decode cX12_stacks 147 = .ok (.aload_n 0, 1) := by decide +kernel
theorem dX12_stacks_148 : decode cX12_stacks 148 = .ok (.getfield 45, 3) := by decide +kernel
theorem dX12_stacks_151 : decode cX12_stacks 151 = .ok (.bipush 13, 2) := by decide +kernel
theorem dX12_stacks_153 : decode cX12_stacks 153 = .ok (.aaload, 1) := by decide +kernel
theorem dX12_stacks_154 : decode cX12_stacks 154 = .ok (.iload 5, 2) := by decide +kernel
theorem dX12_stacks_156 : decode cX12_stacks 156 = .ok (.baload, 1) := by decide +kernel
theorem dX12_stacks_157 : decode cX12_stacks 157 = .ok (.ifCond .eq 55, 3) := by decide +kernel
theorem dX12_stacks_160 : decode cX12_stacks 160 = .ok (.aload_n 0, 1) := by decide +kernel
theorem dX12_stacks_161 : decode cX12_stacks 161 = .ok (.getfield 53, 3) := by decide +kernel
theorem dX12_stacks_164 : decode cX12_stacks 164 = .ok (.bipush 13, 2) := by decide +kernel
theorem dX12_stacks_166 : decode cX12_stacks 166 = .ok (.aaload, 1) := by decide +kernel
theorem dX12_stacks_167 : decode cX12_stacks 167 = .ok (.iload 5, 2) := by decide +kernel
theorem dX12_stacks_169 : decode cX12_stacks 169 = .ok (.iaload, 1) := by decide +kernel
theorem dX12_stacks_170 : decode cX12_stacks 170 = .ok (.iconst (-1), 1) := by decide +kernel
theorem dX12_stacks_171 : decode cX12_stacks 171 = .ok (.if_icmp .eq 41, 3) := by decide +kernel
theorem dX12_stacks_174 : decode cX12_stacks 174 = .ok (.aload_n 0, 1) := by decide +kernel
theorem dX12_stacks_175 : decode cX12_stacks 175 = .ok (.getfield 45, 3) := by decide +kernel
theorem dX12_stacks_178 : decode cX12_stacks 178 = .ok (.bipush 13, 2) := by decide +kernel
theorem dX12_stacks_180 : decode cX12_stacks 180 = .ok (.aaload, 1) := by decide +kernel
theorem dX12_stacks_181 : decode cX12_stacks 181 = .ok (.aload_n 0, 1) := by decide +kernel
theorem dX12_stacks_182 : decode cX12_stacks 182 = .ok (.getfield 53, 3) := by decide +kernel
theorem dX12_stacks_185 : decode cX12_stacks 185 = .ok (.bipush 13, 2) := by decide +kernel
theorem dX12_stacks_187 : decode cX12_stacks 187 = .ok (.aaload, 1) := by decide +kernel
theorem dX12_stacks_188 : decode cX12_stacks 188 = .ok (.iload 5, 2) := by decide +kernel
theorem dX12_stacks_190 : decode cX12_stacks 190 = .ok (.iaload, 1) := by decide +kernel
theorem dX12_stacks_191 : decode cX12_stacks 191 = .ok (.baload, 1) := by decide +kernel
theorem dX12_stacks_192 : decode cX12_stacks 192 = .ok (.ifCond .eq 6, 3) := by decide +kernel
theorem dX12_stacks_195 : decode cX12_stacks 195 = .ok (.goto 17, 3) := by decide +kernel
theorem dX12_stacks_198 : decode cX12_stacks 198 = .ok (.aload_n 0, 1) := by decide +kernel
theorem dX12_stacks_199 : decode cX12_stacks 199 = .ok (.getfield 45, 3) := by decide +kernel
theorem dX12_stacks_202 : decode cX12_stacks 202 = .ok (.bipush 13, 2) := by decide +kernel
theorem dX12_stacks_204 : decode cX12_stacks 204 = .ok (.aaload, 1) := by decide +kernel
theorem dX12_stacks_205 : decode cX12_stacks 205 = .ok (.iload 5, 2) := by decide +kernel
theorem dX12_stacks_207 : decode cX12_stacks 207 = .ok (.iconst 0, 1) := by decide +kernel
theorem dX12_stacks_208 : decode cX12_stacks 208 = .ok (.bastore, 1) := by decide +kernel
theorem dX12_stacks_209 : decode cX12_stacks 209 = .ok (.iconst 1, 1) := by decide +kernel
theorem dX12_stacks_210 : decode cX12_stacks 210 = .ok (.istore 4, 2) := by decide +kernel
theorem dX12_stacks_212 : decode cX12_stacks 212 = .ok (.iinc 5 1, 3) := by decide +kernel
theorem dX12_stacks_215 : decode cX12_stacks 215 = .ok (.goto (-76), 3) := by decide +kernel
theorem dX12_stacks_218 : decode cX12_stacks 218 = .ok (.goto (-90), 3) := by decide +kernel
theorem dX12_stacks_221 : decode cX12_stacks 221 = .ok (.return_, 1) := by decide +kernel
theorem dX12_stands_0 : decode cX12_stands 0 = .ok (.aload_n 0, 1) := by decide +kernel
theorem dX12_stands_1 : decode cX12_stands 1 = .ok (.getfield 45, 3) := by decide +kernel
theorem dX12_stands_4 : decode cX12_stands 4 = .ok (.iload_n 2, 1) := by decide +kernel
theorem dX12_stands_5 : decode cX12_stands 5 = .ok (.aaload, 1) := by decide +kernel
theorem dX12_stands_6 : decode cX12_stands 6 = .ok (.iload_n 1, 1) := by decide +kernel
theorem dX12_stands_7 : decode cX12_stands 7 = .ok (.baload, 1) := by decide +kernel
theorem dX12_stands_8 : decode cX12_stands 8 = .ok (.ifCond .eq 16, 3) := by decide +kernel
theorem dX12_stands_11 : decode cX12_stands 11 = .ok (.aload_n 0, 1) := by decide +kernel
theorem dX12_stands_12 : decode cX12_stands 12 = .ok (.getfield 45, 3) := by decide +kernel
theorem dX12_stands_15 : decode cX12_stands 15 = .ok (.iload_n 3, 1) := by decide +kernel
theorem dX12_stands_16 : decode cX12_stands 16 = .ok (.aaload, 1) := by decide +kernel
theorem dX12_stands_17 : decode cX12_stands 17 = .ok (.iload_n 1, 1) := by decide +kernel
theorem dX12_stands_18 : decode cX12_stands 18 = .ok (.baload, 1) := by decide +kernel
theorem dX12_stands_19 : decode cX12_stands 19 = .ok (.ifCond .eq 5, 3) := by decide +kernel
theorem dX12_stands_22 : decode cX12_stands 22 = .ok (.iconst 1, 1) := by decide +kernel
theorem dX12_stands_23 : decode cX12_stands 23 = .ok (.ireturn, 1) := by decide +kernel
theorem dX12_stands_24 : decode cX12_stands 24 = .ok (.aload_n 0, 1) := by decide +kernel
theorem dX12_stands_25 : decode cX12_stands 25 = .ok (.getfield 45, 3) := by decide +kernel
theorem dX12_stands_28 : decode cX12_stands 28 = .ok (.iload_n 2, 1) := by decide +kernel
theorem dX12_stands_29 : decode cX12_stands 29 = .ok (.aaload, 1) := by decide +kernel
theorem dX12_stands_30 : decode cX12_stands 30 = .ok (.iload_n 1, 1) := by decide +kernel
theorem dX12_stands_31 : decode cX12_stands 31 = .ok (.baload, 1) := by decide +kernel
theorem dX12_stands_32 : decode cX12_stands 32 = .ok (.ifCond .ne 16, 3) := by decide +kernel
theorem dX12_stands_35 : decode cX12_stands 35 = .ok (.aload_n 0, 1) := by decide +kernel
theorem dX12_stands_36 : decode cX12_stands 36 = .ok (.getfield 45, 3) := by decide +kernel
theorem dX12_stands_39 : decode cX12_stands 39 = .ok (.iload_n 3, 1) := by decide +kernel
theorem dX12_stands_40 : decode cX12_stands 40 = .ok (.aaload, 1) := by decide +kernel
theorem dX12_stands_41 : decode cX12_stands 41 = .ok (.iload_n 1, 1) := by decide +kernel
theorem dX12_stands_42 : decode cX12_stands 42 = .ok (.baload, 1) := by decide +kernel
theorem dX12_stands_43 : decode cX12_stands 43 = .ok (.ifCond .ne 5, 3) := by decide +kernel
theorem dX12_stands_46 : decode cX12_stands 46 = .ok (.iconst 0, 1) := by decide +kernel
theorem dX12_stands_47 : decode cX12_stands 47 = .ok (.ireturn, 1) := by decide +kernel
theorem dX12_stands_48 : decode cX12_stands 48 = .ok (.aload_n 0, 1) := by decide +kernel
theorem dX12_stands_49 : decode cX12_stands 49 = .ok (.getfield 45, 3) := by decide +kernel
theorem dX12_stands_52 : decode cX12_stands 52 = .ok (.iload 4, 2) := by decide +kernel
theorem dX12_stands_54 : decode cX12_stands 54 = .ok (.aaload, 1) := by decide +kernel
theorem dX12_stands_55 : decode cX12_stands 55 = .ok (.iload_n 1, 1) := by decide +kernel
theorem dX12_stands_56 : decode cX12_stands 56 = .ok (.baload, 1) := by decide +kernel
theorem dX12_stands_57 : decode cX12_stands 57 = .ok (.ifCond .ne 5, 3) := by decide +kernel
theorem dX12_stands_60 : decode cX12_stands 60 = .ok (.iconst 1, 1) := by decide +kernel
theorem dX12_stands_61 : decode cX12_stands 61 = .ok (.ireturn, 1) := by decide +kernel
theorem dX12_stands_62 : decode cX12_stands 62 = .ok (.aload_n 0, 1) := by decide +kernel
theorem dX12_stands_63 : decode cX12_stands 63 = .ok (.getfield 45, 3) := by decide +kernel
theorem dX12_stands_66 : decode cX12_stands 66 = .ok (.iload_n 2, 1) := by decide +kernel
theorem dX12_stands_67 : decode cX12_stands 67 = .ok (.aaload, 1) := by decide +kernel
theorem dX12_stands_68 : decode cX12_stands 68 = .ok (.iload_n 1, 1) := by decide +kernel
theorem dX12_stands_69 : decode cX12_stands 69 = .ok (.baload, 1) := by decide +kernel
theorem dX12_stands_70 : decode cX12_stands 70 = .ok (.ifCond .eq 7, 3) := by decide +kernel
theorem dX12_stands_73 : decode cX12_stands 73 = .ok (.iload_n 2, 1) := by decide +kernel
theorem dX12_stands_74 : decode cX12_stands 74 = .ok (.goto 4, 3) := by decide +kernel
theorem dX12_stands_77 : decode cX12_stands 77 = .ok (.iload_n 3, 1) := by decide +kernel
theorem dX12_stands_78 : decode cX12_stands 78 = .ok (.istore 5, 2) := by decide +kernel
theorem dX12_stands_80 : decode cX12_stands 80 = .ok (.aload_n 0, 1) := by decide +kernel
theorem dX12_stands_81 : decode cX12_stands 81 = .ok (.iload 5, 2) := by decide +kernel
theorem dX12_stands_83 : decode cX12_stands 83 = .ok (.iload_n 1, 1) := by decide +kernel
theorem dX12_stands_84 : decode cX12_stands 84 = .ok (.iload 4, 2) := by decide +kernel
theorem dX12_stands_86 : decode cX12_stands 86 = .ok (.invokevirtual 465, 3) := by decide +kernel
theorem dX12_stands_89 : decode cX12_stands 89 = .ok (.ifCond .ne 5, 3) := by decide +kernel
theorem dX12_stands_92 : decode cX12_stands 92 = .ok (.iconst 0, 1) := by decide +kernel
theorem dX12_stands_93 : decode cX12_stands 93 = .ok (.ireturn, 1) := by decide +kernel
theorem dX12_stands_94 : decode cX12_stands 94 = .ok (.aload_n 0, 1) := by decide +kernel
theorem dX12_stands_95 : decode cX12_stands 95 = .ok (.iload_n 1, 1) := by decide +kernel
theorem dX12_stands_96 : decode cX12_stands 96 = .ok (.iconst 1, 1) := by decide +kernel
theorem dX12_stands_97 : decode cX12_stands 97 = .ok (.iload_n 2, 1) := by decide +kernel
theorem dX12_stands_98 : decode cX12_stands 98 = .ok (.iload_n 3, 1) := by decide +kernel
theorem dX12_stands_99 : decode cX12_stands 99 = .ok (.invokevirtual 461, 3) := by decide +kernel
theorem dX12_stands_102 : decode cX12_stands 102 = .ok (.iload 5, 2) := by decide +kernel
theorem dX12_stands_104 : decode cX12_stands 104 = .ok (.if_icmp .ne 7, 3) := by decide +kernel
theorem dX12_stands_107 : decode cX12_stands 107 = .ok (.iconst 1, 1) := by decide +kernel
theorem dX12_stands_108 : decode cX12_stands 108 = .ok (.goto 4, 3) := by decide +kernel
theorem dX12_stands_111 : decode cX12_stands 111 = .ok (.iconst 0, 1) := by decide +kernel
theorem dX12_stands_112 : decode cX12_stands 112 = .ok (.ireturn, 1) := by decide +kernel
theorem dX12_suits_0 : decode cX12_suits 0 = .ok (.aload_n 0, 1) := by decide +kernel
theorem dX12_suits_1 : decode cX12_suits 1 = .ok (.getfield 124, 3) := by decide +kernel
theorem dX12_suits_4 : decode cX12_suits 4 = .ok (.iload_n 3, 1) := by decide +kernel
theorem dX12_suits_5 : decode cX12_suits 5 = .ok (.iaload, 1) := by decide +kernel
theorem dX12_suits_6 : decode cX12_suits 6 = .ok (.istore 5, 2) := by decide +kernel
theorem dX12_suits_8 : decode cX12_suits 8 = .ok (.iload_n 2, 1) := by decide +kernel
theorem dX12_suits_9 : decode cX12_suits 9 = .ok (.iconst 1, 1) := by decide +kernel
theorem dX12_suits_10 : decode cX12_suits 10 = .ok (.if_icmp .ne 13, 3) := by decide +kernel
theorem dX12_suits_13 : decode cX12_suits 13 = .ok (.aload_n 0, 1) := by decide +kernel
theorem dX12_suits_14 : decode cX12_suits 14 = .ok (.iload_n 1, 1) := by decide +kernel
theorem dX12_suits_15 : decode cX12_suits 15 = .ok (.iload 5, 2) := by decide +kernel
theorem dX12_suits_17 : decode cX12_suits 17 = .ok (.iload 4, 2) := by decide +kernel
theorem dX12_suits_19 : decode cX12_suits 19 = .ok (.invokevirtual 376, 3) := by decide +kernel
theorem dX12_suits_22 : decode cX12_suits 22 = .ok (.ireturn, 1) := by decide +kernel
theorem dX12_suits_23 : decode cX12_suits 23 = .ok (.aload_n 0, 1) := by decide +kernel
theorem dX12_suits_24 : decode cX12_suits 24 = .ok (.getfield 59, 3) := by decide +kernel
theorem dX12_suits_27 : decode cX12_suits 27 = .ok (.iload 5, 2) := by decide +kernel
theorem dX12_suits_29 : decode cX12_suits 29 = .ok (.iaload, 1) := by decide +kernel
theorem dX12_suits_30 : decode cX12_suits 30 = .ok (.aload_n 0, 1) := by decide +kernel
theorem dX12_suits_31 : decode cX12_suits 31 = .ok (.getfield 65, 3) := by decide +kernel
theorem dX12_suits_34 : decode cX12_suits 34 = .ok (.iload 4, 2) := by decide +kernel
theorem dX12_suits_36 : decode cX12_suits 36 = .ok (.iaload, 1) := by decide +kernel
theorem dX12_suits_37 : decode cX12_suits 37 = .ok (.if_icmp .eq 5, 3) := by decide +kernel
theorem dX12_suits_40 : decode cX12_suits 40 = .ok (.iconst 0, 1) := by decide +kernel
theorem dX12_suits_41 : decode cX12_suits 41 = .ok (.ireturn, 1) := by decide +kernel
theorem dX12_suits_42 : decode cX12_suits 42 = .ok (.aload_n 0, 1) := by decide +kernel
theorem dX12_suits_43 : decode cX12_suits 43 = .ok (.getfield 50, 3) := by decide +kernel
theorem dX12_suits_46 : decode cX12_suits 46 = .ok (.iload_n 1, 1) := by decide +kernel
theorem dX12_suits_47 : decode cX12_suits 47 = .ok (.aaload, 1) := by decide +kernel
theorem dX12_suits_48 : decode cX12_suits 48 = .ok (.iload 5, 2) := by decide +kernel
theorem dX12_suits_50 : decode cX12_suits 50 = .ok (.laload, 1) := by decide +kernel
theorem dX12_suits_51 : decode cX12_suits 51 = .ok (.aload_n 0, 1) := by decide +kernel
theorem dX12_suits_52 : decode cX12_suits 52 = .ok (.getfield 50, 3) := by decide +kernel
theorem dX12_suits_55 : decode cX12_suits 55 = .ok (.bipush 15, 2) := by decide +kernel
theorem dX12_suits_57 : decode cX12_suits 57 = .ok (.aaload, 1) := by decide +kernel
theorem dX12_suits_58 : decode cX12_suits 58 = .ok (.iload 4, 2) := by decide +kernel
theorem dX12_suits_60 : decode cX12_suits 60 = .ok (.laload, 1) := by decide +kernel
theorem dX12_suits_61 : decode cX12_suits 61 = .ok (.lcmp, 1) := by decide +kernel
theorem dX12_suits_62 : decode cX12_suits 62 = .ok (.ifCond .ne 7, 3) := by decide +kernel
theorem dX12_suits_65 : decode cX12_suits 65 = .ok (.iconst 1, 1) := by decide +kernel
theorem dX12_suits_66 : decode cX12_suits 66 = .ok (.goto 4, 3) := by decide +kernel
theorem dX12_suits_69 : decode cX12_suits 69 = .ok (.iconst 0, 1) := by decide +kernel
theorem dX12_suits_70 : decode cX12_suits 70 = .ok (.istore 6, 2) := by decide +kernel
theorem dX12_suits_72 : decode cX12_suits 72 = .ok (.iload_n 2, 1) := by decide +kernel
theorem dX12_suits_73 : decode cX12_suits 73 = .ok (.iconst 2, 1) := by decide +kernel
theorem dX12_suits_74 : decode cX12_suits 74 = .ok (.if_icmp .ne 27, 3) := by decide +kernel
theorem dX12_suits_77 : decode cX12_suits 77 = .ok (.iload 6, 2) := by decide +kernel
theorem dX12_suits_79 : decode cX12_suits 79 = .ok (.ifCond .eq 18, 3) := by decide +kernel
theorem dX12_suits_82 : decode cX12_suits 82 = .ok (.aload_n 0, 1) := by decide +kernel
theorem dX12_suits_83 : decode cX12_suits 83 = .ok (.iload_n 1, 1) := by decide +kernel
theorem dX12_suits_84 : decode cX12_suits 84 = .ok (.iload_n 3, 1) := by decide +kernel
theorem dX12_suits_85 : decode cX12_suits 85 = .ok (.iload 4, 2) := by decide +kernel
theorem dX12_suits_87 : decode cX12_suits 87 = .ok (.invokevirtual 360, 3) := by decide +kernel
theorem dX12_suits_90 : decode cX12_suits 90 = .ok (.ifCond .eq 7, 3) := by decide +kernel
theorem dX12_suits_93 : decode cX12_suits 93 = .ok (.iconst 1, 1) := by decide +kernel
theorem dX12_suits_94 : decode cX12_suits 94 = .ok (.goto 25, 3) := by decide +kernel
theorem dX12_suits_97 : decode cX12_suits 97 = .ok (.iconst 0, 1) := by decide +kernel
theorem dX12_suits_98 : decode cX12_suits 98 = .ok (.goto 21, 3) := by decide +kernel
theorem dX12_suits_101 : decode cX12_suits 101 = .ok (.iload_n 2, 1) := by decide +kernel
theorem dX12_suits_102 : decode cX12_suits 102 = .ok (.iconst 3, 1) := by decide +kernel
theorem dX12_suits_103 : decode cX12_suits 103 = .ok (.if_icmp .ne 14, 3) := by decide +kernel
theorem dX12_suits_106 : decode cX12_suits 106 = .ok (.aload_n 0, 1) := by decide +kernel
theorem dX12_suits_107 : decode cX12_suits 107 = .ok (.iload_n 1, 1) := by decide +kernel
theorem dX12_suits_108 : decode cX12_suits 108 = .ok (.iload_n 3, 1) := by decide +kernel
theorem dX12_suits_109 : decode cX12_suits 109 = .ok (.iload 4, 2) := by decide +kernel
theorem dX12_suits_111 : decode cX12_suits 111 = .ok (.invokevirtual 360, 3) := by decide +kernel
theorem dX12_suits_114 : decode cX12_suits 114 = .ok (.goto 5, 3) := by decide +kernel
theorem dX12_suits_117 : decode cX12_suits 117 = .ok (.iload 6, 2) := by decide +kernel
theorem dX12_suits_119 : decode cX12_suits 119 = .ok (.ireturn, 1) := by decide +kernel
theorem dX12_take_0 : decode cX12_take 0 = .ok (.aload_n 0, 1) := by decide +kernel
theorem dX12_take_1 : decode cX12_take 1 = .ok (.iload_n 1, 1) := by decide +kernel
theorem dX12_take_2 : decode cX12_take 2 = .ok (.invokevirtual 425, 3) := by decide +kernel
theorem dX12_take_5 : decode cX12_take 5 = .ok (.ifCond .eq 26, 3) := by decide +kernel
theorem dX12_take_8 : decode cX12_take 8 = .ok (.aload_n 0, 1) := by decide +kernel
theorem dX12_take_9 : decode cX12_take 9 = .ok (.bipush 12, 2) := by decide +kernel
theorem dX12_take_11 : decode cX12_take 11 = .ok (.iload_n 1, 1) := by decide +kernel
theorem dX12_take_12 : decode cX12_take 12 = .ok (.invokevirtual 315, 3) := by decide +kernel
theorem dX12_take_15 : decode cX12_take 15 = .ok (.ifCond .gt 16, 3) := by decide +kernel
theorem dX12_take_18 : decode cX12_take 18 = .ok (.aload_n 0, 1) := by decide +kernel
theorem dX12_take_19 : decode cX12_take 19 = .ok (.getfield 53, 3) := by decide +kernel
theorem dX12_take_22 : decode cX12_take 22 = .ok (.bipush 12, 2) := by decide +kernel
theorem dX12_take_24 : decode cX12_take 24 = .ok (.aaload, 1) := by decide +kernel
theorem dX12_take_25 : decode cX12_take 25 = .ok (.iload_n 1, 1) := by decide +kernel
theorem dX12_take_26 : decode cX12_take 26 = .ok (.iaload, 1) := by decide +kernel
theorem dX12_take_27 : decode cX12_take 27 = .ok (.iconst (-1), 1) := by decide +kernel
theorem dX12_take_28 : decode cX12_take 28 = .ok (.if_icmp .ne 5, 3) := by decide +kernel
theorem dX12_take_31 : decode cX12_take 31 = .ok (.iconst 0, 1) := by decide +kernel
theorem dX12_take_32 : decode cX12_take 32 = .ok (.ireturn, 1) := by decide +kernel
theorem dX12_take_33 : decode cX12_take 33 = .ok (.aload_n 0, 1) := by decide +kernel
theorem dX12_take_34 : decode cX12_take 34 = .ok (.getfield 53, 3) := by decide +kernel
theorem dX12_take_37 : decode cX12_take 37 = .ok (.bipush 12, 2) := by decide +kernel
theorem dX12_take_39 : decode cX12_take 39 = .ok (.aaload, 1) := by decide +kernel
theorem dX12_take_40 : decode cX12_take 40 = .ok (.iload_n 1, 1) := by decide +kernel
theorem dX12_take_41 : decode cX12_take 41 = .ok (.iaload, 1) := by decide +kernel
theorem dX12_take_42 : decode cX12_take 42 = .ok (.istore_n 2, 1) := by decide +kernel
theorem dX12_take_43 : decode cX12_take 43 = .ok (.aload_n 0, 1) := by decide +kernel
theorem dX12_take_44 : decode cX12_take 44 = .ok (.getfield 45, 3) := by decide +kernel
theorem dX12_take_47 : decode cX12_take 47 = .ok (.bipush 12, 2) := by decide +kernel
theorem dX12_take_49 : decode cX12_take 49 = .ok (.aaload, 1) := by decide +kernel
theorem dX12_take_50 : decode cX12_take 50 = .ok (.iload_n 1, 1) := by decide +kernel
theorem dX12_take_51 : decode cX12_take 51 = .ok (.iconst 0, 1) := by decide +kernel
theorem dX12_take_52 : decode cX12_take 52 = .ok (.bastore, 1) := by decide +kernel
theorem dX12_take_53 : decode cX12_take 53 = .ok (.aload_n 0, 1) := by decide +kernel
theorem dX12_take_54 : decode cX12_take 54 = .ok (.iload_n 2, 1) := by decide +kernel
theorem dX12_take_55 : decode cX12_take 55 = .ok (.invokevirtual 422, 3) := by decide +kernel
theorem dX12_take_58 : decode cX12_take 58 = .ok (.iconst 1, 1) := by decide +kernel
theorem dX12_take_59 : decode cX12_take 59 = .ok (.ireturn, 1) := by decide +kernel
theorem dX12_thirdQuarrels_0 : decode cX12_thirdQuarrels 0 = .ok (.iconst 0, 1) := by decide +kernel
theorem dX12_thirdQuarrels_1 : decode cX12_thirdQuarrels 1 = .ok (.istore 4, 2) := by decide +kernel
theorem dX12_thirdQuarrels_3 : decode cX12_thirdQuarrels 3 = .ok (.iload 4, 2) := by decide +kernel
theorem dX12_thirdQuarrels_5 : decode cX12_thirdQuarrels 5 = .ok (.sipush 150, 3) := by decide +kernel
theorem dX12_thirdQuarrels_8 : decode cX12_thirdQuarrels 8 = .ok (.if_icmp .ge 21, 3) := by decide +kernel
theorem dX12_thirdQuarrels_11 : decode cX12_thirdQuarrels 11 = .ok (.aload_n 0, 1) := by decide +kernel
theorem dX12_thirdQuarrels_12 : decode cX12_thirdQuarrels 12 = .ok (.getfield 56, 3) := by decide +kernel
theorem dX12_thirdQuarrels_15 : decode cX12_thirdQuarrels 15 = .ok (.bipush 13, 2) := by decide +kernel
theorem dX12_thirdQuarrels_17 : decode cX12_thirdQuarrels 17 = .ok (.aaload, 1) := by decide +kernel
theorem dX12_thirdQuarrels_18 : decode cX12_thirdQuarrels 18 = .ok (.iload 4, 2) := by decide +kernel
theorem dX12_thirdQuarrels_20 : decode cX12_thirdQuarrels 20 = .ok (.iload 4, 2) := by decide +kernel
theorem dX12_thirdQuarrels_22 : decode cX12_thirdQuarrels 22 = .ok (.iastore, 1) := by decide +kernel
theorem dX12_thirdQuarrels_23 : decode cX12_thirdQuarrels 23 = .ok (.iinc 4 1, 3) := by decide +kernel
theorem dX12_thirdQuarrels_26 : decode cX12_thirdQuarrels 26 = .ok (.goto (-23), 3) := by decide +kernel
theorem dX12_thirdQuarrels_29 : decode cX12_thirdQuarrels 29 = .ok (.iconst 0, 1) := by decide +kernel
theorem dX12_thirdQuarrels_30 : decode cX12_thirdQuarrels 30 = .ok (.istore 4, 2) := by decide +kernel
theorem dX12_thirdQuarrels_32 : decode cX12_thirdQuarrels 32 = .ok (.iload 4, 2) := by decide +kernel
theorem dX12_thirdQuarrels_34 : decode cX12_thirdQuarrels 34 = .ok (.sipush 150, 3) := by decide +kernel
theorem dX12_thirdQuarrels_37 : decode cX12_thirdQuarrels 37 = .ok (.if_icmp .ge 79, 3) := by decide +kernel
theorem dX12_thirdQuarrels_40 : decode cX12_thirdQuarrels 40 = .ok (.aload_n 0, 1) := by decide +kernel
theorem dX12_thirdQuarrels_41 : decode cX12_thirdQuarrels 41 = .ok (.getfield 154, 3) := by decide +kernel
theorem dX12_thirdQuarrels_44 : decode cX12_thirdQuarrels 44 = .ok (.iload 4, 2) := by decide +kernel
theorem dX12_thirdQuarrels_46 : decode cX12_thirdQuarrels 46 = .ok (.aload_n 0, 1) := by decide +kernel
theorem dX12_thirdQuarrels_47 : decode cX12_thirdQuarrels 47 = .ok (.getfield 45, 3) := by decide +kernel
theorem dX12_thirdQuarrels_50 : decode cX12_thirdQuarrels 50 = .ok (.bipush 13, 2) := by decide +kernel
theorem dX12_thirdQuarrels_52 : decode cX12_thirdQuarrels 52 = .ok (.aaload, 1) := by decide +kernel
theorem dX12_thirdQuarrels_53 : decode cX12_thirdQuarrels 53 = .ok (.iload 4, 2) := by decide +kernel
theorem dX12_thirdQuarrels_55 : decode cX12_thirdQuarrels 55 = .ok (.baload, 1) := by decide +kernel
theorem dX12_thirdQuarrels_56 : decode cX12_thirdQuarrels 56 = .ok (.ifCond .eq 35, 3) := by decide +kernel
theorem dX12_thirdQuarrels_59 : decode cX12_thirdQuarrels 59 = .ok (.aload_n 0, 1) := by decide +kernel
theorem dX12_thirdQuarrels_60 : decode cX12_thirdQuarrels 60 = .ok (.getfield 87, 3) := by decide +kernel
theorem dX12_thirdQuarrels_63 : decode cX12_thirdQuarrels 63 = .ok (.aload_n 0, 1) := by decide +kernel
theorem dX12_thirdQuarrels_64 : decode cX12_thirdQuarrels 64 = .ok (.getfield 59, 3) := by decide +kernel
theorem dX12_thirdQuarrels_67 : decode cX12_thirdQuarrels 67 = .ok (.iload 4, 2) := by decide +kernel
theorem dX12_thirdQuarrels_69 : decode cX12_thirdQuarrels 69 = .ok (.iaload, 1) := by decide +kernel
theorem dX12_thirdQuarrels_70 : decode cX12_thirdQuarrels 70 = .ok (.iaload, 1) := by decide +kernel
theorem dX12_thirdQuarrels_71 : decode cX12_thirdQuarrels 71 = .ok (.iconst 1, 1) := by decide +kernel
theorem dX12_thirdQuarrels_72 : decode cX12_thirdQuarrels 72 = .ok (.if_icmp .eq 19, 3) := by decide +kernel
theorem dX12_thirdQuarrels_75 : decode cX12_thirdQuarrels 75 = .ok (.aload_n 0, 1) := by decide +kernel
theorem dX12_thirdQuarrels_76 : decode cX12_thirdQuarrels 76 = .ok (.iload_n 1, 1) := by decide +kernel
theorem dX12_thirdQuarrels_77 : decode cX12_thirdQuarrels 77 = .ok (.iload_n 2, 1) := by decide +kernel
theorem dX12_thirdQuarrels_78 : decode cX12_thirdQuarrels 78 = .ok (.iload_n 3, 1) := by decide +kernel
theorem dX12_thirdQuarrels_79 : decode cX12_thirdQuarrels 79 = .ok (.iload 4, 2) := by decide +kernel
theorem dX12_thirdQuarrels_81 : decode cX12_thirdQuarrels 81 = .ok (.invokevirtual 497, 3) := by decide +kernel
theorem dX12_thirdQuarrels_84 : decode cX12_thirdQuarrels 84 = .ok (.ifCond .ne 7, 3) := by decide +kernel
theorem dX12_thirdQuarrels_87 : decode cX12_thirdQuarrels 87 = .ok (.iconst 1, 1) := by decide +kernel
theorem dX12_thirdQuarrels_88 : decode cX12_thirdQuarrels 88 = .ok (.goto 4, 3) := by decide +kernel
theorem dX12_thirdQuarrels_91 : decode cX12_thirdQuarrels 91 = .ok (.iconst 0, 1) := by decide +kernel
theorem dX12_thirdQuarrels_92 : decode cX12_thirdQuarrels 92 = .ok (.bastore, 1) := by decide +kernel
theorem dX12_thirdQuarrels_93 : decode cX12_thirdQuarrels 93 = .ok (.aload_n 0, 1) := by decide +kernel
theorem dX12_thirdQuarrels_94 : decode cX12_thirdQuarrels 94 = .ok (.getfield 154, 3) := by decide +kernel
theorem dX12_thirdQuarrels_97 : decode cX12_thirdQuarrels 97 = .ok (.iload 4, 2) := by decide +kernel
theorem dX12_thirdQuarrels_99 : decode cX12_thirdQuarrels 99 = .ok (.baload, 1) := by decide +kernel
theorem dX12_thirdQuarrels_100 : decode cX12_thirdQuarrels 100 = .ok (.ifCond .eq 10, 3) := by decide +kernel
theorem dX12_thirdQuarrels_103 : decode cX12_thirdQuarrels 103 = .ok (.aload_n 0, 1) := by decide +kernel
theorem dX12_thirdQuarrels_104 : decode cX12_thirdQuarrels 104 = .ok (.iconst 5, 1) := by decide +kernel
theorem dX12_thirdQuarrels_105 : decode cX12_thirdQuarrels 105 = .ok (.iload 4, 2) := by decide +kernel
theorem dX12_thirdQuarrels_107 : decode cX12_thirdQuarrels 107 = .ok (.invokevirtual 468, 3) := by decide +kernel
theorem dX12_thirdQuarrels_110 : decode cX12_thirdQuarrels 110 = .ok (.iinc 4 1, 3) := by decide +kernel
theorem dX12_thirdQuarrels_113 : decode cX12_thirdQuarrels 113 = .ok (.goto (-81), 3) := by decide +kernel
theorem dX12_thirdQuarrels_116 : decode cX12_thirdQuarrels 116 = .ok (.aload_n 0, 1) := by decide +kernel
theorem dX12_thirdQuarrels_117 : decode cX12_thirdQuarrels 117 = .ok (.bipush 13, 2) := by decide +kernel
theorem dX12_thirdQuarrels_119 : decode cX12_thirdQuarrels 119 = .ok (.invokevirtual 275, 3) := by decide +kernel
theorem dX12_thirdQuarrels_122 : decode cX12_thirdQuarrels 122 = .ok (.aload_n 0, 1) := by decide +kernel
theorem dX12_thirdQuarrels_123 : decode cX12_thirdQuarrels 123 = .ok (.bipush 13, 2) := by decide +kernel
theorem dX12_thirdQuarrels_125 : decode cX12_thirdQuarrels 125 = .ok (.invokevirtual 324, 3) := by decide +kernel
theorem dX12_thirdQuarrels_128 : decode cX12_thirdQuarrels 128 = .ok (.istore 4, 2) := by decide +kernel
theorem dX12_thirdQuarrels_130 : decode cX12_thirdQuarrels 130 = .ok (.iconst 0, 1) := by decide +kernel
theorem dX12_thirdQuarrels_131 : decode cX12_thirdQuarrels 131 = .ok (.istore 5, 2) := by decide +kernel
theorem dX12_thirdQuarrels_133 : decode cX12_thirdQuarrels 133 = .ok (.iload 5, 2) := by decide +kernel
theorem dX12_thirdQuarrels_135 : decode cX12_thirdQuarrels 135 = .ok (.sipush 150, 3) := by decide +kernel
theorem dX12_thirdQuarrels_138 : decode cX12_thirdQuarrels 138 = .ok (.if_icmp .ge 82, 3) := by decide +kernel
theorem dX12_thirdQuarrels_141 : decode cX12_thirdQuarrels 141 = .ok (.aload_n 0, 1) := by decide +kernel
theorem dX12_thirdQuarrels_142 : decode cX12_thirdQuarrels 142 = .ok (.getfield 45, 3) := by decide +kernel
theorem dX12_thirdQuarrels_145 : decode cX12_thirdQuarrels 145 = .ok (.bipush 13, 2) := by decide +kernel
theorem dX12_thirdQuarrels_147 : decode cX12_thirdQuarrels 147 = .ok (.aaload, 1) := by decide +kernel
theorem dX12_thirdQuarrels_148 : decode cX12_thirdQuarrels 148 = .ok (.iload 5, 2) := by decide +kernel
theorem dX12_thirdQuarrels_150 : decode cX12_thirdQuarrels 150 = .ok (.baload, 1) := by decide +kernel
theorem dX12_thirdQuarrels_151 : decode cX12_thirdQuarrels 151 = .ok (.ifCond .eq 63, 3) := by decide +kernel
theorem dX12_thirdQuarrels_154 : decode cX12_thirdQuarrels 154 = .ok (.aload_n 0, 1) := by decide +kernel
theorem dX12_thirdQuarrels_155 : decode cX12_thirdQuarrels 155 = .ok (.getfield 154, 3) := by decide +kernel
theorem dX12_thirdQuarrels_158 : decode cX12_thirdQuarrels 158 = .ok (.iload 5, 2) := by decide +kernel
theorem dX12_thirdQuarrels_160 : decode cX12_thirdQuarrels 160 = .ok (.baload, 1) := by decide +kernel
theorem dX12_thirdQuarrels_161 : decode cX12_thirdQuarrels 161 = .ok (.ifCond .ne 53, 3) := by decide +kernel
theorem dX12_thirdQuarrels_164 : decode cX12_thirdQuarrels 164 = .ok (.aload_n 0, 1) := by decide +kernel
theorem dX12_thirdQuarrels_165 : decode cX12_thirdQuarrels 165 = .ok (.bipush 13, 2) := by decide +kernel
theorem dX12_thirdQuarrels_167 : decode cX12_thirdQuarrels 167 = .ok (.iload 5, 2) := by decide +kernel
theorem dX12_thirdQuarrels_169 : decode cX12_thirdQuarrels 169 = .ok (.invokevirtual 327, 3) := by decide +kernel
theorem dX12_thirdQuarrels_172 : decode cX12_thirdQuarrels 172 = .ok (.ifCond .eq 34, 3) := by decide +kernel
theorem dX12_thirdQuarrels_175 : decode cX12_thirdQuarrels 175 = .ok (.aload_n 0, 1) := by decide +kernel
theorem dX12_thirdQuarrels_176 : decode cX12_thirdQuarrels 176 = .ok (.getfield 53, 3) := by decide +kernel
theorem dX12_thirdQuarrels_179 : decode cX12_thirdQuarrels 179 = .ok (.bipush 13, 2) := by decide +kernel
theorem dX12_thirdQuarrels_181 : decode cX12_thirdQuarrels 181 = .ok (.aaload, 1) := by decide +kernel
theorem dX12_thirdQuarrels_182 : decode cX12_thirdQuarrels 182 = .ok (.iload 5, 2) := by decide +kernel
theorem dX12_thirdQuarrels_184 : decode cX12_thirdQuarrels 184 = .ok (.iaload, 1) := by decide +kernel
theorem dX12_thirdQuarrels_185 : decode cX12_thirdQuarrels 185 = .ok (.iconst (-1), 1) := by decide +kernel
theorem dX12_thirdQuarrels_186 : decode cX12_thirdQuarrels 186 = .ok (.if_icmp .ne 28, 3) := by decide +kernel
theorem dX12_thirdQuarrels_189 : decode cX12_thirdQuarrels 189 = .ok (.iload 5, 2) := by decide +kernel
theorem dX12_thirdQuarrels_191 : decode cX12_thirdQuarrels 191 = .ok (.iload 4, 2) := by decide +kernel
theorem dX12_thirdQuarrels_193 : decode cX12_thirdQuarrels 193 = .ok (.if_icmp .ne 13, 3) := by decide +kernel
theorem dX12_thirdQuarrels_196 : decode cX12_thirdQuarrels 196 = .ok (.aload_n 0, 1) := by decide +kernel
theorem dX12_thirdQuarrels_197 : decode cX12_thirdQuarrels 197 = .ok (.getfield 59, 3) := by decide +kernel
theorem dX12_thirdQuarrels_200 : decode cX12_thirdQuarrels 200 = .ok (.iload 5, 2) := by decide +kernel
theorem dX12_thirdQuarrels_202 : decode cX12_thirdQuarrels 202 = .ok (.iaload, 1) := by decide +kernel
theorem dX12_thirdQuarrels_203 : decode cX12_thirdQuarrels 203 = .ok (.ifCond .eq 11, 3) := by decide +kernel
theorem dX12_thirdQuarrels_206 : decode cX12_thirdQuarrels 206 = .ok (.aload_n 0, 1) := by decide +kernel
theorem dX12_thirdQuarrels_207 : decode cX12_thirdQuarrels 207 = .ok (.bipush 6, 2) := by decide +kernel
theorem dX12_thirdQuarrels_209 : decode cX12_thirdQuarrels 209 = .ok (.iload 5, 2) := by decide +kernel
theorem dX12_thirdQuarrels_211 : decode cX12_thirdQuarrels 211 = .ok (.invokevirtual 468, 3) := by decide +kernel
theorem dX12_thirdQuarrels_214 : decode cX12_thirdQuarrels 214 = .ok (.iinc 5 1, 3) := by decide +kernel
theorem dX12_thirdQuarrels_217 : decode cX12_thirdQuarrels 217 = .ok (.goto (-84), 3) := by decide +kernel
theorem dX12_thirdQuarrels_220 : decode cX12_thirdQuarrels 220 = .ok (.iconst 0, 1) := by decide +kernel
theorem dX12_thirdQuarrels_221 : decode cX12_thirdQuarrels 221 = .ok (.istore 5, 2) := by decide +kernel
theorem dX12_thirdQuarrels_223 : decode cX12_thirdQuarrels 223 = .ok (.iload 5, 2) := by decide +kernel
theorem dX12_thirdQuarrels_225 : decode cX12_thirdQuarrels 225 = .ok (.sipush 150, 3) := by decide +kernel
theorem dX12_thirdQuarrels_228 : decode cX12_thirdQuarrels 228 = .ok (.if_icmp .ge 41, 3) := by decide +kernel
theorem dX12_thirdQuarrels_231 : decode cX12_thirdQuarrels 231 = .ok (.aload_n 0, 1) := by decide +kernel
theorem dX12_thirdQuarrels_232 : decode cX12_thirdQuarrels 232 = .ok (.getfield 45, 3) := by decide +kernel
theorem dX12_thirdQuarrels_235 : decode cX12_thirdQuarrels 235 = .ok (.bipush 13, 2) := by decide +kernel
theorem dX12_thirdQuarrels_237 : decode cX12_thirdQuarrels 237 = .ok (.aaload, 1) := by decide +kernel
theorem dX12_thirdQuarrels_238 : decode cX12_thirdQuarrels 238 = .ok (.iload 5, 2) := by decide +kernel
theorem dX12_thirdQuarrels_240 : decode cX12_thirdQuarrels 240 = .ok (.baload, 1) := by decide +kernel
theorem dX12_thirdQuarrels_241 : decode cX12_thirdQuarrels 241 = .ok (.ifCond .eq 22, 3) := by decide +kernel
theorem dX12_thirdQuarrels_244 : decode cX12_thirdQuarrels 244 = .ok (.aload_n 0, 1) := by decide +kernel
theorem dX12_thirdQuarrels_245 : decode cX12_thirdQuarrels 245 = .ok (.bipush 13, 2) := by decide +kernel
theorem dX12_thirdQuarrels_247 : decode cX12_thirdQuarrels 247 = .ok (.iload 5, 2) := by decide +kernel
theorem dX12_thirdQuarrels_249 : decode cX12_thirdQuarrels 249 = .ok (.invokevirtual 330, 3) := by decide +kernel
theorem dX12_thirdQuarrels_252 : decode cX12_thirdQuarrels 252 = .ok (.ifCond .eq 11, 3) := by decide +kernel
theorem dX12_thirdQuarrels_255 : decode cX12_thirdQuarrels 255 = .ok (.aload_n 0, 1) := by decide +kernel
theorem dX12_thirdQuarrels_256 : decode cX12_thirdQuarrels 256 = .ok (.bipush 7, 2) := by decide +kernel
theorem dX12_thirdQuarrels_258 : decode cX12_thirdQuarrels 258 = .ok (.iload 5, 2) := by decide +kernel
theorem dX12_thirdQuarrels_260 : decode cX12_thirdQuarrels 260 = .ok (.invokevirtual 468, 3) := by decide +kernel
theorem dX12_thirdQuarrels_263 : decode cX12_thirdQuarrels 263 = .ok (.iinc 5 1, 3) := by decide +kernel
theorem dX12_thirdQuarrels_266 : decode cX12_thirdQuarrels 266 = .ok (.goto (-43), 3) := by decide +kernel
theorem dX12_thirdQuarrels_269 : decode cX12_thirdQuarrels 269 = .ok (.return_, 1) := by decide +kernel
theorem dX12_tries_0 : decode cX12_tries 0 = .ok (.iload_n 2, 1) := by decide +kernel
theorem dX12_tries_1 : decode cX12_tries 1 = .ok (.aload_n 0, 1) := by decide +kernel
theorem dX12_tries_2 : decode cX12_tries 2 = .ok (.getfield 354, 3) := by decide +kernel
theorem dX12_tries_5 : decode cX12_tries 5 = .ok (.if_icmp .ne 64, 3) := by decide +kernel
theorem dX12_tries_8 : decode cX12_tries 8 = .ok (.aload_n 0, 1) := by decide +kernel
theorem dX12_tries_9 : decode cX12_tries 9 = .ok (.iload_n 1, 1) := by decide +kernel
theorem dX12_tries_10 : decode cX12_tries 10 = .ok (.invokevirtual 363, 3) := by decide +kernel
theorem dX12_tries_13 : decode cX12_tries 13 = .ok (.istore_n 3, 1) := by decide +kernel
theorem dX12_tries_14 : decode cX12_tries 14 = .ok (.aload_n 0, 1) := by decide +kernel
theorem dX12_tries_15 : decode cX12_tries 15 = .ok (.getfield 366, 3) := by decide +kernel
theorem dX12_tries_18 : decode cX12_tries 18 = .ok (.iconst (-1), 1) := by decide +kernel
theorem dX12_tries_19 : decode cX12_tries 19 = .ok (.if_icmp .eq 12, 3) := by decide +kernel
theorem dX12_tries_22 : decode cX12_tries 22 = .ok (.iload_n 3, 1) := by decide +kernel
theorem dX12_tries_23 : decode cX12_tries 23 = .ok (.aload_n 0, 1) := by decide +kernel
theorem dX12_tries_24 : decode cX12_tries 24 = .ok (.getfield 366, 3) := by decide +kernel
theorem dX12_tries_27 : decode cX12_tries 27 = .ok (.if_icmp .lt 4, 3) := by decide +kernel
theorem dX12_tries_30 : decode cX12_tries 30 = .ok (.return_, 1) := by decide +kernel
theorem dX12_tries_31 : decode cX12_tries 31 = .ok (.aload_n 0, 1) := by decide +kernel
theorem dX12_tries_32 : decode cX12_tries 32 = .ok (.iload_n 3, 1) := by decide +kernel
theorem dX12_tries_33 : decode cX12_tries 33 = .ok (.putfield 366, 3) := by decide +kernel
theorem dX12_tries_36 : decode cX12_tries 36 = .ok (.iconst 0, 1) := by decide +kernel
theorem dX12_tries_37 : decode cX12_tries 37 = .ok (.istore 4, 2) := by decide +kernel
theorem dX12_tries_39 : decode cX12_tries 39 = .ok (.iload 4, 2) := by decide +kernel
theorem dX12_tries_41 : decode cX12_tries 41 = .ok (.aload_n 0, 1) := by decide +kernel
theorem dX12_tries_42 : decode cX12_tries 42 = .ok (.getfield 354, 3) := by decide +kernel
theorem dX12_tries_45 : decode cX12_tries 45 = .ok (.if_icmp .ge 23, 3) := by decide +kernel
theorem dX12_tries_48 : decode cX12_tries 48 = .ok (.aload_n 0, 1) := by decide +kernel
theorem dX12_tries_49 : decode cX12_tries 49 = .ok (.getfield 133, 3) := by decide +kernel
theorem dX12_tries_52 : decode cX12_tries 52 = .ok (.iload 4, 2) := by decide +kernel
theorem dX12_tries_54 : decode cX12_tries 54 = .ok (.aload_n 0, 1) := by decide +kernel
theorem dX12_tries_55 : decode cX12_tries 55 = .ok (.getfield 127, 3) := by decide +kernel
theorem dX12_tries_58 : decode cX12_tries 58 = .ok (.iload 4, 2) := by decide +kernel
theorem dX12_tries_60 : decode cX12_tries 60 = .ok (.iaload, 1) := by decide +kernel
theorem dX12_tries_61 : decode cX12_tries 61 = .ok (.iastore, 1) := by decide +kernel
theorem dX12_tries_62 : decode cX12_tries 62 = .ok (.iinc 4 1, 3) := by decide +kernel
theorem dX12_tries_65 : decode cX12_tries 65 = .ok (.goto (-26), 3) := by decide +kernel
theorem dX12_tries_68 : decode cX12_tries 68 = .ok (.return_, 1) := by decide +kernel
theorem dX12_tries_69 : decode cX12_tries 69 = .ok (.iconst 1, 1) := by decide +kernel
theorem dX12_tries_70 : decode cX12_tries 70 = .ok (.istore_n 3, 1) := by decide +kernel
theorem dX12_tries_71 : decode cX12_tries 71 = .ok (.iload_n 3, 1) := by decide +kernel
theorem dX12_tries_72 : decode cX12_tries 72 = .ok (.aload_n 0, 1) := by decide +kernel
theorem dX12_tries_73 : decode cX12_tries 73 = .ok (.getfield 258, 3) := by decide +kernel
theorem dX12_tries_76 : decode cX12_tries 76 = .ok (.if_icmp .ge 63, 3) := by decide +kernel
theorem dX12_tries_79 : decode cX12_tries 79 = .ok (.aload_n 0, 1) := by decide +kernel
theorem dX12_tries_80 : decode cX12_tries 80 = .ok (.getfield 130, 3) := by decide +kernel
theorem dX12_tries_83 : decode cX12_tries 83 = .ok (.iload_n 3, 1) := by decide +kernel
theorem dX12_tries_84 : decode cX12_tries 84 = .ok (.iaload, 1) := by decide +kernel
theorem dX12_tries_85 : decode cX12_tries 85 = .ok (.iconst (-1), 1) := by decide +kernel
theorem dX12_tries_86 : decode cX12_tries 86 = .ok (.if_icmp .ne 47, 3) := by decide +kernel
theorem dX12_tries_89 : decode cX12_tries 89 = .ok (.aload_n 0, 1) := by decide +kernel
theorem dX12_tries_90 : decode cX12_tries 90 = .ok (.getfield 59, 3) := by decide +kernel
theorem dX12_tries_93 : decode cX12_tries 93 = .ok (.aload_n 0, 1) := by decide +kernel
theorem dX12_tries_94 : decode cX12_tries 94 = .ok (.getfield 124, 3) := by decide +kernel
theorem dX12_tries_97 : decode cX12_tries 97 = .ok (.iload_n 2, 1) := by decide +kernel
theorem dX12_tries_98 : decode cX12_tries 98 = .ok (.iaload, 1) := by decide +kernel
theorem dX12_tries_99 : decode cX12_tries 99 = .ok (.iaload, 1) := by decide +kernel
theorem dX12_tries_100 : decode cX12_tries 100 = .ok (.aload_n 0, 1) := by decide +kernel
theorem dX12_tries_101 : decode cX12_tries 101 = .ok (.getfield 65, 3) := by decide +kernel
theorem dX12_tries_104 : decode cX12_tries 104 = .ok (.iload_n 3, 1) := by decide +kernel
theorem dX12_tries_105 : decode cX12_tries 105 = .ok (.iaload, 1) := by decide +kernel
theorem dX12_tries_106 : decode cX12_tries 106 = .ok (.if_icmp .eq 6, 3) := by decide +kernel
theorem dX12_tries_109 : decode cX12_tries 109 = .ok (.goto 24, 3) := by decide +kernel
theorem dX12_tries_112 : decode cX12_tries 112 = .ok (.aload_n 0, 1) := by decide +kernel
theorem dX12_tries_113 : decode cX12_tries 113 = .ok (.iload_n 2, 1) := by decide +kernel
theorem dX12_tries_114 : decode cX12_tries 114 = .ok (.iload_n 3, 1) := by decide +kernel
theorem dX12_tries_115 : decode cX12_tries 115 = .ok (.invokevirtual 369, 3) := by decide +kernel
theorem dX12_tries_118 : decode cX12_tries 118 = .ok (.aload_n 0, 1) := by decide +kernel
theorem dX12_tries_119 : decode cX12_tries 119 = .ok (.iload_n 1, 1) := by decide +kernel
theorem dX12_tries_120 : decode cX12_tries 120 = .ok (.iload_n 2, 1) := by decide +kernel
theorem dX12_tries_121 : decode cX12_tries 121 = .ok (.iconst 1, 1) := by decide +kernel
theorem dX12_tries_122 : decode cX12_tries 122 = .ok (.iadd, 1) := by decide +kernel
theorem dX12_tries_123 : decode cX12_tries 123 = .ok (.invokevirtual 373, 3) := by decide +kernel
theorem dX12_tries_126 : decode cX12_tries 126 = .ok (.aload_n 0, 1) := by decide +kernel
theorem dX12_tries_127 : decode cX12_tries 127 = .ok (.getfield 130, 3) := by decide +kernel
theorem dX12_tries_130 : decode cX12_tries 130 = .ok (.iload_n 3, 1) := by decide +kernel
theorem dX12_tries_131 : decode cX12_tries 131 = .ok (.iconst (-1), 1) := by decide +kernel
theorem dX12_tries_132 : decode cX12_tries 132 = .ok (.iastore, 1) := by decide +kernel
theorem dX12_tries_133 : decode cX12_tries 133 = .ok (.iinc 3 1, 3) := by decide +kernel
theorem dX12_tries_136 : decode cX12_tries 136 = .ok (.goto (-65), 3) := by decide +kernel
theorem dX12_tries_139 : decode cX12_tries 139 = .ok (.aload_n 0, 1) := by decide +kernel
theorem dX12_tries_140 : decode cX12_tries 140 = .ok (.getfield 127, 3) := by decide +kernel
theorem dX12_tries_143 : decode cX12_tries 143 = .ok (.iload_n 2, 1) := by decide +kernel
theorem dX12_tries_144 : decode cX12_tries 144 = .ok (.iconst (-1), 1) := by decide +kernel
theorem dX12_tries_145 : decode cX12_tries 145 = .ok (.iastore, 1) := by decide +kernel
theorem dX12_tries_146 : decode cX12_tries 146 = .ok (.aload_n 0, 1) := by decide +kernel
theorem dX12_tries_147 : decode cX12_tries 147 = .ok (.iload_n 1, 1) := by decide +kernel
theorem dX12_tries_148 : decode cX12_tries 148 = .ok (.iload_n 2, 1) := by decide +kernel
theorem dX12_tries_149 : decode cX12_tries 149 = .ok (.iconst 1, 1) := by decide +kernel
theorem dX12_tries_150 : decode cX12_tries 150 = .ok (.iadd, 1) := by decide +kernel
theorem dX12_tries_151 : decode cX12_tries 151 = .ok (.invokevirtual 373, 3) := by decide +kernel
theorem dX12_tries_154 : decode cX12_tries 154 = .ok (.return_, 1) := by decide +kernel
theorem dX12_unsettle_0 : decode cX12_unsettle 0 = .ok (.aload_n 0, 1) := by decide +kernel
theorem dX12_unsettle_1 : decode cX12_unsettle 1 = .ok (.getfield 447, 3) := by decide +kernel
theorem dX12_unsettle_4 : decode cX12_unsettle 4 = .ok (.istore_n 1, 1) := by decide +kernel
theorem dX12_unsettle_5 : decode cX12_unsettle 5 = .ok (.aload_n 0, 1) := by decide +kernel
theorem dX12_unsettle_6 : decode cX12_unsettle 6 = .ok (.iconst 0, 1) := by decide +kernel
theorem dX12_unsettle_7 : decode cX12_unsettle 7 = .ok (.putfield 447, 3) := by decide +kernel
theorem dX12_unsettle_10 : decode cX12_unsettle 10 = .ok (.iload_n 1, 1) := by decide +kernel
theorem dX12_unsettle_11 : decode cX12_unsettle 11 = .ok (.ireturn, 1) := by decide +kernel
theorem dX12_word_0 : decode cX12_word 0 = .ok (.aload_n 0, 1) := by decide +kernel
theorem dX12_word_1 : decode cX12_word 1 = .ok (.iload_n 1, 1) := by decide +kernel
theorem dX12_word_2 : decode cX12_word 2 = .ok (.iload_n 2, 1) := by decide +kernel
theorem dX12_word_3 : decode cX12_word 3 = .ok (.invokevirtual 548, 3) := by decide +kernel
theorem dX12_word_6 : decode cX12_word 6 = .ok (.ifCond .eq 14, 3) := by decide +kernel
theorem dX12_word_9 : decode cX12_word 9 = .ok (.aload_n 0, 1) := by decide +kernel
theorem dX12_word_10 : decode cX12_word 10 = .ok (.getfield 50, 3) := by decide +kernel
theorem dX12_word_13 : decode cX12_word 13 = .ok (.iload_n 1, 1) := by decide +kernel
theorem dX12_word_14 : decode cX12_word 14 = .ok (.aaload, 1) := by decide +kernel
theorem dX12_word_15 : decode cX12_word 15 = .ok (.iload_n 2, 1) := by decide +kernel
theorem dX12_word_16 : decode cX12_word 16 = .ok (.laload, 1) := by decide +kernel
theorem dX12_word_17 : decode cX12_word 17 = .ok (.goto 4, 3) := by decide +kernel
theorem dX12_word_20 : decode cX12_word 20 = .ok (.lconst 0, 1) := by decide +kernel
theorem dX12_word_21 : decode cX12_word 21 = .ok (.lreturn, 1) := by decide +kernel
theorem dX12_wordHere_0 : decode cX12_wordHere 0 = .ok (.lconst 0, 1) := by decide +kernel
theorem dX12_wordHere_1 : decode cX12_wordHere 1 = .ok (.lstore_n 1, 1) := by decide +kernel
theorem dX12_wordHere_2 : decode cX12_wordHere 2 = .ok (.aload_n 0, 1) := by decide +kernel
theorem dX12_wordHere_3 : decode cX12_wordHere 3 = .ok (.getfield 179, 3) := by decide +kernel
theorem dX12_wordHere_6 : decode cX12_wordHere 6 = .ok (.iconst 1, 1) := by decide +kernel
theorem dX12_wordHere_7 : decode cX12_wordHere 7 = .ok (.iadd, 1) := by decide +kernel
theorem dX12_wordHere_8 : decode cX12_wordHere 8 = .ok (.istore_n 3, 1) := by decide +kernel
theorem dX12_wordHere_9 : decode cX12_wordHere 9 = .ok (.iload_n 3, 1) := by decide +kernel
theorem dX12_wordHere_10 : decode cX12_wordHere 10 = .ok (.aload_n 0, 1) := by decide +kernel
theorem dX12_wordHere_11 : decode cX12_wordHere 11 = .ok (.getfield 182, 3) := by decide +kernel
theorem dX12_wordHere_14 : decode cX12_wordHere 14 = .ok (.iconst 1, 1) := by decide +kernel
theorem dX12_wordHere_15 : decode cX12_wordHere 15 = .ok (.isub, 1) := by decide +kernel
theorem dX12_wordHere_16 : decode cX12_wordHere 16 = .ok (.if_icmp .ge 22, 3) := by decide +kernel
theorem dX12_wordHere_19 : decode cX12_wordHere 19 = .ok (.lload_n 1, 1) := by decide +kernel
theorem dX12_wordHere_20 : decode cX12_wordHere 20 = .ok (.bipush 8, 2) := by decide +kernel
theorem dX12_wordHere_22 : decode cX12_wordHere 22 = .ok (.lshl, 1) := by decide +kernel
theorem dX12_wordHere_23 : decode cX12_wordHere 23 = .ok (.aload_n 0, 1) := by decide +kernel
theorem dX12_wordHere_24 : decode cX12_wordHere 24 = .ok (.getfield 9, 3) := by decide +kernel
theorem dX12_wordHere_27 : decode cX12_wordHere 27 = .ok (.iload_n 3, 1) := by decide +kernel
theorem dX12_wordHere_28 : decode cX12_wordHere 28 = .ok (.baload, 1) := by decide +kernel
theorem dX12_wordHere_29 : decode cX12_wordHere 29 = .ok (.i2l, 1) := by decide +kernel
theorem dX12_wordHere_30 : decode cX12_wordHere 30 = .ok (.lor, 1) := by decide +kernel
theorem dX12_wordHere_31 : decode cX12_wordHere 31 = .ok (.lstore_n 1, 1) := by decide +kernel
theorem dX12_wordHere_32 : decode cX12_wordHere 32 = .ok (.iinc 3 1, 3) := by decide +kernel
theorem dX12_wordHere_35 : decode cX12_wordHere 35 = .ok (.goto (-26), 3) := by decide +kernel
theorem dX12_wordHere_38 : decode cX12_wordHere 38 = .ok (.lload_n 1, 1) := by decide +kernel
theorem dX12_wordHere_39 : decode cX12_wordHere 39 = .ok (.lreturn, 1) := by decide +kernel
theorem dX12_wordWriter_0 : decode cX12_wordWriter 0 = .ok (.aload_n 0, 1) := by decide +kernel
theorem dX12_wordWriter_1 : decode cX12_wordWriter 1 = .ok (.getfield 72, 3) := by decide +kernel
theorem dX12_wordWriter_4 : decode cX12_wordWriter 4 = .ok (.iload_n 1, 1) := by decide +kernel
theorem dX12_wordWriter_5 : decode cX12_wordWriter 5 = .ok (.iaload, 1) := by decide +kernel
theorem dX12_wordWriter_6 : decode cX12_wordWriter 6 = .ok (.istore_n 3, 1) := by decide +kernel
theorem dX12_wordWriter_7 : decode cX12_wordWriter 7 = .ok (.aload_n 0, 1) := by decide +kernel
theorem dX12_wordWriter_8 : decode cX12_wordWriter 8 = .ok (.getfield 75, 3) := by decide +kernel
theorem dX12_wordWriter_11 : decode cX12_wordWriter 11 = .ok (.iload_n 1, 1) := by decide +kernel
theorem dX12_wordWriter_12 : decode cX12_wordWriter 12 = .ok (.iaload, 1) := by decide +kernel
theorem dX12_wordWriter_13 : decode cX12_wordWriter 13 = .ok (.istore 4, 2) := by decide +kernel
theorem dX12_wordWriter_15 : decode cX12_wordWriter 15 = .ok (.iload_n 3, 1) := by decide +kernel
theorem dX12_wordWriter_16 : decode cX12_wordWriter 16 = .ok (.iconst (-1), 1) := by decide +kernel
theorem dX12_wordWriter_17 : decode cX12_wordWriter 17 = .ok (.if_icmp .eq 41, 3) := by decide +kernel
theorem dX12_wordWriter_20 : decode cX12_wordWriter 20 = .ok (.aload_n 0, 1) := by decide +kernel
theorem dX12_wordWriter_21 : decode cX12_wordWriter 21 = .ok (.getfield 45, 3) := by decide +kernel
theorem dX12_wordWriter_24 : decode cX12_wordWriter 24 = .ok (.iload_n 3, 1) := by decide +kernel
theorem dX12_wordWriter_25 : decode cX12_wordWriter 25 = .ok (.aaload, 1) := by decide +kernel
theorem dX12_wordWriter_26 : decode cX12_wordWriter 26 = .ok (.iload_n 2, 1) := by decide +kernel
theorem dX12_wordWriter_27 : decode cX12_wordWriter 27 = .ok (.baload, 1) := by decide +kernel
theorem dX12_wordWriter_28 : decode cX12_wordWriter 28 = .ok (.ifCond .eq 30, 3) := by decide +kernel
theorem dX12_wordWriter_31 : decode cX12_wordWriter 31 = .ok (.aload_n 0, 1) := by decide +kernel
theorem dX12_wordWriter_32 : decode cX12_wordWriter 32 = .ok (.getfield 50, 3) := by decide +kernel
theorem dX12_wordWriter_35 : decode cX12_wordWriter 35 = .ok (.iload_n 3, 1) := by decide +kernel
theorem dX12_wordWriter_36 : decode cX12_wordWriter 36 = .ok (.aaload, 1) := by decide +kernel
theorem dX12_wordWriter_37 : decode cX12_wordWriter 37 = .ok (.iload_n 2, 1) := by decide +kernel
theorem dX12_wordWriter_38 : decode cX12_wordWriter 38 = .ok (.laload, 1) := by decide +kernel
theorem dX12_wordWriter_39 : decode cX12_wordWriter 39 = .ok (.aload_n 0, 1) := by decide +kernel
theorem dX12_wordWriter_40 : decode cX12_wordWriter 40 = .ok (.getfield 50, 3) := by decide +kernel
theorem dX12_wordWriter_43 : decode cX12_wordWriter 43 = .ok (.iload_n 1, 1) := by decide +kernel
theorem dX12_wordWriter_44 : decode cX12_wordWriter 44 = .ok (.aaload, 1) := by decide +kernel
theorem dX12_wordWriter_45 : decode cX12_wordWriter 45 = .ok (.iload_n 2, 1) := by decide +kernel
theorem dX12_wordWriter_46 : decode cX12_wordWriter 46 = .ok (.laload, 1) := by decide +kernel
theorem dX12_wordWriter_47 : decode cX12_wordWriter 47 = .ok (.lcmp, 1) := by decide +kernel
theorem dX12_wordWriter_48 : decode cX12_wordWriter 48 = .ok (.ifCond .ne 10, 3) := by decide +kernel
theorem dX12_wordWriter_51 : decode cX12_wordWriter 51 = .ok (.aload_n 0, 1) := by decide +kernel
theorem dX12_wordWriter_52 : decode cX12_wordWriter 52 = .ok (.iload_n 3, 1) := by decide +kernel
theorem dX12_wordWriter_53 : decode cX12_wordWriter 53 = .ok (.iload_n 2, 1) := by decide +kernel
theorem dX12_wordWriter_54 : decode cX12_wordWriter 54 = .ok (.invokevirtual 542, 3) := by decide +kernel
theorem dX12_wordWriter_57 : decode cX12_wordWriter 57 = .ok (.ireturn, 1) := by decide +kernel
theorem dX12_wordWriter_58 : decode cX12_wordWriter 58 = .ok (.iload 4, 2) := by decide +kernel
theorem dX12_wordWriter_60 : decode cX12_wordWriter 60 = .ok (.iconst (-1), 1) := by decide +kernel
theorem dX12_wordWriter_61 : decode cX12_wordWriter 61 = .ok (.if_icmp .eq 44, 3) := by decide +kernel
theorem dX12_wordWriter_64 : decode cX12_wordWriter 64 = .ok (.aload_n 0, 1) := by decide +kernel
theorem dX12_wordWriter_65 : decode cX12_wordWriter 65 = .ok (.getfield 45, 3) := by decide +kernel
theorem dX12_wordWriter_68 : decode cX12_wordWriter 68 = .ok (.iload 4, 2) := by decide +kernel
theorem dX12_wordWriter_70 : decode cX12_wordWriter 70 = .ok (.aaload, 1) := by decide +kernel
theorem dX12_wordWriter_71 : decode cX12_wordWriter 71 = .ok (.iload_n 2, 1) := by decide +kernel
theorem dX12_wordWriter_72 : decode cX12_wordWriter 72 = .ok (.baload, 1) := by decide +kernel
theorem dX12_wordWriter_73 : decode cX12_wordWriter 73 = .ok (.ifCond .eq 32, 3) := by decide +kernel
theorem dX12_wordWriter_76 : decode cX12_wordWriter 76 = .ok (.aload_n 0, 1) := by decide +kernel
theorem dX12_wordWriter_77 : decode cX12_wordWriter 77 = .ok (.getfield 50, 3) := by decide +kernel
theorem dX12_wordWriter_80 : decode cX12_wordWriter 80 = .ok (.iload 4, 2) := by decide +kernel
theorem dX12_wordWriter_82 : decode cX12_wordWriter 82 = .ok (.aaload, 1) := by decide +kernel
theorem dX12_wordWriter_83 : decode cX12_wordWriter 83 = .ok (.iload_n 2, 1) := by decide +kernel
theorem dX12_wordWriter_84 : decode cX12_wordWriter 84 = .ok (.laload, 1) := by decide +kernel
theorem dX12_wordWriter_85 : decode cX12_wordWriter 85 = .ok (.aload_n 0, 1) := by decide +kernel
theorem dX12_wordWriter_86 : decode cX12_wordWriter 86 = .ok (.getfield 50, 3) := by decide +kernel
theorem dX12_wordWriter_89 : decode cX12_wordWriter 89 = .ok (.iload_n 1, 1) := by decide +kernel
theorem dX12_wordWriter_90 : decode cX12_wordWriter 90 = .ok (.aaload, 1) := by decide +kernel
theorem dX12_wordWriter_91 : decode cX12_wordWriter 91 = .ok (.iload_n 2, 1) := by decide +kernel
theorem dX12_wordWriter_92 : decode cX12_wordWriter 92 = .ok (.laload, 1) := by decide +kernel
theorem dX12_wordWriter_93 : decode cX12_wordWriter 93 = .ok (.lcmp, 1) := by decide +kernel
theorem dX12_wordWriter_94 : decode cX12_wordWriter 94 = .ok (.ifCond .ne 11, 3) := by decide +kernel
theorem dX12_wordWriter_97 : decode cX12_wordWriter 97 = .ok (.aload_n 0, 1) := by decide +kernel
theorem dX12_wordWriter_98 : decode cX12_wordWriter 98 = .ok (.iload 4, 2) := by decide +kernel
theorem dX12_wordWriter_100 : decode cX12_wordWriter 100 = .ok (.iload_n 2, 1) := by decide +kernel
theorem dX12_wordWriter_101 : decode cX12_wordWriter 101 = .ok (.invokevirtual 542, 3) := by decide +kernel
theorem dX12_wordWriter_104 : decode cX12_wordWriter 104 = .ok (.ireturn, 1) := by decide +kernel
theorem dX12_wordWriter_105 : decode cX12_wordWriter 105 = .ok (.iload_n 1, 1) := by decide +kernel
theorem dX12_wordWriter_106 : decode cX12_wordWriter 106 = .ok (.ireturn, 1) := by decide +kernel
theorem dX12_writer_0 : decode cX12_writer 0 = .ok (.iload_n 1, 1) := by decide +kernel
theorem dX12_writer_1 : decode cX12_writer 1 = .ok (.i2l, 1) := by decide +kernel
theorem dX12_writer_2 : decode cX12_writer 2 = .ok (.lconst 0, 1) := by decide +kernel
theorem dX12_writer_3 : decode cX12_writer 3 = .ok (.aload_n 0, 1) := by decide +kernel
theorem dX12_writer_4 : decode cX12_writer 4 = .ok (.getfield 336, 3) := by decide +kernel
theorem dX12_writer_7 : decode cX12_writer 7 = .ok (.iconst 1, 1) := by decide +kernel
theorem dX12_writer_8 : decode cX12_writer 8 = .ok (.isub, 1) := by decide +kernel
theorem dX12_writer_9 : decode cX12_writer 9 = .ok (.i2l, 1) := by decide +kernel
theorem dX12_writer_10 : decode cX12_writer 10 = .ok (.invokestatic 171, 3) := by decide +kernel
theorem dX12_writer_13 : decode cX12_writer 13 = .ok (.ifCond .eq 12, 3) := by decide +kernel
theorem dX12_writer_16 : decode cX12_writer 16 = .ok (.aload_n 0, 1) := by decide +kernel
theorem dX12_writer_17 : decode cX12_writer 17 = .ok (.getfield 62, 3) := by decide +kernel
theorem dX12_writer_20 : decode cX12_writer 20 = .ok (.iload_n 1, 1) := by decide +kernel
theorem dX12_writer_21 : decode cX12_writer 21 = .ok (.iaload, 1) := by decide +kernel
theorem dX12_writer_22 : decode cX12_writer 22 = .ok (.goto 4, 3) := by decide +kernel
theorem dX12_writer_25 : decode cX12_writer 25 = .ok (.iconst (-1), 1) := by decide +kernel
theorem dX12_writer_26 : decode cX12_writer 26 = .ok (.ireturn, 1) := by decide +kernel
theorem dX1_add_0 : decode cX1_add 0 = .ok (.aload_n 0, 1) := by decide +kernel
theorem dX1_add_1 : decode cX1_add 1 = .ok (.invokevirtual 35, 3) := by decide +kernel
theorem dX1_add_4 : decode cX1_add 4 = .ok (.ifCond .eq 5, 3) := by decide +kernel
theorem dX1_add_7 : decode cX1_add 7 = .ok (.iconst (-1), 1) := by decide +kernel
theorem dX1_add_8 : decode cX1_add 8 = .ok (.ireturn, 1) := by decide +kernel
theorem dX1_add_9 : decode cX1_add 9 = .ok (.aload_n 0, 1) := by decide +kernel
theorem dX1_add_10 : decode cX1_add 10 = .ok (.getfield 27, 3) := by decide +kernel
theorem dX1_add_13 : decode cX1_add 13 = .ok (.istore 4, 2) := by decide +kernel
theorem dX1_add_15 : decode cX1_add 15 = .ok (.new 9, 3) := by decide +kernel
theorem dX1_add_18 : decode cX1_add 18 = .ok (.dup, 1) := by decide +kernel
theorem dX1_add_19 : decode cX1_add 19 = .ok (.invokespecial 39, 3) := by decide +kernel
theorem dX1_add_22 : decode cX1_add 22 = .ok (.astore 5, 2) := by decide +kernel
theorem dX1_add_24 : decode cX1_add 24 = .ok (.aload 5, 2) := by decide +kernel
theorem dX1_add_26 : decode cX1_add 26 = .ok (.aload_n 1, 1) := by decide +kernel
theorem dX1_add_27 : decode cX1_add 27 = .ok (.invokevirtual 40, 3) := by decide +kernel
theorem dX1_add_30 : decode cX1_add 30 = .ok (.iconst 0, 1) := by decide +kernel
theorem dX1_add_31 : decode cX1_add 31 = .ok (.istore 6, 2) := by decide +kernel
theorem dX1_add_33 : decode cX1_add 33 = .ok (.iload 6, 2) := by decide +kernel
theorem dX1_add_35 : decode cX1_add 35 = .ok (.aload 5, 2) := by decide +kernel
theorem dX1_add_37 : decode cX1_add 37 = .ok (.getfield 44, 3) := by decide +kernel
theorem dX1_add_40 : decode cX1_add 40 = .ok (.if_icmp .ge 82, 3) := by decide +kernel
theorem dX1_add_43 : decode cX1_add 43 = .ok (.aload_n 0, 1) := by decide +kernel
theorem dX1_add_44 : decode cX1_add 44 = .ok (.iload_n 2, 1) := by decide +kernel
theorem dX1_add_45 : decode cX1_add 45 = .ok (.aload 5, 2) := by decide +kernel
theorem dX1_add_47 : decode cX1_add 47 = .ok (.getfield 45, 3) := by decide +kernel
theorem dX1_add_50 : decode cX1_add 50 = .ok (.iload 6, 2) := by decide +kernel
theorem dX1_add_52 : decode cX1_add 52 = .ok (.iaload, 1) := by decide +kernel
theorem dX1_add_53 : decode cX1_add 53 = .ok (.aload 5, 2) := by decide +kernel
theorem dX1_add_55 : decode cX1_add 55 = .ok (.getfield 48, 3) := by decide +kernel
theorem dX1_add_58 : decode cX1_add 58 = .ok (.iload 6, 2) := by decide +kernel
theorem dX1_add_60 : decode cX1_add 60 = .ok (.laload, 1) := by decide +kernel
theorem dX1_add_61 : decode cX1_add 61 = .ok (.invokevirtual 52, 3) := by decide +kernel
theorem dX1_add_64 : decode cX1_add 64 = .ok (.istore 7, 2) := by decide +kernel
theorem dX1_add_66 : decode cX1_add 66 = .ok (.iload 7, 2) := by decide +kernel
theorem dX1_add_68 : decode cX1_add 68 = .ok (.iconst (-1), 1) := by decide +kernel
theorem dX1_add_69 : decode cX1_add 69 = .ok (.if_icmp .ne 26, 3) := by decide +kernel
theorem dX1_add_72 : decode cX1_add 72 = .ok (.aload_n 0, 1) := by decide +kernel
theorem dX1_add_73 : decode cX1_add 73 = .ok (.iload_n 3, 1) := by decide +kernel
theorem dX1_add_74 : decode cX1_add 74 = .ok (.aload 5, 2) := by decide +kernel
theorem dX1_add_76 : decode cX1_add 76 = .ok (.getfield 45, 3) := by decide +kernel
theorem dX1_add_79 : decode cX1_add 79 = .ok (.iload 6, 2) := by decide +kernel
theorem dX1_add_81 : decode cX1_add 81 = .ok (.iaload, 1) := by decide +kernel
theorem dX1_add_82 : decode cX1_add 82 = .ok (.aload 5, 2) := by decide +kernel
theorem dX1_add_84 : decode cX1_add 84 = .ok (.getfield 48, 3) := by decide +kernel
theorem dX1_add_87 : decode cX1_add 87 = .ok (.iload 6, 2) := by decide +kernel
theorem dX1_add_89 : decode cX1_add 89 = .ok (.laload, 1) := by decide +kernel
theorem dX1_add_90 : decode cX1_add 90 = .ok (.invokevirtual 52, 3) := by decide +kernel
theorem dX1_add_93 : decode cX1_add 93 = .ok (.istore 7, 2) := by decide +kernel
theorem dX1_add_95 : decode cX1_add 95 = .ok (.aload 5, 2) := by decide +kernel
theorem dX1_add_97 : decode cX1_add 97 = .ok (.getfield 56, 3) := by decide +kernel
theorem dX1_add_100 : decode cX1_add 100 = .ok (.iload 6, 2) := by decide +kernel
theorem dX1_add_102 : decode cX1_add 102 = .ok (.iload 7, 2) := by decide +kernel
theorem dX1_add_104 : decode cX1_add 104 = .ok (.iconst (-1), 1) := by decide +kernel
theorem dX1_add_105 : decode cX1_add 105 = .ok (.if_icmp .ne 8, 3) := by decide +kernel
theorem dX1_add_108 : decode cX1_add 108 = .ok (.iload 4, 2) := by decide +kernel
theorem dX1_add_110 : decode cX1_add 110 = .ok (.goto 5, 3) := by decide +kernel
theorem dX1_add_113 : decode cX1_add 113 = .ok (.iload 7, 2) := by decide +kernel
theorem dX1_add_115 : decode cX1_add 115 = .ok (.iastore, 1) := by decide +kernel
theorem dX1_add_116 : decode cX1_add 116 = .ok (.iinc 6 1, 3) := by decide +kernel
theorem dX1_add_119 : decode cX1_add 119 = .ok (.goto (-86), 3) := by decide +kernel
theorem dX1_add_122 : decode cX1_add 122 = .ok (.aload_n 0, 1) := by decide +kernel
theorem dX1_add_123 : decode cX1_add 123 = .ok (.getfield 11, 3) := by decide +kernel
theorem dX1_add_126 : decode cX1_add 126 = .ok (.iload 4, 2) := by decide +kernel
theorem dX1_add_128 : decode cX1_add 128 = .ok (.aload 5, 2) := by decide +kernel
theorem dX1_add_130 : decode cX1_add 130 = .ok (.aastore, 1) := by decide +kernel
theorem dX1_add_131 : decode cX1_add 131 = .ok (.aload_n 0, 1) := by decide +kernel
theorem dX1_add_132 : decode cX1_add 132 = .ok (.getfield 17, 3) := by decide +kernel
theorem dX1_add_135 : decode cX1_add 135 = .ok (.iload 4, 2) := by decide +kernel
theorem dX1_add_137 : decode cX1_add 137 = .ok (.iload_n 2, 1) := by decide +kernel
theorem dX1_add_138 : decode cX1_add 138 = .ok (.iastore, 1) := by decide +kernel
theorem dX1_add_139 : decode cX1_add 139 = .ok (.aload_n 0, 1) := by decide +kernel
theorem dX1_add_140 : decode cX1_add 140 = .ok (.getfield 21, 3) := by decide +kernel
theorem dX1_add_143 : decode cX1_add 143 = .ok (.iload 4, 2) := by decide +kernel
theorem dX1_add_145 : decode cX1_add 145 = .ok (.iload_n 3, 1) := by decide +kernel
theorem dX1_add_146 : decode cX1_add 146 = .ok (.iastore, 1) := by decide +kernel
theorem dX1_add_147 : decode cX1_add 147 = .ok (.aload_n 0, 1) := by decide +kernel
theorem dX1_add_148 : decode cX1_add 148 = .ok (.getfield 24, 3) := by decide +kernel
theorem dX1_add_151 : decode cX1_add 151 = .ok (.iload 4, 2) := by decide +kernel
theorem dX1_add_153 : decode cX1_add 153 = .ok (.iconst 1, 1) := by decide +kernel
theorem dX1_add_154 : decode cX1_add 154 = .ok (.iload 4, 2) := by decide +kernel
theorem dX1_add_156 : decode cX1_add 156 = .ok (.ishl, 1) := by decide +kernel
theorem dX1_add_157 : decode cX1_add 157 = .ok (.aload_n 0, 1) := by decide +kernel
theorem dX1_add_158 : decode cX1_add 158 = .ok (.iload_n 2, 1) := by decide +kernel
theorem dX1_add_159 : decode cX1_add 159 = .ok (.invokevirtual 59, 3) := by decide +kernel
theorem dX1_add_162 : decode cX1_add 162 = .ok (.ior, 1) := by decide +kernel
theorem dX1_add_163 : decode cX1_add 163 = .ok (.aload_n 0, 1) := by decide +kernel
theorem dX1_add_164 : decode cX1_add 164 = .ok (.iload_n 3, 1) := by decide +kernel
theorem dX1_add_165 : decode cX1_add 165 = .ok (.invokevirtual 59, 3) := by decide +kernel
theorem dX1_add_168 : decode cX1_add 168 = .ok (.ior, 1) := by decide +kernel
theorem dX1_add_169 : decode cX1_add 169 = .ok (.iastore, 1) := by decide +kernel
theorem dX1_add_170 : decode cX1_add 170 = .ok (.aload_n 0, 1) := by decide +kernel
theorem dX1_add_171 : decode cX1_add 171 = .ok (.dup, 1) := by decide +kernel
theorem dX1_add_172 : decode cX1_add 172 = .ok (.getfield 27, 3) := by decide +kernel
theorem dX1_add_175 : decode cX1_add 175 = .ok (.iconst 1, 1) := by decide +kernel
theorem dX1_add_176 : decode cX1_add 176 = .ok (.iadd, 1) := by decide +kernel
theorem dX1_add_177 : decode cX1_add 177 = .ok (.putfield 27, 3) := by decide +kernel
theorem dX1_add_180 : decode cX1_add 180 = .ok (.iload 4, 2) := by decide +kernel
theorem dX1_add_182 : decode cX1_add 182 = .ok (.ireturn, 1) := by decide +kernel
theorem dX1_comesFrom_0 : decode cX1_comesFrom 0 = .ok (.aload_n 0, 1) := by decide +kernel
theorem dX1_comesFrom_1 : decode cX1_comesFrom 1 = .ok (.iload_n 2, 1) := by decide +kernel
theorem dX1_comesFrom_2 : decode cX1_comesFrom 2 = .ok (.invokevirtual 31, 3) := by decide +kernel
theorem dX1_comesFrom_5 : decode cX1_comesFrom 5 = .ok (.ifCond .eq 19, 3) := by decide +kernel
theorem dX1_comesFrom_8 : decode cX1_comesFrom 8 = .ok (.aload_n 0, 1) := by decide +kernel
theorem dX1_comesFrom_9 : decode cX1_comesFrom 9 = .ok (.iload_n 1, 1) := by decide +kernel
theorem dX1_comesFrom_10 : decode cX1_comesFrom 10 = .ok (.invokevirtual 59, 3) := by decide +kernel
theorem dX1_comesFrom_13 : decode cX1_comesFrom 13 = .ok (.iconst 1, 1) := by decide +kernel
theorem dX1_comesFrom_14 : decode cX1_comesFrom 14 = .ok (.iload_n 2, 1) := by decide +kernel
theorem dX1_comesFrom_15 : decode cX1_comesFrom 15 = .ok (.ishl, 1) := by decide +kernel
theorem dX1_comesFrom_16 : decode cX1_comesFrom 16 = .ok (.iand, 1) := by decide +kernel
theorem dX1_comesFrom_17 : decode cX1_comesFrom 17 = .ok (.ifCond .eq 7, 3) := by decide +kernel
theorem dX1_comesFrom_20 : decode cX1_comesFrom 20 = .ok (.iconst 1, 1) := by decide +kernel
theorem dX1_comesFrom_21 : decode cX1_comesFrom 21 = .ok (.goto 4, 3) := by decide +kernel
theorem dX1_comesFrom_24 : decode cX1_comesFrom 24 = .ok (.iconst 0, 1) := by decide +kernel
theorem dX1_comesFrom_25 : decode cX1_comesFrom 25 = .ok (.ireturn, 1) := by decide +kernel
theorem dX1_common_0 : decode cX1_common 0 = .ok (.aload_n 0, 1) := by decide +kernel
theorem dX1_common_1 : decode cX1_common 1 = .ok (.iload_n 1, 1) := by decide +kernel
theorem dX1_common_2 : decode cX1_common 2 = .ok (.invokevirtual 59, 3) := by decide +kernel
theorem dX1_common_5 : decode cX1_common 5 = .ok (.aload_n 0, 1) := by decide +kernel
theorem dX1_common_6 : decode cX1_common 6 = .ok (.iload_n 2, 1) := by decide +kernel
theorem dX1_common_7 : decode cX1_common 7 = .ok (.invokevirtual 59, 3) := by decide +kernel
theorem dX1_common_10 : decode cX1_common 10 = .ok (.iand, 1) := by decide +kernel
theorem dX1_common_11 : decode cX1_common 11 = .ok (.ireturn, 1) := by decide +kernel
theorem dX1_fromsOf_0 : decode cX1_fromsOf 0 = .ok (.aload_n 0, 1) := by decide +kernel
theorem dX1_fromsOf_1 : decode cX1_fromsOf 1 = .ok (.iload_n 1, 1) := by decide +kernel
theorem dX1_fromsOf_2 : decode cX1_fromsOf 2 = .ok (.invokevirtual 31, 3) := by decide +kernel
theorem dX1_fromsOf_5 : decode cX1_fromsOf 5 = .ok (.ifCond .eq 12, 3) := by decide +kernel
theorem dX1_fromsOf_8 : decode cX1_fromsOf 8 = .ok (.aload_n 0, 1) := by decide +kernel
theorem dX1_fromsOf_9 : decode cX1_fromsOf 9 = .ok (.getfield 24, 3) := by decide +kernel
theorem dX1_fromsOf_12 : decode cX1_fromsOf 12 = .ok (.iload_n 1, 1) := by decide +kernel
theorem dX1_fromsOf_13 : decode cX1_fromsOf 13 = .ok (.iaload, 1) := by decide +kernel
theorem dX1_fromsOf_14 : decode cX1_fromsOf 14 = .ok (.goto 4, 3) := by decide +kernel
theorem dX1_fromsOf_17 : decode cX1_fromsOf 17 = .ok (.iconst 0, 1) := by decide +kernel
theorem dX1_fromsOf_18 : decode cX1_fromsOf 18 = .ok (.ireturn, 1) := by decide +kernel
theorem dX1_has_0 : decode cX1_has 0 = .ok (.iload_n 1, 1) := by decide +kernel
theorem dX1_has_1 : decode cX1_has 1 = .ok (.ifCond .lt 15, 3) := by decide +kernel
theorem dX1_has_4 : decode cX1_has 4 = .ok (.iload_n 1, 1) := by decide +kernel
theorem dX1_has_5 : decode cX1_has 5 = .ok (.aload_n 0, 1) := by decide +kernel
theorem dX1_has_6 : decode cX1_has 6 = .ok (.getfield 27, 3) := by decide +kernel
theorem dX1_has_9 : decode cX1_has 9 = .ok (.if_icmp .ge 7, 3) := by decide +kernel
theorem dX1_has_12 : decode cX1_has 12 = .ok (.iconst 1, 1) := by decide +kernel
theorem dX1_has_13 : decode cX1_has 13 = .ok (.goto 4, 3) := by decide +kernel
theorem dX1_has_16 : decode cX1_has 16 = .ok (.iconst 0, 1) := by decide +kernel
theorem dX1_has_17 : decode cX1_has 17 = .ok (.ireturn, 1) := by decide +kernel
theorem dX1_isFull_0 : decode cX1_isFull 0 = .ok (.aload_n 0, 1) := by decide +kernel
theorem dX1_isFull_1 : decode cX1_isFull 1 = .ok (.getfield 27, 3) := by decide +kernel
theorem dX1_isFull_4 : decode cX1_isFull 4 = .ok (.bipush 12, 2) := by decide +kernel
theorem dX1_isFull_6 : decode cX1_isFull 6 = .ok (.if_icmp .lt 7, 3) := by decide +kernel
theorem dX1_isFull_9 : decode cX1_isFull 9 = .ok (.iconst 1, 1) := by decide +kernel
theorem dX1_isFull_10 : decode cX1_isFull 10 = .ok (.goto 4, 3) := by decide +kernel
theorem dX1_isFull_13 : decode cX1_isFull 13 = .ok (.iconst 0, 1) := by decide +kernel
theorem dX1_isFull_14 : decode cX1_isFull 14 = .ok (.ireturn, 1) := by decide +kernel
theorem dX1_latest_0 : decode cX1_latest 0 = .ok (.iload_n 1, 1) := by decide +kernel
theorem dX1_latest_1 : decode cX1_latest 1 = .ok (.istore_n 2, 1) := by decide +kernel
theorem dX1_latest_2 : decode cX1_latest 2 = .ok (.iconst 0, 1) := by decide +kernel
theorem dX1_latest_3 : decode cX1_latest 3 = .ok (.istore_n 3, 1) := by decide +kernel
theorem dX1_latest_4 : decode cX1_latest 4 = .ok (.iload_n 3, 1) := by decide +kernel
theorem dX1_latest_5 : decode cX1_latest 5 = .ok (.aload_n 0, 1) := by decide +kernel
theorem dX1_latest_6 : decode cX1_latest 6 = .ok (.getfield 27, 3) := by decide +kernel
theorem dX1_latest_9 : decode cX1_latest 9 = .ok (.if_icmp .ge 34, 3) := by decide +kernel
theorem dX1_latest_12 : decode cX1_latest 12 = .ok (.iload_n 1, 1) := by decide +kernel
theorem dX1_latest_13 : decode cX1_latest 13 = .ok (.iconst 1, 1) := by decide +kernel
theorem dX1_latest_14 : decode cX1_latest 14 = .ok (.iload_n 3, 1) := by decide +kernel
theorem dX1_latest_15 : decode cX1_latest 15 = .ok (.ishl, 1) := by decide +kernel
theorem dX1_latest_16 : decode cX1_latest 16 = .ok (.iand, 1) := by decide +kernel
theorem dX1_latest_17 : decode cX1_latest 17 = .ok (.ifCond .eq 20, 3) := by decide +kernel
theorem dX1_latest_20 : decode cX1_latest 20 = .ok (.iload_n 2, 1) := by decide +kernel
theorem dX1_latest_21 : decode cX1_latest 21 = .ok (.aload_n 0, 1) := by decide +kernel
theorem dX1_latest_22 : decode cX1_latest 22 = .ok (.getfield 24, 3) := by decide +kernel
theorem dX1_latest_25 : decode cX1_latest 25 = .ok (.iload_n 3, 1) := by decide +kernel
theorem dX1_latest_26 : decode cX1_latest 26 = .ok (.iaload, 1) := by decide +kernel
theorem dX1_latest_27 : decode cX1_latest 27 = .ok (.iconst 1, 1) := by decide +kernel
theorem dX1_latest_28 : decode cX1_latest 28 = .ok (.iload_n 3, 1) := by decide +kernel
theorem dX1_latest_29 : decode cX1_latest 29 = .ok (.ishl, 1) := by decide +kernel
theorem dX1_latest_30 : decode cX1_latest 30 = .ok (.iconst (-1), 1) := by decide +kernel
theorem dX1_latest_31 : decode cX1_latest 31 = .ok (.ixor, 1) := by decide +kernel
theorem dX1_latest_32 : decode cX1_latest 32 = .ok (.iand, 1) := by decide +kernel
theorem dX1_latest_33 : decode cX1_latest 33 = .ok (.iconst (-1), 1) := by decide +kernel
theorem dX1_latest_34 : decode cX1_latest 34 = .ok (.ixor, 1) := by decide +kernel
theorem dX1_latest_35 : decode cX1_latest 35 = .ok (.iand, 1) := by decide +kernel
theorem dX1_latest_36 : decode cX1_latest 36 = .ok (.istore_n 2, 1) := by decide +kernel
theorem dX1_latest_37 : decode cX1_latest 37 = .ok (.iinc 3 1, 3) := by decide +kernel
theorem dX1_latest_40 : decode cX1_latest 40 = .ok (.goto (-36), 3) := by decide +kernel
theorem dX1_latest_43 : decode cX1_latest 43 = .ok (.iload_n 2, 1) := by decide +kernel
theorem dX1_latest_44 : decode cX1_latest 44 = .ok (.ireturn, 1) := by decide +kernel
theorem dX1_leastOf_0 : decode cX1_leastOf 0 = .ok (.iconst 0, 1) := by decide +kernel
theorem dX1_leastOf_1 : decode cX1_leastOf 1 = .ok (.istore_n 2, 1) := by decide +kernel
theorem dX1_leastOf_2 : decode cX1_leastOf 2 = .ok (.iload_n 2, 1) := by decide +kernel
theorem dX1_leastOf_3 : decode cX1_leastOf 3 = .ok (.aload_n 0, 1) := by decide +kernel
theorem dX1_leastOf_4 : decode cX1_leastOf 4 = .ok (.getfield 27, 3) := by decide +kernel
theorem dX1_leastOf_7 : decode cX1_leastOf 7 = .ok (.if_icmp .ge 19, 3) := by decide +kernel
theorem dX1_leastOf_10 : decode cX1_leastOf 10 = .ok (.iload_n 1, 1) := by decide +kernel
theorem dX1_leastOf_11 : decode cX1_leastOf 11 = .ok (.iconst 1, 1) := by decide +kernel
theorem dX1_leastOf_12 : decode cX1_leastOf 12 = .ok (.iload_n 2, 1) := by decide +kernel
theorem dX1_leastOf_13 : decode cX1_leastOf 13 = .ok (.ishl, 1) := by decide +kernel
theorem dX1_leastOf_14 : decode cX1_leastOf 14 = .ok (.iand, 1) := by decide +kernel
theorem dX1_leastOf_15 : decode cX1_leastOf 15 = .ok (.ifCond .eq 5, 3) := by decide +kernel
theorem dX1_leastOf_18 : decode cX1_leastOf 18 = .ok (.iload_n 2, 1) := by decide +kernel
theorem dX1_leastOf_19 : decode cX1_leastOf 19 = .ok (.ireturn, 1) := by decide +kernel
theorem dX1_leastOf_20 : decode cX1_leastOf 20 = .ok (.iinc 2 1, 3) := by decide +kernel
theorem dX1_leastOf_23 : decode cX1_leastOf 23 = .ok (.goto (-21), 3) := by decide +kernel
theorem dX1_leastOf_26 : decode cX1_leastOf 26 = .ok (.iconst (-1), 1) := by decide +kernel
theorem dX1_leastOf_27 : decode cX1_leastOf 27 = .ok (.ireturn, 1) := by decide +kernel
theorem dX1_onlyParent_0 : decode cX1_onlyParent 0 = .ok (.aload_n 0, 1) := by decide +kernel
theorem dX1_onlyParent_1 : decode cX1_onlyParent 1 = .ok (.iload_n 1, 1) := by decide +kernel
theorem dX1_onlyParent_2 : decode cX1_onlyParent 2 = .ok (.invokevirtual 31, 3) := by decide +kernel
theorem dX1_onlyParent_5 : decode cX1_onlyParent 5 = .ok (.ifCond .eq 22, 3) := by decide +kernel
theorem dX1_onlyParent_8 : decode cX1_onlyParent 8 = .ok (.aload_n 0, 1) := by decide +kernel
theorem dX1_onlyParent_9 : decode cX1_onlyParent 9 = .ok (.getfield 21, 3) := by decide +kernel
theorem dX1_onlyParent_12 : decode cX1_onlyParent 12 = .ok (.iload_n 1, 1) := by decide +kernel
theorem dX1_onlyParent_13 : decode cX1_onlyParent 13 = .ok (.iaload, 1) := by decide +kernel
theorem dX1_onlyParent_14 : decode cX1_onlyParent 14 = .ok (.iconst (-1), 1) := by decide +kernel
theorem dX1_onlyParent_15 : decode cX1_onlyParent 15 = .ok (.if_icmp .ne 12, 3) := by decide +kernel
theorem dX1_onlyParent_18 : decode cX1_onlyParent 18 = .ok (.aload_n 0, 1) := by decide +kernel
theorem dX1_onlyParent_19 : decode cX1_onlyParent 19 = .ok (.getfield 17, 3) := by decide +kernel
theorem dX1_onlyParent_22 : decode cX1_onlyParent 22 = .ok (.iload_n 1, 1) := by decide +kernel
theorem dX1_onlyParent_23 : decode cX1_onlyParent 23 = .ok (.iaload, 1) := by decide +kernel
theorem dX1_onlyParent_24 : decode cX1_onlyParent 24 = .ok (.goto 4, 3) := by decide +kernel
theorem dX1_onlyParent_27 : decode cX1_onlyParent 27 = .ok (.iconst (-1), 1) := by decide +kernel
theorem dX1_onlyParent_28 : decode cX1_onlyParent 28 = .ok (.ireturn, 1) := by decide +kernel
theorem dX1_treeOf_0 : decode cX1_treeOf 0 = .ok (.aload_n 0, 1) := by decide +kernel
theorem dX1_treeOf_1 : decode cX1_treeOf 1 = .ok (.iload_n 1, 1) := by decide +kernel
theorem dX1_treeOf_2 : decode cX1_treeOf 2 = .ok (.invokevirtual 31, 3) := by decide +kernel
theorem dX1_treeOf_5 : decode cX1_treeOf 5 = .ok (.ifCond .eq 12, 3) := by decide +kernel
theorem dX1_treeOf_8 : decode cX1_treeOf 8 = .ok (.aload_n 0, 1) := by decide +kernel
theorem dX1_treeOf_9 : decode cX1_treeOf 9 = .ok (.getfield 11, 3) := by decide +kernel
theorem dX1_treeOf_12 : decode cX1_treeOf 12 = .ok (.iload_n 1, 1) := by decide +kernel
theorem dX1_treeOf_13 : decode cX1_treeOf 13 = .ok (.aaload, 1) := by decide +kernel
theorem dX1_treeOf_14 : decode cX1_treeOf 14 = .ok (.goto 4, 3) := by decide +kernel
theorem dX1_treeOf_17 : decode cX1_treeOf 17 = .ok (.aconst_null, 1) := by decide +kernel
theorem dX1_treeOf_18 : decode cX1_treeOf 18 = .ok (.areturn, 1) := by decide +kernel
theorem dX1_writerIn_0 : decode cX1_writerIn 0 = .ok (.aload_n 0, 1) := by decide +kernel
theorem dX1_writerIn_1 : decode cX1_writerIn 1 = .ok (.iload_n 1, 1) := by decide +kernel
theorem dX1_writerIn_2 : decode cX1_writerIn 2 = .ok (.invokevirtual 63, 3) := by decide +kernel
theorem dX1_writerIn_5 : decode cX1_writerIn 5 = .ok (.astore 5, 2) := by decide +kernel
theorem dX1_writerIn_7 : decode cX1_writerIn 7 = .ok (.aload 5, 2) := by decide +kernel
theorem dX1_writerIn_9 : decode cX1_writerIn 9 = .ok (.ifnonnull 7, 3) := by decide +kernel
theorem dX1_writerIn_12 : decode cX1_writerIn 12 = .ok (.iconst (-1), 1) := by decide +kernel
theorem dX1_writerIn_13 : decode cX1_writerIn 13 = .ok (.goto 9, 3) := by decide +kernel
theorem dX1_writerIn_16 : decode cX1_writerIn 16 = .ok (.aload 5, 2) := by decide +kernel
theorem dX1_writerIn_18 : decode cX1_writerIn 18 = .ok (.iload_n 2, 1) := by decide +kernel
theorem dX1_writerIn_19 : decode cX1_writerIn 19 = .ok (.invokevirtual 67, 3) := by decide +kernel
theorem dX1_writerIn_22 : decode cX1_writerIn 22 = .ok (.istore 6, 2) := by decide +kernel
theorem dX1_writerIn_24 : decode cX1_writerIn 24 = .ok (.iload 6, 2) := by decide +kernel
theorem dX1_writerIn_26 : decode cX1_writerIn 26 = .ok (.iconst (-1), 1) := by decide +kernel
theorem dX1_writerIn_27 : decode cX1_writerIn 27 = .ok (.if_icmp .eq 16, 3) := by decide +kernel
theorem dX1_writerIn_30 : decode cX1_writerIn 30 = .ok (.aload 5, 2) := by decide +kernel
theorem dX1_writerIn_32 : decode cX1_writerIn 32 = .ok (.getfield 48, 3) := by decide +kernel
theorem dX1_writerIn_35 : decode cX1_writerIn 35 = .ok (.iload 6, 2) := by decide +kernel
theorem dX1_writerIn_37 : decode cX1_writerIn 37 = .ok (.laload, 1) := by decide +kernel
theorem dX1_writerIn_38 : decode cX1_writerIn 38 = .ok (.lload_n 3, 1) := by decide +kernel
theorem dX1_writerIn_39 : decode cX1_writerIn 39 = .ok (.lcmp, 1) := by decide +kernel
theorem dX1_writerIn_40 : decode cX1_writerIn 40 = .ok (.ifCond .eq 7, 3) := by decide +kernel
theorem dX1_writerIn_43 : decode cX1_writerIn 43 = .ok (.iconst (-1), 1) := by decide +kernel
theorem dX1_writerIn_44 : decode cX1_writerIn 44 = .ok (.goto 11, 3) := by decide +kernel
theorem dX1_writerIn_47 : decode cX1_writerIn 47 = .ok (.aload 5, 2) := by decide +kernel
theorem dX1_writerIn_49 : decode cX1_writerIn 49 = .ok (.getfield 56, 3) := by decide +kernel
theorem dX1_writerIn_52 : decode cX1_writerIn 52 = .ok (.iload 6, 2) := by decide +kernel
theorem dX1_writerIn_54 : decode cX1_writerIn 54 = .ok (.iaload, 1) := by decide +kernel
theorem dX1_writerIn_55 : decode cX1_writerIn 55 = .ok (.ireturn, 1) := by decide +kernel
theorem dX2_allows_0 : decode cX2_allows 0 = .ok (.aload_n 0, 1) := by decide +kernel
theorem dX2_allows_1 : decode cX2_allows 1 = .ok (.iload_n 1, 1) := by decide +kernel
theorem dX2_allows_2 : decode cX2_allows 2 = .ok (.invokevirtual 49, 3) := by decide +kernel
theorem dX2_allows_5 : decode cX2_allows 5 = .ok (.ifCond .ne 5, 3) := by decide +kernel
theorem dX2_allows_8 : decode cX2_allows 8 = .ok (.iconst 0, 1) := by decide +kernel
theorem dX2_allows_9 : decode cX2_allows 9 = .ok (.ireturn, 1) := by decide +kernel
theorem dX2_allows_10 : decode cX2_allows 10 = .ok (.aload_n 0, 1) := by decide +kernel
theorem dX2_allows_11 : decode cX2_allows 11 = .ok (.getfield 21, 3) := by decide +kernel
theorem dX2_allows_14 : decode cX2_allows 14 = .ok (.iload_n 1, 1) := by decide +kernel
theorem dX2_allows_15 : decode cX2_allows 15 = .ok (.iaload, 1) := by decide +kernel
theorem dX2_allows_16 : decode cX2_allows 16 = .ok (.iconst 2, 1) := by decide +kernel
theorem dX2_allows_17 : decode cX2_allows 17 = .ok (.if_icmp .ne 16, 3) := by decide +kernel
theorem dX2_allows_20 : decode cX2_allows 20 = .ok (.aload_n 2, 1) := by decide +kernel
theorem dX2_allows_21 : decode cX2_allows 21 = .ok (.getfield 106, 3) := by decide +kernel
theorem dX2_allows_24 : decode cX2_allows 24 = .ok (.ifCond .ne 7, 3) := by decide +kernel
theorem dX2_allows_27 : decode cX2_allows 27 = .ok (.iconst 1, 1) := by decide +kernel
theorem dX2_allows_28 : decode cX2_allows 28 = .ok (.goto 4, 3) := by decide +kernel
theorem dX2_allows_31 : decode cX2_allows 31 = .ok (.iconst 0, 1) := by decide +kernel
theorem dX2_allows_32 : decode cX2_allows 32 = .ok (.ireturn, 1) := by decide +kernel
theorem dX2_allows_33 : decode cX2_allows 33 = .ok (.aload_n 0, 1) := by decide +kernel
theorem dX2_allows_34 : decode cX2_allows 34 = .ok (.getfield 21, 3) := by decide +kernel
theorem dX2_allows_37 : decode cX2_allows 37 = .ok (.iload_n 1, 1) := by decide +kernel
theorem dX2_allows_38 : decode cX2_allows 38 = .ok (.iaload, 1) := by decide +kernel
theorem dX2_allows_39 : decode cX2_allows 39 = .ok (.iconst 3, 1) := by decide +kernel
theorem dX2_allows_40 : decode cX2_allows 40 = .ok (.if_icmp .ne 12, 3) := by decide +kernel
theorem dX2_allows_43 : decode cX2_allows 43 = .ok (.aload_n 0, 1) := by decide +kernel
theorem dX2_allows_44 : decode cX2_allows 44 = .ok (.iload_n 1, 1) := by decide +kernel
theorem dX2_allows_45 : decode cX2_allows 45 = .ok (.aload_n 2, 1) := by decide +kernel
theorem dX2_allows_46 : decode cX2_allows 46 = .ok (.invokevirtual 111, 3) := by decide +kernel
theorem dX2_allows_49 : decode cX2_allows 49 = .ok (.goto 9, 3) := by decide +kernel
theorem dX2_allows_52 : decode cX2_allows 52 = .ok (.aload_n 0, 1) := by decide +kernel
theorem dX2_allows_53 : decode cX2_allows 53 = .ok (.iload_n 1, 1) := by decide +kernel
theorem dX2_allows_54 : decode cX2_allows 54 = .ok (.aload_n 2, 1) := by decide +kernel
theorem dX2_allows_55 : decode cX2_allows 55 = .ok (.invokevirtual 115, 3) := by decide +kernel
theorem dX2_allows_58 : decode cX2_allows 58 = .ok (.ireturn, 1) := by decide +kernel
theorem dX2_hasKind_0 : decode cX2_hasKind 0 = .ok (.iload_n 1, 1) := by decide +kernel
theorem dX2_hasKind_1 : decode cX2_hasKind 1 = .ok (.ifCond .lt 15, 3) := by decide +kernel
theorem dX2_hasKind_4 : decode cX2_hasKind 4 = .ok (.iload_n 1, 1) := by decide +kernel
theorem dX2_hasKind_5 : decode cX2_hasKind 5 = .ok (.aload_n 0, 1) := by decide +kernel
theorem dX2_hasKind_6 : decode cX2_hasKind 6 = .ok (.getfield 45, 3) := by decide +kernel
theorem dX2_hasKind_9 : decode cX2_hasKind 9 = .ok (.if_icmp .ge 7, 3) := by decide +kernel
theorem dX2_hasKind_12 : decode cX2_hasKind 12 = .ok (.iconst 1, 1) := by decide +kernel
theorem dX2_hasKind_13 : decode cX2_hasKind 13 = .ok (.goto 4, 3) := by decide +kernel
theorem dX2_hasKind_16 : decode cX2_hasKind 16 = .ok (.iconst 0, 1) := by decide +kernel
theorem dX2_hasKind_17 : decode cX2_hasKind 17 = .ok (.ireturn, 1) := by decide +kernel
theorem dX2_isNamed_0 : decode cX2_isNamed 0 = .ok (.aload_n 0, 1) := by decide +kernel
theorem dX2_isNamed_1 : decode cX2_isNamed 1 = .ok (.getfield 15, 3) := by decide +kernel
theorem dX2_isNamed_4 : decode cX2_isNamed 4 = .ok (.iload_n 1, 1) := by decide +kernel
theorem dX2_isNamed_5 : decode cX2_isNamed 5 = .ok (.iaload, 1) := by decide +kernel
theorem dX2_isNamed_6 : decode cX2_isNamed 6 = .ok (.iload_n 3, 1) := by decide +kernel
theorem dX2_isNamed_7 : decode cX2_isNamed 7 = .ok (.isub, 1) := by decide +kernel
theorem dX2_isNamed_8 : decode cX2_isNamed 8 = .ok (.istore 5, 2) := by decide +kernel
theorem dX2_isNamed_10 : decode cX2_isNamed 10 = .ok (.aload_n 0, 1) := by decide +kernel
theorem dX2_isNamed_11 : decode cX2_isNamed 11 = .ok (.getfield 18, 3) := by decide +kernel
theorem dX2_isNamed_14 : decode cX2_isNamed 14 = .ok (.iload_n 1, 1) := by decide +kernel
theorem dX2_isNamed_15 : decode cX2_isNamed 15 = .ok (.iaload, 1) := by decide +kernel
theorem dX2_isNamed_16 : decode cX2_isNamed 16 = .ok (.iload 4, 2) := by decide +kernel
theorem dX2_isNamed_18 : decode cX2_isNamed 18 = .ok (.isub, 1) := by decide +kernel
theorem dX2_isNamed_19 : decode cX2_isNamed 19 = .ok (.iload 5, 2) := by decide +kernel
theorem dX2_isNamed_21 : decode cX2_isNamed 21 = .ok (.if_icmp .eq 5, 3) := by decide +kernel
theorem dX2_isNamed_24 : decode cX2_isNamed 24 = .ok (.iconst 0, 1) := by decide +kernel
theorem dX2_isNamed_25 : decode cX2_isNamed 25 = .ok (.ireturn, 1) := by decide +kernel
theorem dX2_isNamed_26 : decode cX2_isNamed 26 = .ok (.iload_n 3, 1) := by decide +kernel
theorem dX2_isNamed_27 : decode cX2_isNamed 27 = .ok (.istore 6, 2) := by decide +kernel
theorem dX2_isNamed_29 : decode cX2_isNamed 29 = .ok (.iload 6, 2) := by decide +kernel
theorem dX2_isNamed_31 : decode cX2_isNamed 31 = .ok (.iload 4, 2) := by decide +kernel
theorem dX2_isNamed_33 : decode cX2_isNamed 33 = .ok (.if_icmp .ge 28, 3) := by decide +kernel
theorem dX2_isNamed_36 : decode cX2_isNamed 36 = .ok (.aload_n 2, 1) := by decide +kernel
theorem dX2_isNamed_37 : decode cX2_isNamed 37 = .ok (.iload 6, 2) := by decide +kernel
theorem dX2_isNamed_39 : decode cX2_isNamed 39 = .ok (.iaload, 1) := by decide +kernel
theorem dX2_isNamed_40 : decode cX2_isNamed 40 = .ok (.aload_n 0, 1) := by decide +kernel
theorem dX2_isNamed_41 : decode cX2_isNamed 41 = .ok (.getfield 9, 3) := by decide +kernel
theorem dX2_isNamed_44 : decode cX2_isNamed 44 = .ok (.iload 6, 2) := by decide +kernel
theorem dX2_isNamed_46 : decode cX2_isNamed 46 = .ok (.iload 5, 2) := by decide +kernel
theorem dX2_isNamed_48 : decode cX2_isNamed 48 = .ok (.iadd, 1) := by decide +kernel
theorem dX2_isNamed_49 : decode cX2_isNamed 49 = .ok (.iaload, 1) := by decide +kernel
theorem dX2_isNamed_50 : decode cX2_isNamed 50 = .ok (.if_icmp .eq 5, 3) := by decide +kernel
theorem dX2_isNamed_53 : decode cX2_isNamed 53 = .ok (.iconst 0, 1) := by decide +kernel
theorem dX2_isNamed_54 : decode cX2_isNamed 54 = .ok (.ireturn, 1) := by decide +kernel
theorem dX2_isNamed_55 : decode cX2_isNamed 55 = .ok (.iinc 6 1, 3) := by decide +kernel
theorem dX2_isNamed_58 : decode cX2_isNamed 58 = .ok (.goto (-29), 3) := by decide +kernel
theorem dX2_isNamed_61 : decode cX2_isNamed 61 = .ok (.iconst 1, 1) := by decide +kernel
theorem dX2_isNamed_62 : decode cX2_isNamed 62 = .ok (.ireturn, 1) := by decide +kernel
theorem dX2_isSet_0 : decode cX2_isSet 0 = .ok (.aload_n 0, 1) := by decide +kernel
theorem dX2_isSet_1 : decode cX2_isSet 1 = .ok (.iload_n 1, 1) := by decide +kernel
theorem dX2_isSet_2 : decode cX2_isSet 2 = .ok (.invokevirtual 49, 3) := by decide +kernel
theorem dX2_isSet_5 : decode cX2_isSet 5 = .ok (.ifCond .eq 17, 3) := by decide +kernel
theorem dX2_isSet_8 : decode cX2_isSet 8 = .ok (.aload_n 0, 1) := by decide +kernel
theorem dX2_isSet_9 : decode cX2_isSet 9 = .ok (.getfield 21, 3) := by decide +kernel
theorem dX2_isSet_12 : decode cX2_isSet 12 = .ok (.iload_n 1, 1) := by decide +kernel
theorem dX2_isSet_13 : decode cX2_isSet 13 = .ok (.iaload, 1) := by decide +kernel
theorem dX2_isSet_14 : decode cX2_isSet 14 = .ok (.iconst 3, 1) := by decide +kernel
theorem dX2_isSet_15 : decode cX2_isSet 15 = .ok (.if_icmp .ne 7, 3) := by decide +kernel
theorem dX2_isSet_18 : decode cX2_isSet 18 = .ok (.iconst 1, 1) := by decide +kernel
theorem dX2_isSet_19 : decode cX2_isSet 19 = .ok (.goto 4, 3) := by decide +kernel
theorem dX2_isSet_22 : decode cX2_isSet 22 = .ok (.iconst 0, 1) := by decide +kernel
theorem dX2_isSet_23 : decode cX2_isSet 23 = .ok (.ireturn, 1) := by decide +kernel
theorem dX2_kindAt_0 : decode cX2_kindAt 0 = .ok (.aload_n 0, 1) := by decide +kernel
theorem dX2_kindAt_1 : decode cX2_kindAt 1 = .ok (.aload_n 1, 1) := by decide +kernel
theorem dX2_kindAt_2 : decode cX2_kindAt 2 = .ok (.getfield 55, 3) := by decide +kernel
theorem dX2_kindAt_5 : decode cX2_kindAt 5 = .ok (.aload_n 1, 1) := by decide +kernel
theorem dX2_kindAt_6 : decode cX2_kindAt 6 = .ok (.getfield 88, 3) := by decide +kernel
theorem dX2_kindAt_9 : decode cX2_kindAt 9 = .ok (.aload_n 1, 1) := by decide +kernel
theorem dX2_kindAt_10 : decode cX2_kindAt 10 = .ok (.getfield 91, 3) := by decide +kernel
theorem dX2_kindAt_13 : decode cX2_kindAt 13 = .ok (.invokevirtual 98, 3) := by decide +kernel
theorem dX2_kindAt_16 : decode cX2_kindAt 16 = .ok (.ireturn, 1) := by decide +kernel
theorem dX2_kindOf_0 : decode cX2_kindOf 0 = .ok (.iconst 0, 1) := by decide +kernel
theorem dX2_kindOf_1 : decode cX2_kindOf 1 = .ok (.istore 4, 2) := by decide +kernel
theorem dX2_kindOf_3 : decode cX2_kindOf 3 = .ok (.iload 4, 2) := by decide +kernel
theorem dX2_kindOf_5 : decode cX2_kindOf 5 = .ok (.aload_n 0, 1) := by decide +kernel
theorem dX2_kindOf_6 : decode cX2_kindOf 6 = .ok (.getfield 45, 3) := by decide +kernel
theorem dX2_kindOf_9 : decode cX2_kindOf 9 = .ok (.if_icmp .ge 24, 3) := by decide +kernel
theorem dX2_kindOf_12 : decode cX2_kindOf 12 = .ok (.aload_n 0, 1) := by decide +kernel
theorem dX2_kindOf_13 : decode cX2_kindOf 13 = .ok (.iload 4, 2) := by decide +kernel
theorem dX2_kindOf_15 : decode cX2_kindOf 15 = .ok (.aload_n 1, 1) := by decide +kernel
theorem dX2_kindOf_16 : decode cX2_kindOf 16 = .ok (.iload_n 2, 1) := by decide +kernel
theorem dX2_kindOf_17 : decode cX2_kindOf 17 = .ok (.iload_n 3, 1) := by decide +kernel
theorem dX2_kindOf_18 : decode cX2_kindOf 18 = .ok (.invokevirtual 102, 3) := by decide +kernel
theorem dX2_kindOf_21 : decode cX2_kindOf 21 = .ok (.ifCond .eq 6, 3) := by decide +kernel
theorem dX2_kindOf_24 : decode cX2_kindOf 24 = .ok (.iload 4, 2) := by decide +kernel
theorem dX2_kindOf_26 : decode cX2_kindOf 26 = .ok (.ireturn, 1) := by decide +kernel
theorem dX2_kindOf_27 : decode cX2_kindOf 27 = .ok (.iinc 4 1, 3) := by decide +kernel
theorem dX2_kindOf_30 : decode cX2_kindOf 30 = .ok (.goto (-27), 3) := by decide +kernel
theorem dX2_kindOf_33 : decode cX2_kindOf 33 = .ok (.iconst (-1), 1) := by decide +kernel
theorem dX2_kindOf_34 : decode cX2_kindOf 34 = .ok (.ireturn, 1) := by decide +kernel
theorem dX2_namesAll_0 : decode cX2_namesAll 0 = .ok (.iconst 0, 1) := by decide +kernel
theorem dX2_namesAll_1 : decode cX2_namesAll 1 = .ok (.istore_n 3, 1) := by decide +kernel
theorem dX2_namesAll_2 : decode cX2_namesAll 2 = .ok (.iload_n 3, 1) := by decide +kernel
theorem dX2_namesAll_3 : decode cX2_namesAll 3 = .ok (.aload_n 2, 1) := by decide +kernel
theorem dX2_namesAll_4 : decode cX2_namesAll 4 = .ok (.getfield 106, 3) := by decide +kernel
theorem dX2_namesAll_7 : decode cX2_namesAll 7 = .ok (.if_icmp .ge 72, 3) := by decide +kernel
theorem dX2_namesAll_10 : decode cX2_namesAll 10 = .ok (.iconst 0, 1) := by decide +kernel
theorem dX2_namesAll_11 : decode cX2_namesAll 11 = .ok (.istore 4, 2) := by decide +kernel
theorem dX2_namesAll_13 : decode cX2_namesAll 13 = .ok (.aload_n 0, 1) := by decide +kernel
theorem dX2_namesAll_14 : decode cX2_namesAll 14 = .ok (.getfield 24, 3) := by decide +kernel
theorem dX2_namesAll_17 : decode cX2_namesAll 17 = .ok (.iload_n 1, 1) := by decide +kernel
theorem dX2_namesAll_18 : decode cX2_namesAll 18 = .ok (.iaload, 1) := by decide +kernel
theorem dX2_namesAll_19 : decode cX2_namesAll 19 = .ok (.istore 5, 2) := by decide +kernel
theorem dX2_namesAll_21 : decode cX2_namesAll 21 = .ok (.iload 5, 2) := by decide +kernel
theorem dX2_namesAll_23 : decode cX2_namesAll 23 = .ok (.aload_n 0, 1) := by decide +kernel
theorem dX2_namesAll_24 : decode cX2_namesAll 24 = .ok (.getfield 27, 3) := by decide +kernel
theorem dX2_namesAll_27 : decode cX2_namesAll 27 = .ok (.iload_n 1, 1) := by decide +kernel
theorem dX2_namesAll_28 : decode cX2_namesAll 28 = .ok (.iaload, 1) := by decide +kernel
theorem dX2_namesAll_29 : decode cX2_namesAll 29 = .ok (.if_icmp .ge 37, 3) := by decide +kernel
theorem dX2_namesAll_32 : decode cX2_namesAll 32 = .ok (.iload 4, 2) := by decide +kernel
theorem dX2_namesAll_34 : decode cX2_namesAll 34 = .ok (.ifCond .ne 19, 3) := by decide +kernel
theorem dX2_namesAll_37 : decode cX2_namesAll 37 = .ok (.aload_n 0, 1) := by decide +kernel
theorem dX2_namesAll_38 : decode cX2_namesAll 38 = .ok (.getfield 36, 3) := by decide +kernel
theorem dX2_namesAll_41 : decode cX2_namesAll 41 = .ok (.iload 5, 2) := by decide +kernel
theorem dX2_namesAll_43 : decode cX2_namesAll 43 = .ok (.iaload, 1) := by decide +kernel
theorem dX2_namesAll_44 : decode cX2_namesAll 44 = .ok (.aload_n 2, 1) := by decide +kernel
theorem dX2_namesAll_45 : decode cX2_namesAll 45 = .ok (.getfield 118, 3) := by decide +kernel
theorem dX2_namesAll_48 : decode cX2_namesAll 48 = .ok (.iload_n 3, 1) := by decide +kernel
theorem dX2_namesAll_49 : decode cX2_namesAll 49 = .ok (.iaload, 1) := by decide +kernel
theorem dX2_namesAll_50 : decode cX2_namesAll 50 = .ok (.if_icmp .ne 7, 3) := by decide +kernel
theorem dX2_namesAll_53 : decode cX2_namesAll 53 = .ok (.iconst 1, 1) := by decide +kernel
theorem dX2_namesAll_54 : decode cX2_namesAll 54 = .ok (.goto 4, 3) := by decide +kernel
theorem dX2_namesAll_57 : decode cX2_namesAll 57 = .ok (.iconst 0, 1) := by decide +kernel
theorem dX2_namesAll_58 : decode cX2_namesAll 58 = .ok (.istore 4, 2) := by decide +kernel
theorem dX2_namesAll_60 : decode cX2_namesAll 60 = .ok (.iinc 5 1, 3) := by decide +kernel
theorem dX2_namesAll_63 : decode cX2_namesAll 63 = .ok (.goto (-42), 3) := by decide +kernel
theorem dX2_namesAll_66 : decode cX2_namesAll 66 = .ok (.iload 4, 2) := by decide +kernel
theorem dX2_namesAll_68 : decode cX2_namesAll 68 = .ok (.ifCond .ne 5, 3) := by decide +kernel
theorem dX2_namesAll_71 : decode cX2_namesAll 71 = .ok (.iconst 0, 1) := by decide +kernel
theorem dX2_namesAll_72 : decode cX2_namesAll 72 = .ok (.ireturn, 1) := by decide +kernel
theorem dX2_namesAll_73 : decode cX2_namesAll 73 = .ok (.iinc 3 1, 3) := by decide +kernel
theorem dX2_namesAll_76 : decode cX2_namesAll 76 = .ok (.goto (-74), 3) := by decide +kernel
theorem dX2_namesAll_79 : decode cX2_namesAll 79 = .ok (.iconst 1, 1) := by decide +kernel
theorem dX2_namesAll_80 : decode cX2_namesAll 80 = .ok (.ireturn, 1) := by decide +kernel
theorem dX2_passOver_0 : decode cX2_passOver 0 = .ok (.iconst 0, 1) := by decide +kernel
theorem dX2_passOver_1 : decode cX2_passOver 1 = .ok (.istore_n 3, 1) := by decide +kernel
theorem dX2_passOver_2 : decode cX2_passOver 2 = .ok (.iload_n 3, 1) := by decide +kernel
theorem dX2_passOver_3 : decode cX2_passOver 3 = .ok (.iload_n 2, 1) := by decide +kernel
theorem dX2_passOver_4 : decode cX2_passOver 4 = .ok (.if_icmp .ge 39, 3) := by decide +kernel
theorem dX2_passOver_7 : decode cX2_passOver 7 = .ok (.aload_n 0, 1) := by decide +kernel
theorem dX2_passOver_8 : decode cX2_passOver 8 = .ok (.getfield 42, 3) := by decide +kernel
theorem dX2_passOver_11 : decode cX2_passOver 11 = .ok (.iload_n 3, 1) := by decide +kernel
theorem dX2_passOver_12 : decode cX2_passOver 12 = .ok (.iaload, 1) := by decide +kernel
theorem dX2_passOver_13 : decode cX2_passOver 13 = .ok (.iconst 1, 1) := by decide +kernel
theorem dX2_passOver_14 : decode cX2_passOver 14 = .ok (.if_icmp .ne 23, 3) := by decide +kernel
theorem dX2_passOver_17 : decode cX2_passOver 17 = .ok (.aload_n 0, 1) := by decide +kernel
theorem dX2_passOver_18 : decode cX2_passOver 18 = .ok (.getfield 39, 3) := by decide +kernel
theorem dX2_passOver_21 : decode cX2_passOver 21 = .ok (.iload_n 1, 1) := by decide +kernel
theorem dX2_passOver_22 : decode cX2_passOver 22 = .ok (.iload_n 3, 1) := by decide +kernel
theorem dX2_passOver_23 : decode cX2_passOver 23 = .ok (.iadd, 1) := by decide +kernel
theorem dX2_passOver_24 : decode cX2_passOver 24 = .ok (.iaload, 1) := by decide +kernel
theorem dX2_passOver_25 : decode cX2_passOver 25 = .ok (.ifCond .eq 12, 3) := by decide +kernel
theorem dX2_passOver_28 : decode cX2_passOver 28 = .ok (.aload_n 0, 1) := by decide +kernel
theorem dX2_passOver_29 : decode cX2_passOver 29 = .ok (.getfield 42, 3) := by decide +kernel
theorem dX2_passOver_32 : decode cX2_passOver 32 = .ok (.iload_n 3, 1) := by decide +kernel
theorem dX2_passOver_33 : decode cX2_passOver 33 = .ok (.iconst 1, 1) := by decide +kernel
theorem dX2_passOver_34 : decode cX2_passOver 34 = .ok (.iadd, 1) := by decide +kernel
theorem dX2_passOver_35 : decode cX2_passOver 35 = .ok (.iconst 1, 1) := by decide +kernel
theorem dX2_passOver_36 : decode cX2_passOver 36 = .ok (.iastore, 1) := by decide +kernel
theorem dX2_passOver_37 : decode cX2_passOver 37 = .ok (.iinc 3 1, 3) := by decide +kernel
theorem dX2_passOver_40 : decode cX2_passOver 40 = .ok (.goto (-38), 3) := by decide +kernel
theorem dX2_passOver_43 : decode cX2_passOver 43 = .ok (.return_, 1) := by decide +kernel
theorem dX2_readFrom_0 : decode cX2_readFrom 0 = .ok (.aload_n 1, 1) := by decide +kernel
theorem dX2_readFrom_1 : decode cX2_readFrom 1 = .ok (.getfield 55, 3) := by decide +kernel
theorem dX2_readFrom_4 : decode cX2_readFrom 4 = .ok (.iconst 0, 1) := by decide +kernel
theorem dX2_readFrom_5 : decode cX2_readFrom 5 = .ok (.aload_n 0, 1) := by decide +kernel
theorem dX2_readFrom_6 : decode cX2_readFrom 6 = .ok (.getfield 9, 3) := by decide +kernel
theorem dX2_readFrom_9 : decode cX2_readFrom 9 = .ok (.iconst 0, 1) := by decide +kernel
theorem dX2_readFrom_10 : decode cX2_readFrom 10 = .ok (.aload_n 1, 1) := by decide +kernel
theorem dX2_readFrom_11 : decode cX2_readFrom 11 = .ok (.getfield 56, 3) := by decide +kernel
theorem dX2_readFrom_14 : decode cX2_readFrom 14 = .ok (.invokestatic 59, 3) := by decide +kernel
theorem dX2_readFrom_17 : decode cX2_readFrom 17 = .ok (.aload_n 0, 1) := by decide +kernel
theorem dX2_readFrom_18 : decode cX2_readFrom 18 = .ok (.iconst 0, 1) := by decide +kernel
theorem dX2_readFrom_19 : decode cX2_readFrom 19 = .ok (.putfield 45, 3) := by decide +kernel
theorem dX2_readFrom_22 : decode cX2_readFrom 22 = .ok (.aload_n 0, 1) := by decide +kernel
theorem dX2_readFrom_23 : decode cX2_readFrom 23 = .ok (.iconst 0, 1) := by decide +kernel
theorem dX2_readFrom_24 : decode cX2_readFrom 24 = .ok (.putfield 65, 3) := by decide +kernel
theorem dX2_readFrom_27 : decode cX2_readFrom 27 = .ok (.aload_n 1, 1) := by decide +kernel
theorem dX2_readFrom_28 : decode cX2_readFrom 28 = .ok (.invokevirtual 68, 3) := by decide +kernel
theorem dX2_readFrom_31 : decode cX2_readFrom 31 = .ok (.aload_n 1, 1) := by decide +kernel
theorem dX2_readFrom_32 : decode cX2_readFrom 32 = .ok (.invokevirtual 71, 3) := by decide +kernel
theorem dX2_readFrom_35 : decode cX2_readFrom 35 = .ok (.iconst 0, 1) := by decide +kernel
theorem dX2_readFrom_36 : decode cX2_readFrom 36 = .ok (.istore_n 2, 1) := by decide +kernel
theorem dX2_readFrom_37 : decode cX2_readFrom 37 = .ok (.iload_n 2, 1) := by decide +kernel
theorem dX2_readFrom_38 : decode cX2_readFrom 38 = .ok (.bipush 10, 2) := by decide +kernel
theorem dX2_readFrom_40 : decode cX2_readFrom 40 = .ok (.if_icmp .gt 32, 3) := by decide +kernel
theorem dX2_readFrom_43 : decode cX2_readFrom 43 = .ok (.aload_n 0, 1) := by decide +kernel
theorem dX2_readFrom_44 : decode cX2_readFrom 44 = .ok (.aload_n 1, 1) := by decide +kernel
theorem dX2_readFrom_45 : decode cX2_readFrom 45 = .ok (.invokevirtual 74, 3) := by decide +kernel
theorem dX2_readFrom_48 : decode cX2_readFrom 48 = .ok (.istore_n 3, 1) := by decide +kernel
theorem dX2_readFrom_49 : decode cX2_readFrom 49 = .ok (.iload_n 3, 1) := by decide +kernel
theorem dX2_readFrom_50 : decode cX2_readFrom 50 = .ok (.iconst (-1), 1) := by decide +kernel
theorem dX2_readFrom_51 : decode cX2_readFrom 51 = .ok (.if_icmp .eq 5, 3) := by decide +kernel
theorem dX2_readFrom_54 : decode cX2_readFrom 54 = .ok (.iload_n 3, 1) := by decide +kernel
theorem dX2_readFrom_55 : decode cX2_readFrom 55 = .ok (.ireturn, 1) := by decide +kernel
theorem dX2_readFrom_56 : decode cX2_readFrom 56 = .ok (.aload_n 1, 1) := by decide +kernel
theorem dX2_readFrom_57 : decode cX2_readFrom 57 = .ok (.getfield 78, 3) := by decide +kernel
theorem dX2_readFrom_60 : decode cX2_readFrom 60 = .ok (.ifCond .ne 6, 3) := by decide +kernel
theorem dX2_readFrom_63 : decode cX2_readFrom 63 = .ok (.goto 9, 3) := by decide +kernel
theorem dX2_readFrom_66 : decode cX2_readFrom 66 = .ok (.iinc 2 1, 3) := by decide +kernel
theorem dX2_readFrom_69 : decode cX2_readFrom 69 = .ok (.goto (-32), 3) := by decide +kernel
theorem dX2_readFrom_72 : decode cX2_readFrom 72 = .ok (.aload_n 0, 1) := by decide +kernel
theorem dX2_readFrom_73 : decode cX2_readFrom 73 = .ok (.invokevirtual 81, 3) := by decide +kernel
theorem dX2_readFrom_76 : decode cX2_readFrom 76 = .ok (.ireturn, 1) := by decide +kernel
theorem dX2_readItems_0 : decode cX2_readItems 0 = .ok (.aload_n 1, 1) := by decide +kernel
theorem dX2_readItems_1 : decode cX2_readItems 1 = .ok (.getfield 78, 3) := by decide +kernel
theorem dX2_readItems_4 : decode cX2_readItems 4 = .ok (.iconst 1, 1) := by decide +kernel
theorem dX2_readItems_5 : decode cX2_readItems 5 = .ok (.if_icmp .ne 105, 3) := by decide +kernel
theorem dX2_readItems_8 : decode cX2_readItems 8 = .ok (.aload_n 0, 1) := by decide +kernel
theorem dX2_readItems_9 : decode cX2_readItems 9 = .ok (.getfield 65, 3) := by decide +kernel
theorem dX2_readItems_12 : decode cX2_readItems 12 = .ok (.sipush 500, 3) := by decide +kernel
theorem dX2_readItems_15 : decode cX2_readItems 15 = .ok (.if_icmp .ge 95, 3) := by decide +kernel
theorem dX2_readItems_18 : decode cX2_readItems 18 = .ok (.aload_n 0, 1) := by decide +kernel
theorem dX2_readItems_19 : decode cX2_readItems 19 = .ok (.getfield 30, 3) := by decide +kernel
theorem dX2_readItems_22 : decode cX2_readItems 22 = .ok (.aload_n 0, 1) := by decide +kernel
theorem dX2_readItems_23 : decode cX2_readItems 23 = .ok (.getfield 65, 3) := by decide +kernel
theorem dX2_readItems_26 : decode cX2_readItems 26 = .ok (.aload_n 1, 1) := by decide +kernel
theorem dX2_readItems_27 : decode cX2_readItems 27 = .ok (.getfield 88, 3) := by decide +kernel
theorem dX2_readItems_30 : decode cX2_readItems 30 = .ok (.iastore, 1) := by decide +kernel
theorem dX2_readItems_31 : decode cX2_readItems 31 = .ok (.aload_n 0, 1) := by decide +kernel
theorem dX2_readItems_32 : decode cX2_readItems 32 = .ok (.getfield 33, 3) := by decide +kernel
theorem dX2_readItems_35 : decode cX2_readItems 35 = .ok (.aload_n 0, 1) := by decide +kernel
theorem dX2_readItems_36 : decode cX2_readItems 36 = .ok (.getfield 65, 3) := by decide +kernel
theorem dX2_readItems_39 : decode cX2_readItems 39 = .ok (.aload_n 1, 1) := by decide +kernel
theorem dX2_readItems_40 : decode cX2_readItems 40 = .ok (.getfield 91, 3) := by decide +kernel
theorem dX2_readItems_43 : decode cX2_readItems 43 = .ok (.iastore, 1) := by decide +kernel
theorem dX2_readItems_44 : decode cX2_readItems 44 = .ok (.aload_n 0, 1) := by decide +kernel
theorem dX2_readItems_45 : decode cX2_readItems 45 = .ok (.getfield 39, 3) := by decide +kernel
theorem dX2_readItems_48 : decode cX2_readItems 48 = .ok (.aload_n 0, 1) := by decide +kernel
theorem dX2_readItems_49 : decode cX2_readItems 49 = .ok (.getfield 65, 3) := by decide +kernel
theorem dX2_readItems_52 : decode cX2_readItems 52 = .ok (.iconst 0, 1) := by decide +kernel
theorem dX2_readItems_53 : decode cX2_readItems 53 = .ok (.iastore, 1) := by decide +kernel
theorem dX2_readItems_54 : decode cX2_readItems 54 = .ok (.aload_n 1, 1) := by decide +kernel
theorem dX2_readItems_55 : decode cX2_readItems 55 = .ok (.invokevirtual 71, 3) := by decide +kernel
theorem dX2_readItems_58 : decode cX2_readItems 58 = .ok (.iload_n 2, 1) := by decide +kernel
theorem dX2_readItems_59 : decode cX2_readItems 59 = .ok (.ifCond .eq 38, 3) := by decide +kernel
theorem dX2_readItems_62 : decode cX2_readItems 62 = .ok (.aload_n 1, 1) := by decide +kernel
theorem dX2_readItems_63 : decode cX2_readItems 63 = .ok (.getfield 78, 3) := by decide +kernel
theorem dX2_readItems_66 : decode cX2_readItems 66 = .ok (.bipush 63, 2) := by decide +kernel
theorem dX2_readItems_68 : decode cX2_readItems 68 = .ok (.if_icmp .eq 12, 3) := by decide +kernel
theorem dX2_readItems_71 : decode cX2_readItems 71 = .ok (.aload_n 1, 1) := by decide +kernel
theorem dX2_readItems_72 : decode cX2_readItems 72 = .ok (.getfield 78, 3) := by decide +kernel
theorem dX2_readItems_75 : decode cX2_readItems 75 = .ok (.bipush 42, 2) := by decide +kernel
theorem dX2_readItems_77 : decode cX2_readItems 77 = .ok (.if_icmp .ne 20, 3) := by decide +kernel
theorem dX2_readItems_80 : decode cX2_readItems 80 = .ok (.aload_n 0, 1) := by decide +kernel
theorem dX2_readItems_81 : decode cX2_readItems 81 = .ok (.getfield 39, 3) := by decide +kernel
theorem dX2_readItems_84 : decode cX2_readItems 84 = .ok (.aload_n 0, 1) := by decide +kernel
theorem dX2_readItems_85 : decode cX2_readItems 85 = .ok (.getfield 65, 3) := by decide +kernel
theorem dX2_readItems_88 : decode cX2_readItems 88 = .ok (.aload_n 1, 1) := by decide +kernel
theorem dX2_readItems_89 : decode cX2_readItems 89 = .ok (.getfield 78, 3) := by decide +kernel
theorem dX2_readItems_92 : decode cX2_readItems 92 = .ok (.iastore, 1) := by decide +kernel
theorem dX2_readItems_93 : decode cX2_readItems 93 = .ok (.aload_n 1, 1) := by decide +kernel
theorem dX2_readItems_94 : decode cX2_readItems 94 = .ok (.invokevirtual 71, 3) := by decide +kernel
theorem dX2_readItems_97 : decode cX2_readItems 97 = .ok (.aload_n 0, 1) := by decide +kernel
theorem dX2_readItems_98 : decode cX2_readItems 98 = .ok (.dup, 1) := by decide +kernel
theorem dX2_readItems_99 : decode cX2_readItems 99 = .ok (.getfield 65, 3) := by decide +kernel
theorem dX2_readItems_102 : decode cX2_readItems 102 = .ok (.iconst 1, 1) := by decide +kernel
theorem dX2_readItems_103 : decode cX2_readItems 103 = .ok (.iadd, 1) := by decide +kernel
theorem dX2_readItems_104 : decode cX2_readItems 104 = .ok (.putfield 65, 3) := by decide +kernel
theorem dX2_readItems_107 : decode cX2_readItems 107 = .ok (.goto (-107), 3) := by decide +kernel
theorem dX2_readItems_110 : decode cX2_readItems 110 = .ok (.return_, 1) := by decide +kernel
theorem dX2_readRule_0 : decode cX2_readRule 0 = .ok (.aload_n 1, 1) := by decide +kernel
theorem dX2_readRule_1 : decode cX2_readRule 1 = .ok (.getfield 78, 3) := by decide +kernel
theorem dX2_readRule_4 : decode cX2_readRule 4 = .ok (.iconst 1, 1) := by decide +kernel
theorem dX2_readRule_5 : decode cX2_readRule 5 = .ok (.if_icmp .ne 21, 3) := by decide +kernel
theorem dX2_readRule_8 : decode cX2_readRule 8 = .ok (.aload_n 0, 1) := by decide +kernel
theorem dX2_readRule_9 : decode cX2_readRule 9 = .ok (.getfield 45, 3) := by decide +kernel
theorem dX2_readRule_12 : decode cX2_readRule 12 = .ok (.bipush 10, 2) := by decide +kernel
theorem dX2_readRule_14 : decode cX2_readRule 14 = .ok (.if_icmp .ge 12, 3) := by decide +kernel
theorem dX2_readRule_17 : decode cX2_readRule 17 = .ok (.aload_n 0, 1) := by decide +kernel
theorem dX2_readRule_18 : decode cX2_readRule 18 = .ok (.aload_n 1, 1) := by decide +kernel
theorem dX2_readRule_19 : decode cX2_readRule 19 = .ok (.invokevirtual 85, 3) := by decide +kernel
theorem dX2_readRule_22 : decode cX2_readRule 22 = .ok (.iconst (-1), 1) := by decide +kernel
theorem dX2_readRule_23 : decode cX2_readRule 23 = .ok (.if_icmp .eq 8, 3) := by decide +kernel
theorem dX2_readRule_26 : decode cX2_readRule 26 = .ok (.aload_n 1, 1) := by decide +kernel
theorem dX2_readRule_27 : decode cX2_readRule 27 = .ok (.getfield 88, 3) := by decide +kernel
theorem dX2_readRule_30 : decode cX2_readRule 30 = .ok (.ireturn, 1) := by decide +kernel
theorem dX2_readRule_31 : decode cX2_readRule 31 = .ok (.aload_n 0, 1) := by decide +kernel
theorem dX2_readRule_32 : decode cX2_readRule 32 = .ok (.getfield 15, 3) := by decide +kernel
theorem dX2_readRule_35 : decode cX2_readRule 35 = .ok (.aload_n 0, 1) := by decide +kernel
theorem dX2_readRule_36 : decode cX2_readRule 36 = .ok (.getfield 45, 3) := by decide +kernel
theorem dX2_readRule_39 : decode cX2_readRule 39 = .ok (.aload_n 1, 1) := by decide +kernel
theorem dX2_readRule_40 : decode cX2_readRule 40 = .ok (.getfield 88, 3) := by decide +kernel
theorem dX2_readRule_43 : decode cX2_readRule 43 = .ok (.iastore, 1) := by decide +kernel
theorem dX2_readRule_44 : decode cX2_readRule 44 = .ok (.aload_n 0, 1) := by decide +kernel
theorem dX2_readRule_45 : decode cX2_readRule 45 = .ok (.getfield 18, 3) := by decide +kernel
theorem dX2_readRule_48 : decode cX2_readRule 48 = .ok (.aload_n 0, 1) := by decide +kernel
theorem dX2_readRule_49 : decode cX2_readRule 49 = .ok (.getfield 45, 3) := by decide +kernel
theorem dX2_readRule_52 : decode cX2_readRule 52 = .ok (.aload_n 1, 1) := by decide +kernel
theorem dX2_readRule_53 : decode cX2_readRule 53 = .ok (.getfield 91, 3) := by decide +kernel
theorem dX2_readRule_56 : decode cX2_readRule 56 = .ok (.iastore, 1) := by decide +kernel
theorem dX2_readRule_57 : decode cX2_readRule 57 = .ok (.aload_n 1, 1) := by decide +kernel
theorem dX2_readRule_58 : decode cX2_readRule 58 = .ok (.invokevirtual 71, 3) := by decide +kernel
theorem dX2_readRule_61 : decode cX2_readRule 61 = .ok (.aload_n 1, 1) := by decide +kernel
theorem dX2_readRule_62 : decode cX2_readRule 62 = .ok (.getfield 78, 3) := by decide +kernel
theorem dX2_readRule_65 : decode cX2_readRule 65 = .ok (.istore_n 2, 1) := by decide +kernel
theorem dX2_readRule_66 : decode cX2_readRule 66 = .ok (.iload_n 2, 1) := by decide +kernel
theorem dX2_readRule_67 : decode cX2_readRule 67 = .ok (.iconst 2, 1) := by decide +kernel
theorem dX2_readRule_68 : decode cX2_readRule 68 = .ok (.if_icmp .eq 19, 3) := by decide +kernel
theorem dX2_readRule_71 : decode cX2_readRule 71 = .ok (.iload_n 2, 1) := by decide +kernel
theorem dX2_readRule_72 : decode cX2_readRule 72 = .ok (.iconst 3, 1) := by decide +kernel
theorem dX2_readRule_73 : decode cX2_readRule 73 = .ok (.if_icmp .eq 14, 3) := by decide +kernel
theorem dX2_readRule_76 : decode cX2_readRule 76 = .ok (.iload_n 2, 1) := by decide +kernel
theorem dX2_readRule_77 : decode cX2_readRule 77 = .ok (.bipush 61, 2) := by decide +kernel
theorem dX2_readRule_79 : decode cX2_readRule 79 = .ok (.if_icmp .eq 8, 3) := by decide +kernel
theorem dX2_readRule_82 : decode cX2_readRule 82 = .ok (.aload_n 1, 1) := by decide +kernel
theorem dX2_readRule_83 : decode cX2_readRule 83 = .ok (.getfield 88, 3) := by decide +kernel
theorem dX2_readRule_86 : decode cX2_readRule 86 = .ok (.ireturn, 1) := by decide +kernel
theorem dX2_readRule_87 : decode cX2_readRule 87 = .ok (.aload_n 0, 1) := by decide +kernel
theorem dX2_readRule_88 : decode cX2_readRule 88 = .ok (.getfield 21, 3) := by decide +kernel
theorem dX2_readRule_91 : decode cX2_readRule 91 = .ok (.aload_n 0, 1) := by decide +kernel
theorem dX2_readRule_92 : decode cX2_readRule 92 = .ok (.getfield 45, 3) := by decide +kernel
theorem dX2_readRule_95 : decode cX2_readRule 95 = .ok (.iload_n 2, 1) := by decide +kernel
theorem dX2_readRule_96 : decode cX2_readRule 96 = .ok (.iastore, 1) := by decide +kernel
theorem dX2_readRule_97 : decode cX2_readRule 97 = .ok (.aload_n 0, 1) := by decide +kernel
theorem dX2_readRule_98 : decode cX2_readRule 98 = .ok (.getfield 24, 3) := by decide +kernel
theorem dX2_readRule_101 : decode cX2_readRule 101 = .ok (.aload_n 0, 1) := by decide +kernel
theorem dX2_readRule_102 : decode cX2_readRule 102 = .ok (.getfield 45, 3) := by decide +kernel
theorem dX2_readRule_105 : decode cX2_readRule 105 = .ok (.aload_n 0, 1) := by decide +kernel
theorem dX2_readRule_106 : decode cX2_readRule 106 = .ok (.getfield 65, 3) := by decide +kernel
theorem dX2_readRule_109 : decode cX2_readRule 109 = .ok (.iastore, 1) := by decide +kernel
theorem dX2_readRule_110 : decode cX2_readRule 110 = .ok (.aload_n 1, 1) := by decide +kernel
theorem dX2_readRule_111 : decode cX2_readRule 111 = .ok (.invokevirtual 71, 3) := by decide +kernel
theorem dX2_readRule_114 : decode cX2_readRule 114 = .ok (.iload_n 2, 1) := by decide +kernel
theorem dX2_readRule_115 : decode cX2_readRule 115 = .ok (.iconst 2, 1) := by decide +kernel
theorem dX2_readRule_116 : decode cX2_readRule 116 = .ok (.if_icmp .eq 32, 3) := by decide +kernel
theorem dX2_readRule_119 : decode cX2_readRule 119 = .ok (.aload_n 1, 1) := by decide +kernel
theorem dX2_readRule_120 : decode cX2_readRule 120 = .ok (.getfield 78, 3) := by decide +kernel
theorem dX2_readRule_123 : decode cX2_readRule 123 = .ok (.iconst 1, 1) := by decide +kernel
theorem dX2_readRule_124 : decode cX2_readRule 124 = .ok (.if_icmp .eq 8, 3) := by decide +kernel
theorem dX2_readRule_127 : decode cX2_readRule 127 = .ok (.aload_n 1, 1) := by decide +kernel
theorem dX2_readRule_128 : decode cX2_readRule 128 = .ok (.getfield 88, 3) := by decide +kernel
theorem dX2_readRule_131 : decode cX2_readRule 131 = .ok (.ireturn, 1) := by decide +kernel
theorem dX2_readRule_132 : decode cX2_readRule 132 = .ok (.aload_n 0, 1) := by decide +kernel
theorem dX2_readRule_133 : decode cX2_readRule 133 = .ok (.aload_n 1, 1) := by decide +kernel
theorem dX2_readRule_134 : decode cX2_readRule 134 = .ok (.iload_n 2, 1) := by decide +kernel
theorem dX2_readRule_135 : decode cX2_readRule 135 = .ok (.bipush 61, 2) := by decide +kernel
theorem dX2_readRule_137 : decode cX2_readRule 137 = .ok (.if_icmp .ne 7, 3) := by decide +kernel
theorem dX2_readRule_140 : decode cX2_readRule 140 = .ok (.iconst 1, 1) := by decide +kernel
theorem dX2_readRule_141 : decode cX2_readRule 141 = .ok (.goto 4, 3) := by decide +kernel
theorem dX2_readRule_144 : decode cX2_readRule 144 = .ok (.iconst 0, 1) := by decide +kernel
theorem dX2_readRule_145 : decode cX2_readRule 145 = .ok (.invokevirtual 94, 3) := by decide +kernel
theorem dX2_readRule_148 : decode cX2_readRule 148 = .ok (.aload_n 0, 1) := by decide +kernel
theorem dX2_readRule_149 : decode cX2_readRule 149 = .ok (.getfield 27, 3) := by decide +kernel
theorem dX2_readRule_152 : decode cX2_readRule 152 = .ok (.aload_n 0, 1) := by decide +kernel
theorem dX2_readRule_153 : decode cX2_readRule 153 = .ok (.getfield 45, 3) := by decide +kernel
theorem dX2_readRule_156 : decode cX2_readRule 156 = .ok (.aload_n 0, 1) := by decide +kernel
theorem dX2_readRule_157 : decode cX2_readRule 157 = .ok (.getfield 65, 3) := by decide +kernel
theorem dX2_readRule_160 : decode cX2_readRule 160 = .ok (.iastore, 1) := by decide +kernel
theorem dX2_readRule_161 : decode cX2_readRule 161 = .ok (.aload_n 1, 1) := by decide +kernel
theorem dX2_readRule_162 : decode cX2_readRule 162 = .ok (.getfield 78, 3) := by decide +kernel
theorem dX2_readRule_165 : decode cX2_readRule 165 = .ok (.bipush 59, 2) := by decide +kernel
theorem dX2_readRule_167 : decode cX2_readRule 167 = .ok (.if_icmp .eq 8, 3) := by decide +kernel
theorem dX2_readRule_170 : decode cX2_readRule 170 = .ok (.aload_n 1, 1) := by decide +kernel
theorem dX2_readRule_171 : decode cX2_readRule 171 = .ok (.getfield 88, 3) := by decide +kernel
theorem dX2_readRule_174 : decode cX2_readRule 174 = .ok (.ireturn, 1) := by decide +kernel
theorem dX2_readRule_175 : decode cX2_readRule 175 = .ok (.aload_n 0, 1) := by decide +kernel
theorem dX2_readRule_176 : decode cX2_readRule 176 = .ok (.dup, 1) := by decide +kernel
theorem dX2_readRule_177 : decode cX2_readRule 177 = .ok (.getfield 45, 3) := by decide +kernel
theorem dX2_readRule_180 : decode cX2_readRule 180 = .ok (.iconst 1, 1) := by decide +kernel
theorem dX2_readRule_181 : decode cX2_readRule 181 = .ok (.iadd, 1) := by decide +kernel
theorem dX2_readRule_182 : decode cX2_readRule 182 = .ok (.putfield 45, 3) := by decide +kernel
theorem dX2_readRule_185 : decode cX2_readRule 185 = .ok (.aload_n 1, 1) := by decide +kernel
theorem dX2_readRule_186 : decode cX2_readRule 186 = .ok (.invokevirtual 71, 3) := by decide +kernel
theorem dX2_readRule_189 : decode cX2_readRule 189 = .ok (.iconst (-1), 1) := by decide +kernel
theorem dX2_readRule_190 : decode cX2_readRule 190 = .ok (.ireturn, 1) := by decide +kernel
theorem dX2_resolveItems_0 : decode cX2_resolveItems 0 = .ok (.iconst 0, 1) := by decide +kernel
theorem dX2_resolveItems_1 : decode cX2_resolveItems 1 = .ok (.istore_n 1, 1) := by decide +kernel
theorem dX2_resolveItems_2 : decode cX2_resolveItems 2 = .ok (.iload_n 1, 1) := by decide +kernel
theorem dX2_resolveItems_3 : decode cX2_resolveItems 3 = .ok (.aload_n 0, 1) := by decide +kernel
theorem dX2_resolveItems_4 : decode cX2_resolveItems 4 = .ok (.getfield 65, 3) := by decide +kernel
theorem dX2_resolveItems_7 : decode cX2_resolveItems 7 = .ok (.if_icmp .ge 52, 3) := by decide +kernel
theorem dX2_resolveItems_10 : decode cX2_resolveItems 10 = .ok (.aload_n 0, 1) := by decide +kernel
theorem dX2_resolveItems_11 : decode cX2_resolveItems 11 = .ok (.getfield 36, 3) := by decide +kernel
theorem dX2_resolveItems_14 : decode cX2_resolveItems 14 = .ok (.iload_n 1, 1) := by decide +kernel
theorem dX2_resolveItems_15 : decode cX2_resolveItems 15 = .ok (.aload_n 0, 1) := by decide +kernel
theorem dX2_resolveItems_16 : decode cX2_resolveItems 16 = .ok (.aload_n 0, 1) := by decide +kernel
theorem dX2_resolveItems_17 : decode cX2_resolveItems 17 = .ok (.getfield 9, 3) := by decide +kernel
theorem dX2_resolveItems_20 : decode cX2_resolveItems 20 = .ok (.aload_n 0, 1) := by decide +kernel
theorem dX2_resolveItems_21 : decode cX2_resolveItems 21 = .ok (.getfield 30, 3) := by decide +kernel
theorem dX2_resolveItems_24 : decode cX2_resolveItems 24 = .ok (.iload_n 1, 1) := by decide +kernel
theorem dX2_resolveItems_25 : decode cX2_resolveItems 25 = .ok (.iaload, 1) := by decide +kernel
theorem dX2_resolveItems_26 : decode cX2_resolveItems 26 = .ok (.aload_n 0, 1) := by decide +kernel
theorem dX2_resolveItems_27 : decode cX2_resolveItems 27 = .ok (.getfield 33, 3) := by decide +kernel
theorem dX2_resolveItems_30 : decode cX2_resolveItems 30 = .ok (.iload_n 1, 1) := by decide +kernel
theorem dX2_resolveItems_31 : decode cX2_resolveItems 31 = .ok (.iaload, 1) := by decide +kernel
theorem dX2_resolveItems_32 : decode cX2_resolveItems 32 = .ok (.invokevirtual 98, 3) := by decide +kernel
theorem dX2_resolveItems_35 : decode cX2_resolveItems 35 = .ok (.iastore, 1) := by decide +kernel
theorem dX2_resolveItems_36 : decode cX2_resolveItems 36 = .ok (.aload_n 0, 1) := by decide +kernel
theorem dX2_resolveItems_37 : decode cX2_resolveItems 37 = .ok (.getfield 36, 3) := by decide +kernel
theorem dX2_resolveItems_40 : decode cX2_resolveItems 40 = .ok (.iload_n 1, 1) := by decide +kernel
theorem dX2_resolveItems_41 : decode cX2_resolveItems 41 = .ok (.iaload, 1) := by decide +kernel
theorem dX2_resolveItems_42 : decode cX2_resolveItems 42 = .ok (.iconst (-1), 1) := by decide +kernel
theorem dX2_resolveItems_43 : decode cX2_resolveItems 43 = .ok (.if_icmp .ne 10, 3) := by decide +kernel
theorem dX2_resolveItems_46 : decode cX2_resolveItems 46 = .ok (.aload_n 0, 1) := by decide +kernel
theorem dX2_resolveItems_47 : decode cX2_resolveItems 47 = .ok (.getfield 30, 3) := by decide +kernel
theorem dX2_resolveItems_50 : decode cX2_resolveItems 50 = .ok (.iload_n 1, 1) := by decide +kernel
theorem dX2_resolveItems_51 : decode cX2_resolveItems 51 = .ok (.iaload, 1) := by decide +kernel
theorem dX2_resolveItems_52 : decode cX2_resolveItems 52 = .ok (.ireturn, 1) := by decide +kernel
theorem dX2_resolveItems_53 : decode cX2_resolveItems 53 = .ok (.iinc 1 1, 3) := by decide +kernel
theorem dX2_resolveItems_56 : decode cX2_resolveItems 56 = .ok (.goto (-54), 3) := by decide +kernel
theorem dX2_resolveItems_59 : decode cX2_resolveItems 59 = .ok (.iconst (-1), 1) := by decide +kernel
theorem dX2_resolveItems_60 : decode cX2_resolveItems 60 = .ok (.ireturn, 1) := by decide +kernel
theorem dX2_saysItems_0 : decode cX2_saysItems 0 = .ok (.aload_n 0, 1) := by decide +kernel
theorem dX2_saysItems_1 : decode cX2_saysItems 1 = .ok (.getfield 24, 3) := by decide +kernel
theorem dX2_saysItems_4 : decode cX2_saysItems 4 = .ok (.iload_n 1, 1) := by decide +kernel
theorem dX2_saysItems_5 : decode cX2_saysItems 5 = .ok (.iaload, 1) := by decide +kernel
theorem dX2_saysItems_6 : decode cX2_saysItems 6 = .ok (.istore_n 3, 1) := by decide +kernel
theorem dX2_saysItems_7 : decode cX2_saysItems 7 = .ok (.aload_n 0, 1) := by decide +kernel
theorem dX2_saysItems_8 : decode cX2_saysItems 8 = .ok (.getfield 27, 3) := by decide +kernel
theorem dX2_saysItems_11 : decode cX2_saysItems 11 = .ok (.iload_n 1, 1) := by decide +kernel
theorem dX2_saysItems_12 : decode cX2_saysItems 12 = .ok (.iaload, 1) := by decide +kernel
theorem dX2_saysItems_13 : decode cX2_saysItems 13 = .ok (.iload_n 3, 1) := by decide +kernel
theorem dX2_saysItems_14 : decode cX2_saysItems 14 = .ok (.isub, 1) := by decide +kernel
theorem dX2_saysItems_15 : decode cX2_saysItems 15 = .ok (.istore 4, 2) := by decide +kernel
theorem dX2_saysItems_17 : decode cX2_saysItems 17 = .ok (.iconst 0, 1) := by decide +kernel
theorem dX2_saysItems_18 : decode cX2_saysItems 18 = .ok (.istore 5, 2) := by decide +kernel
theorem dX2_saysItems_20 : decode cX2_saysItems 20 = .ok (.iload 5, 2) := by decide +kernel
theorem dX2_saysItems_22 : decode cX2_saysItems 22 = .ok (.iload 4, 2) := by decide +kernel
theorem dX2_saysItems_24 : decode cX2_saysItems 24 = .ok (.if_icmp .gt 17, 3) := by decide +kernel
theorem dX2_saysItems_27 : decode cX2_saysItems 27 = .ok (.aload_n 0, 1) := by decide +kernel
theorem dX2_saysItems_28 : decode cX2_saysItems 28 = .ok (.getfield 42, 3) := by decide +kernel
theorem dX2_saysItems_31 : decode cX2_saysItems 31 = .ok (.iload 5, 2) := by decide +kernel
theorem dX2_saysItems_33 : decode cX2_saysItems 33 = .ok (.iconst 0, 1) := by decide +kernel
theorem dX2_saysItems_34 : decode cX2_saysItems 34 = .ok (.iastore, 1) := by decide +kernel
theorem dX2_saysItems_35 : decode cX2_saysItems 35 = .ok (.iinc 5 1, 3) := by decide +kernel
theorem dX2_saysItems_38 : decode cX2_saysItems 38 = .ok (.goto (-18), 3) := by decide +kernel
theorem dX2_saysItems_41 : decode cX2_saysItems 41 = .ok (.aload_n 0, 1) := by decide +kernel
theorem dX2_saysItems_42 : decode cX2_saysItems 42 = .ok (.getfield 42, 3) := by decide +kernel
theorem dX2_saysItems_45 : decode cX2_saysItems 45 = .ok (.iconst 0, 1) := by decide +kernel
theorem dX2_saysItems_46 : decode cX2_saysItems 46 = .ok (.iconst 1, 1) := by decide +kernel
theorem dX2_saysItems_47 : decode cX2_saysItems 47 = .ok (.iastore, 1) := by decide +kernel
theorem dX2_saysItems_48 : decode cX2_saysItems 48 = .ok (.aload_n 0, 1) := by decide +kernel
theorem dX2_saysItems_49 : decode cX2_saysItems 49 = .ok (.iload_n 3, 1) := by decide +kernel
theorem dX2_saysItems_50 : decode cX2_saysItems 50 = .ok (.iload 4, 2) := by decide +kernel
theorem dX2_saysItems_52 : decode cX2_saysItems 52 = .ok (.invokevirtual 120, 3) := by decide +kernel
theorem dX2_saysItems_55 : decode cX2_saysItems 55 = .ok (.iconst 0, 1) := by decide +kernel
theorem dX2_saysItems_56 : decode cX2_saysItems 56 = .ok (.istore 5, 2) := by decide +kernel
theorem dX2_saysItems_58 : decode cX2_saysItems 58 = .ok (.iload 5, 2) := by decide +kernel
theorem dX2_saysItems_60 : decode cX2_saysItems 60 = .ok (.aload_n 2, 1) := by decide +kernel
theorem dX2_saysItems_61 : decode cX2_saysItems 61 = .ok (.getfield 106, 3) := by decide +kernel
theorem dX2_saysItems_64 : decode cX2_saysItems 64 = .ok (.if_icmp .ge 30, 3) := by decide +kernel
theorem dX2_saysItems_67 : decode cX2_saysItems 67 = .ok (.aload_n 0, 1) := by decide +kernel
theorem dX2_saysItems_68 : decode cX2_saysItems 68 = .ok (.iload_n 3, 1) := by decide +kernel
theorem dX2_saysItems_69 : decode cX2_saysItems 69 = .ok (.iload 4, 2) := by decide +kernel
theorem dX2_saysItems_71 : decode cX2_saysItems 71 = .ok (.aload_n 2, 1) := by decide +kernel
theorem dX2_saysItems_72 : decode cX2_saysItems 72 = .ok (.getfield 118, 3) := by decide +kernel
theorem dX2_saysItems_75 : decode cX2_saysItems 75 = .ok (.iload 5, 2) := by decide +kernel
theorem dX2_saysItems_77 : decode cX2_saysItems 77 = .ok (.iaload, 1) := by decide +kernel
theorem dX2_saysItems_78 : decode cX2_saysItems 78 = .ok (.invokevirtual 124, 3) := by decide +kernel
theorem dX2_saysItems_81 : decode cX2_saysItems 81 = .ok (.aload_n 0, 1) := by decide +kernel
theorem dX2_saysItems_82 : decode cX2_saysItems 82 = .ok (.iload_n 3, 1) := by decide +kernel
theorem dX2_saysItems_83 : decode cX2_saysItems 83 = .ok (.iload 4, 2) := by decide +kernel
theorem dX2_saysItems_85 : decode cX2_saysItems 85 = .ok (.invokevirtual 120, 3) := by decide +kernel
theorem dX2_saysItems_88 : decode cX2_saysItems 88 = .ok (.iinc 5 1, 3) := by decide +kernel
theorem dX2_saysItems_91 : decode cX2_saysItems 91 = .ok (.goto (-33), 3) := by decide +kernel
theorem dX2_saysItems_94 : decode cX2_saysItems 94 = .ok (.aload_n 0, 1) := by decide +kernel
theorem dX2_saysItems_95 : decode cX2_saysItems 95 = .ok (.getfield 42, 3) := by decide +kernel
theorem dX2_saysItems_98 : decode cX2_saysItems 98 = .ok (.iload 4, 2) := by decide +kernel
theorem dX2_saysItems_100 : decode cX2_saysItems 100 = .ok (.iaload, 1) := by decide +kernel
theorem dX2_saysItems_101 : decode cX2_saysItems 101 = .ok (.iconst 1, 1) := by decide +kernel
theorem dX2_saysItems_102 : decode cX2_saysItems 102 = .ok (.if_icmp .ne 7, 3) := by decide +kernel
theorem dX2_saysItems_105 : decode cX2_saysItems 105 = .ok (.iconst 1, 1) := by decide +kernel
theorem dX2_saysItems_106 : decode cX2_saysItems 106 = .ok (.goto 4, 3) := by decide +kernel
theorem dX2_saysItems_109 : decode cX2_saysItems 109 = .ok (.iconst 0, 1) := by decide +kernel
theorem dX2_saysItems_110 : decode cX2_saysItems 110 = .ok (.ireturn, 1) := by decide +kernel
theorem dX2_step_0 : decode cX2_step 0 = .ok (.iload_n 2, 1) := by decide +kernel
theorem dX2_step_1 : decode cX2_step 1 = .ok (.istore 4, 2) := by decide +kernel
theorem dX2_step_3 : decode cX2_step 3 = .ok (.iload 4, 2) := by decide +kernel
theorem dX2_step_5 : decode cX2_step 5 = .ok (.ifCond .lt 138, 3) := by decide +kernel
theorem dX2_step_8 : decode cX2_step 8 = .ok (.iload 4, 2) := by decide +kernel
theorem dX2_step_10 : decode cX2_step 10 = .ok (.iload_n 2, 1) := by decide +kernel
theorem dX2_step_11 : decode cX2_step 11 = .ok (.if_icmp .ge 45, 3) := by decide +kernel
theorem dX2_step_14 : decode cX2_step 14 = .ok (.aload_n 0, 1) := by decide +kernel
theorem dX2_step_15 : decode cX2_step 15 = .ok (.getfield 42, 3) := by decide +kernel
theorem dX2_step_18 : decode cX2_step 18 = .ok (.iload 4, 2) := by decide +kernel
theorem dX2_step_20 : decode cX2_step 20 = .ok (.iaload, 1) := by decide +kernel
theorem dX2_step_21 : decode cX2_step 21 = .ok (.iconst 1, 1) := by decide +kernel
theorem dX2_step_22 : decode cX2_step 22 = .ok (.if_icmp .ne 34, 3) := by decide +kernel
theorem dX2_step_25 : decode cX2_step 25 = .ok (.aload_n 0, 1) := by decide +kernel
theorem dX2_step_26 : decode cX2_step 26 = .ok (.getfield 39, 3) := by decide +kernel
theorem dX2_step_29 : decode cX2_step 29 = .ok (.iload_n 1, 1) := by decide +kernel
theorem dX2_step_30 : decode cX2_step 30 = .ok (.iload 4, 2) := by decide +kernel
theorem dX2_step_32 : decode cX2_step 32 = .ok (.iadd, 1) := by decide +kernel
theorem dX2_step_33 : decode cX2_step 33 = .ok (.iaload, 1) := by decide +kernel
theorem dX2_step_34 : decode cX2_step 34 = .ok (.bipush 42, 2) := by decide +kernel
theorem dX2_step_36 : decode cX2_step 36 = .ok (.if_icmp .ne 20, 3) := by decide +kernel
theorem dX2_step_39 : decode cX2_step 39 = .ok (.aload_n 0, 1) := by decide +kernel
theorem dX2_step_40 : decode cX2_step 40 = .ok (.getfield 36, 3) := by decide +kernel
theorem dX2_step_43 : decode cX2_step 43 = .ok (.iload_n 1, 1) := by decide +kernel
theorem dX2_step_44 : decode cX2_step 44 = .ok (.iload 4, 2) := by decide +kernel
theorem dX2_step_46 : decode cX2_step 46 = .ok (.iadd, 1) := by decide +kernel
theorem dX2_step_47 : decode cX2_step 47 = .ok (.iaload, 1) := by decide +kernel
theorem dX2_step_48 : decode cX2_step 48 = .ok (.iload_n 3, 1) := by decide +kernel
theorem dX2_step_49 : decode cX2_step 49 = .ok (.if_icmp .ne 7, 3) := by decide +kernel
theorem dX2_step_52 : decode cX2_step 52 = .ok (.iconst 1, 1) := by decide +kernel
theorem dX2_step_53 : decode cX2_step 53 = .ok (.goto 4, 3) := by decide +kernel
theorem dX2_step_56 : decode cX2_step 56 = .ok (.iconst 0, 1) := by decide +kernel
theorem dX2_step_57 : decode cX2_step 57 = .ok (.istore 5, 2) := by decide +kernel
theorem dX2_step_59 : decode cX2_step 59 = .ok (.iload 4, 2) := by decide +kernel
theorem dX2_step_61 : decode cX2_step 61 = .ok (.ifCond .le 51, 3) := by decide +kernel
theorem dX2_step_64 : decode cX2_step 64 = .ok (.aload_n 0, 1) := by decide +kernel
theorem dX2_step_65 : decode cX2_step 65 = .ok (.getfield 42, 3) := by decide +kernel
theorem dX2_step_68 : decode cX2_step 68 = .ok (.iload 4, 2) := by decide +kernel
theorem dX2_step_70 : decode cX2_step 70 = .ok (.iconst 1, 1) := by decide +kernel
theorem dX2_step_71 : decode cX2_step 71 = .ok (.isub, 1) := by decide +kernel
theorem dX2_step_72 : decode cX2_step 72 = .ok (.iaload, 1) := by decide +kernel
theorem dX2_step_73 : decode cX2_step 73 = .ok (.iconst 1, 1) := by decide +kernel
theorem dX2_step_74 : decode cX2_step 74 = .ok (.if_icmp .ne 38, 3) := by decide +kernel
theorem dX2_step_77 : decode cX2_step 77 = .ok (.aload_n 0, 1) := by decide +kernel
theorem dX2_step_78 : decode cX2_step 78 = .ok (.getfield 39, 3) := by decide +kernel
theorem dX2_step_81 : decode cX2_step 81 = .ok (.iload_n 1, 1) := by decide +kernel
theorem dX2_step_82 : decode cX2_step 82 = .ok (.iload 4, 2) := by decide +kernel
theorem dX2_step_84 : decode cX2_step 84 = .ok (.iadd, 1) := by decide +kernel
theorem dX2_step_85 : decode cX2_step 85 = .ok (.iconst 1, 1) := by decide +kernel
theorem dX2_step_86 : decode cX2_step 86 = .ok (.isub, 1) := by decide +kernel
theorem dX2_step_87 : decode cX2_step 87 = .ok (.iaload, 1) := by decide +kernel
theorem dX2_step_88 : decode cX2_step 88 = .ok (.bipush 42, 2) := by decide +kernel
theorem dX2_step_90 : decode cX2_step 90 = .ok (.if_icmp .eq 22, 3) := by decide +kernel
theorem dX2_step_93 : decode cX2_step 93 = .ok (.aload_n 0, 1) := by decide +kernel
theorem dX2_step_94 : decode cX2_step 94 = .ok (.getfield 36, 3) := by decide +kernel
theorem dX2_step_97 : decode cX2_step 97 = .ok (.iload_n 1, 1) := by decide +kernel
theorem dX2_step_98 : decode cX2_step 98 = .ok (.iload 4, 2) := by decide +kernel
theorem dX2_step_100 : decode cX2_step 100 = .ok (.iadd, 1) := by decide +kernel
theorem dX2_step_101 : decode cX2_step 101 = .ok (.iconst 1, 1) := by decide +kernel
theorem dX2_step_102 : decode cX2_step 102 = .ok (.isub, 1) := by decide +kernel
theorem dX2_step_103 : decode cX2_step 103 = .ok (.iaload, 1) := by decide +kernel
theorem dX2_step_104 : decode cX2_step 104 = .ok (.iload_n 3, 1) := by decide +kernel
theorem dX2_step_105 : decode cX2_step 105 = .ok (.if_icmp .ne 7, 3) := by decide +kernel
theorem dX2_step_108 : decode cX2_step 108 = .ok (.iconst 1, 1) := by decide +kernel
theorem dX2_step_109 : decode cX2_step 109 = .ok (.goto 4, 3) := by decide +kernel
theorem dX2_step_112 : decode cX2_step 112 = .ok (.iconst 0, 1) := by decide +kernel
theorem dX2_step_113 : decode cX2_step 113 = .ok (.istore 6, 2) := by decide +kernel
theorem dX2_step_115 : decode cX2_step 115 = .ok (.aload_n 0, 1) := by decide +kernel
theorem dX2_step_116 : decode cX2_step 116 = .ok (.getfield 42, 3) := by decide +kernel
theorem dX2_step_119 : decode cX2_step 119 = .ok (.iload 4, 2) := by decide +kernel
theorem dX2_step_121 : decode cX2_step 121 = .ok (.iload 5, 2) := by decide +kernel
theorem dX2_step_123 : decode cX2_step 123 = .ok (.ifCond .ne 8, 3) := by decide +kernel
theorem dX2_step_126 : decode cX2_step 126 = .ok (.iload 6, 2) := by decide +kernel
theorem dX2_step_128 : decode cX2_step 128 = .ok (.ifCond .eq 7, 3) := by decide +kernel
theorem dX2_step_131 : decode cX2_step 131 = .ok (.iconst 1, 1) := by decide +kernel
theorem dX2_step_132 : decode cX2_step 132 = .ok (.goto 4, 3) := by decide +kernel
theorem dX2_step_135 : decode cX2_step 135 = .ok (.iconst 0, 1) := by decide +kernel
theorem dX2_step_136 : decode cX2_step 136 = .ok (.iastore, 1) := by decide +kernel
theorem dX2_step_137 : decode cX2_step 137 = .ok (.iinc 4 (-1), 3) := by decide +kernel
theorem dX2_step_140 : decode cX2_step 140 = .ok (.goto (-137), 3) := by decide +kernel
theorem dX2_step_143 : decode cX2_step 143 = .ok (.return_, 1) := by decide +kernel
theorem dX3_add_0 : decode cX3_add 0 = .ok (.aload_n 0, 1) := by decide +kernel
theorem dX3_add_1 : decode cX3_add 1 = .ok (.getfield 19, 3) := by decide +kernel
theorem dX3_add_4 : decode cX3_add 4 = .ok (.bipush 40, 2) := by decide +kernel
theorem dX3_add_6 : decode cX3_add 6 = .ok (.if_icmp .ge 33, 3) := by decide +kernel
theorem dX3_add_9 : decode cX3_add 9 = .ok (.aload_n 0, 1) := by decide +kernel
theorem dX3_add_10 : decode cX3_add 10 = .ok (.getfield 9, 3) := by decide +kernel
theorem dX3_add_13 : decode cX3_add 13 = .ok (.aload_n 0, 1) := by decide +kernel
theorem dX3_add_14 : decode cX3_add 14 = .ok (.getfield 19, 3) := by decide +kernel
theorem dX3_add_17 : decode cX3_add 17 = .ok (.iload_n 1, 1) := by decide +kernel
theorem dX3_add_18 : decode cX3_add 18 = .ok (.iastore, 1) := by decide +kernel
theorem dX3_add_19 : decode cX3_add 19 = .ok (.aload_n 0, 1) := by decide +kernel
theorem dX3_add_20 : decode cX3_add 20 = .ok (.getfield 15, 3) := by decide +kernel
theorem dX3_add_23 : decode cX3_add 23 = .ok (.aload_n 0, 1) := by decide +kernel
theorem dX3_add_24 : decode cX3_add 24 = .ok (.getfield 19, 3) := by decide +kernel
theorem dX3_add_27 : decode cX3_add 27 = .ok (.lload_n 2, 1) := by decide +kernel
theorem dX3_add_28 : decode cX3_add 28 = .ok (.lastore, 1) := by decide +kernel
theorem dX3_add_29 : decode cX3_add 29 = .ok (.aload_n 0, 1) := by decide +kernel
theorem dX3_add_30 : decode cX3_add 30 = .ok (.dup, 1) := by decide +kernel
theorem dX3_add_31 : decode cX3_add 31 = .ok (.getfield 19, 3) := by decide +kernel
theorem dX3_add_34 : decode cX3_add 34 = .ok (.iconst 1, 1) := by decide +kernel
theorem dX3_add_35 : decode cX3_add 35 = .ok (.iadd, 1) := by decide +kernel
theorem dX3_add_36 : decode cX3_add 36 = .ok (.putfield 19, 3) := by decide +kernel
theorem dX3_add_39 : decode cX3_add 39 = .ok (.return_, 1) := by decide +kernel
theorem dX3_clear_0 : decode cX3_clear 0 = .ok (.aload_n 0, 1) := by decide +kernel
theorem dX3_clear_1 : decode cX3_clear 1 = .ok (.iconst 0, 1) := by decide +kernel
theorem dX3_clear_2 : decode cX3_clear 2 = .ok (.putfield 19, 3) := by decide +kernel
theorem dX3_clear_5 : decode cX3_clear 5 = .ok (.return_, 1) := by decide +kernel
theorem dX3_hasLikes_0 : decode cX3_hasLikes 0 = .ok (.iconst 0, 1) := by decide +kernel
theorem dX3_hasLikes_1 : decode cX3_hasLikes 1 = .ok (.istore_n 1, 1) := by decide +kernel
theorem dX3_hasLikes_2 : decode cX3_hasLikes 2 = .ok (.iload_n 1, 1) := by decide +kernel
theorem dX3_hasLikes_3 : decode cX3_hasLikes 3 = .ok (.aload_n 0, 1) := by decide +kernel
theorem dX3_hasLikes_4 : decode cX3_hasLikes 4 = .ok (.getfield 19, 3) := by decide +kernel
theorem dX3_hasLikes_7 : decode cX3_hasLikes 7 = .ok (.if_icmp .ge 55, 3) := by decide +kernel
theorem dX3_hasLikes_10 : decode cX3_hasLikes 10 = .ok (.iconst 0, 1) := by decide +kernel
theorem dX3_hasLikes_11 : decode cX3_hasLikes 11 = .ok (.istore_n 2, 1) := by decide +kernel
theorem dX3_hasLikes_12 : decode cX3_hasLikes 12 = .ok (.iload_n 2, 1) := by decide +kernel
theorem dX3_hasLikes_13 : decode cX3_hasLikes 13 = .ok (.iload_n 1, 1) := by decide +kernel
theorem dX3_hasLikes_14 : decode cX3_hasLikes 14 = .ok (.if_icmp .ge 42, 3) := by decide +kernel
theorem dX3_hasLikes_17 : decode cX3_hasLikes 17 = .ok (.aload_n 0, 1) := by decide +kernel
theorem dX3_hasLikes_18 : decode cX3_hasLikes 18 = .ok (.getfield 9, 3) := by decide +kernel
theorem dX3_hasLikes_21 : decode cX3_hasLikes 21 = .ok (.iload_n 1, 1) := by decide +kernel
theorem dX3_hasLikes_22 : decode cX3_hasLikes 22 = .ok (.iaload, 1) := by decide +kernel
theorem dX3_hasLikes_23 : decode cX3_hasLikes 23 = .ok (.aload_n 0, 1) := by decide +kernel
theorem dX3_hasLikes_24 : decode cX3_hasLikes 24 = .ok (.getfield 9, 3) := by decide +kernel
theorem dX3_hasLikes_27 : decode cX3_hasLikes 27 = .ok (.iload_n 2, 1) := by decide +kernel
theorem dX3_hasLikes_28 : decode cX3_hasLikes 28 = .ok (.iaload, 1) := by decide +kernel
theorem dX3_hasLikes_29 : decode cX3_hasLikes 29 = .ok (.if_icmp .ne 21, 3) := by decide +kernel
theorem dX3_hasLikes_32 : decode cX3_hasLikes 32 = .ok (.aload_n 0, 1) := by decide +kernel
theorem dX3_hasLikes_33 : decode cX3_hasLikes 33 = .ok (.getfield 15, 3) := by decide +kernel
theorem dX3_hasLikes_36 : decode cX3_hasLikes 36 = .ok (.iload_n 1, 1) := by decide +kernel
theorem dX3_hasLikes_37 : decode cX3_hasLikes 37 = .ok (.laload, 1) := by decide +kernel
theorem dX3_hasLikes_38 : decode cX3_hasLikes 38 = .ok (.aload_n 0, 1) := by decide +kernel
theorem dX3_hasLikes_39 : decode cX3_hasLikes 39 = .ok (.getfield 15, 3) := by decide +kernel
theorem dX3_hasLikes_42 : decode cX3_hasLikes 42 = .ok (.iload_n 2, 1) := by decide +kernel
theorem dX3_hasLikes_43 : decode cX3_hasLikes 43 = .ok (.laload, 1) := by decide +kernel
theorem dX3_hasLikes_44 : decode cX3_hasLikes 44 = .ok (.lcmp, 1) := by decide +kernel
theorem dX3_hasLikes_45 : decode cX3_hasLikes 45 = .ok (.ifCond .ne 5, 3) := by decide +kernel
theorem dX3_hasLikes_48 : decode cX3_hasLikes 48 = .ok (.iconst 1, 1) := by decide +kernel
theorem dX3_hasLikes_49 : decode cX3_hasLikes 49 = .ok (.ireturn, 1) := by decide +kernel
theorem dX3_hasLikes_50 : decode cX3_hasLikes 50 = .ok (.iinc 2 1, 3) := by decide +kernel
theorem dX3_hasLikes_53 : decode cX3_hasLikes 53 = .ok (.goto (-41), 3) := by decide +kernel
theorem dX3_hasLikes_56 : decode cX3_hasLikes 56 = .ok (.iinc 1 1, 3) := by decide +kernel
theorem dX3_hasLikes_59 : decode cX3_hasLikes 59 = .ok (.goto (-57), 3) := by decide +kernel
theorem dX3_hasLikes_62 : decode cX3_hasLikes 62 = .ok (.iconst 0, 1) := by decide +kernel
theorem dX3_hasLikes_63 : decode cX3_hasLikes 63 = .ok (.ireturn, 1) := by decide +kernel
theorem dX4_agree_0 : decode cX4_agree 0 = .ok (.iload_n 1, 1) := by decide +kernel
theorem dX4_agree_1 : decode cX4_agree 1 = .ok (.iconst 1, 1) := by decide +kernel
theorem dX4_agree_2 : decode cX4_agree 2 = .ok (.if_icmp .ne 42, 3) := by decide +kernel
theorem dX4_agree_5 : decode cX4_agree 5 = .ok (.aload_n 0, 1) := by decide +kernel
theorem dX4_agree_6 : decode cX4_agree 6 = .ok (.getfield 12, 3) := by decide +kernel
theorem dX4_agree_9 : decode cX4_agree 9 = .ok (.iload_n 2, 1) := by decide +kernel
theorem dX4_agree_10 : decode cX4_agree 10 = .ok (.aload_n 0, 1) := by decide +kernel
theorem dX4_agree_11 : decode cX4_agree 11 = .ok (.getfield 18, 3) := by decide +kernel
theorem dX4_agree_14 : decode cX4_agree 14 = .ok (.iload_n 3, 1) := by decide +kernel
theorem dX4_agree_15 : decode cX4_agree 15 = .ok (.invokevirtual 104, 3) := by decide +kernel
theorem dX4_agree_18 : decode cX4_agree 18 = .ok (.ifCond .eq 24, 3) := by decide +kernel
theorem dX4_agree_21 : decode cX4_agree 21 = .ok (.aload_n 0, 1) := by decide +kernel
theorem dX4_agree_22 : decode cX4_agree 22 = .ok (.iload_n 2, 1) := by decide +kernel
theorem dX4_agree_23 : decode cX4_agree 23 = .ok (.iload_n 3, 1) := by decide +kernel
theorem dX4_agree_24 : decode cX4_agree 24 = .ok (.aload_n 0, 1) := by decide +kernel
theorem dX4_agree_25 : decode cX4_agree 25 = .ok (.getfield 12, 3) := by decide +kernel
theorem dX4_agree_28 : decode cX4_agree 28 = .ok (.iload_n 2, 1) := by decide +kernel
theorem dX4_agree_29 : decode cX4_agree 29 = .ok (.invokevirtual 98, 3) := by decide +kernel
theorem dX4_agree_32 : decode cX4_agree 32 = .ok (.invokevirtual 108, 3) := by decide +kernel
theorem dX4_agree_35 : decode cX4_agree 35 = .ok (.ifCond .eq 7, 3) := by decide +kernel
theorem dX4_agree_38 : decode cX4_agree 38 = .ok (.iconst 1, 1) := by decide +kernel
theorem dX4_agree_39 : decode cX4_agree 39 = .ok (.goto 4, 3) := by decide +kernel
theorem dX4_agree_42 : decode cX4_agree 42 = .ok (.iconst 0, 1) := by decide +kernel
theorem dX4_agree_43 : decode cX4_agree 43 = .ok (.ireturn, 1) := by decide +kernel
theorem dX4_agree_44 : decode cX4_agree 44 = .ok (.iload_n 1, 1) := by decide +kernel
theorem dX4_agree_45 : decode cX4_agree 45 = .ok (.iconst 4, 1) := by decide +kernel
theorem dX4_agree_46 : decode cX4_agree 46 = .ok (.if_icmp .ge 14, 3) := by decide +kernel
theorem dX4_agree_49 : decode cX4_agree 49 = .ok (.aload_n 0, 1) := by decide +kernel
theorem dX4_agree_50 : decode cX4_agree 50 = .ok (.iload_n 2, 1) := by decide +kernel
theorem dX4_agree_51 : decode cX4_agree 51 = .ok (.iload_n 3, 1) := by decide +kernel
theorem dX4_agree_52 : decode cX4_agree 52 = .ok (.invokevirtual 72, 3) := by decide +kernel
theorem dX4_agree_55 : decode cX4_agree 55 = .ok (.ifCond .ne 5, 3) := by decide +kernel
theorem dX4_agree_58 : decode cX4_agree 58 = .ok (.iconst 0, 1) := by decide +kernel
theorem dX4_agree_59 : decode cX4_agree 59 = .ok (.ireturn, 1) := by decide +kernel
theorem dX4_agree_60 : decode cX4_agree 60 = .ok (.iload_n 1, 1) := by decide +kernel
theorem dX4_agree_61 : decode cX4_agree 61 = .ok (.iconst 3, 1) := by decide +kernel
theorem dX4_agree_62 : decode cX4_agree 62 = .ok (.if_icmp .eq 25, 3) := by decide +kernel
theorem dX4_agree_65 : decode cX4_agree 65 = .ok (.aload_n 0, 1) := by decide +kernel
theorem dX4_agree_66 : decode cX4_agree 66 = .ok (.getfield 12, 3) := by decide +kernel
theorem dX4_agree_69 : decode cX4_agree 69 = .ok (.getfield 68, 3) := by decide +kernel
theorem dX4_agree_72 : decode cX4_agree 72 = .ok (.iload_n 2, 1) := by decide +kernel
theorem dX4_agree_73 : decode cX4_agree 73 = .ok (.laload, 1) := by decide +kernel
theorem dX4_agree_74 : decode cX4_agree 74 = .ok (.aload_n 0, 1) := by decide +kernel
theorem dX4_agree_75 : decode cX4_agree 75 = .ok (.getfield 18, 3) := by decide +kernel
theorem dX4_agree_78 : decode cX4_agree 78 = .ok (.getfield 68, 3) := by decide +kernel
theorem dX4_agree_81 : decode cX4_agree 81 = .ok (.iload_n 3, 1) := by decide +kernel
theorem dX4_agree_82 : decode cX4_agree 82 = .ok (.laload, 1) := by decide +kernel
theorem dX4_agree_83 : decode cX4_agree 83 = .ok (.lcmp, 1) := by decide +kernel
theorem dX4_agree_84 : decode cX4_agree 84 = .ok (.ifCond .ne 7, 3) := by decide +kernel
theorem dX4_agree_87 : decode cX4_agree 87 = .ok (.iconst 1, 1) := by decide +kernel
theorem dX4_agree_88 : decode cX4_agree 88 = .ok (.goto 4, 3) := by decide +kernel
theorem dX4_agree_91 : decode cX4_agree 91 = .ok (.iconst 0, 1) := by decide +kernel
theorem dX4_agree_92 : decode cX4_agree 92 = .ok (.ireturn, 1) := by decide +kernel
theorem dX4_areAllFree_0 : decode cX4_areAllFree 0 = .ok (.iconst 0, 1) := by decide +kernel
theorem dX4_areAllFree_1 : decode cX4_areAllFree 1 = .ok (.istore 4, 2) := by decide +kernel
theorem dX4_areAllFree_3 : decode cX4_areAllFree 3 = .ok (.iload 4, 2) := by decide +kernel
theorem dX4_areAllFree_5 : decode cX4_areAllFree 5 = .ok (.iload_n 3, 1) := by decide +kernel
theorem dX4_areAllFree_6 : decode cX4_areAllFree 6 = .ok (.if_icmp .ge 37, 3) := by decide +kernel
theorem dX4_areAllFree_9 : decode cX4_areAllFree 9 = .ok (.aload_n 0, 1) := by decide +kernel
theorem dX4_areAllFree_10 : decode cX4_areAllFree 10 = .ok (.getfield 21, 3) := by decide +kernel
theorem dX4_areAllFree_13 : decode cX4_areAllFree 13 = .ok (.iload_n 1, 1) := by decide +kernel
theorem dX4_areAllFree_14 : decode cX4_areAllFree 14 = .ok (.iload 4, 2) := by decide +kernel
theorem dX4_areAllFree_16 : decode cX4_areAllFree 16 = .ok (.iadd, 1) := by decide +kernel
theorem dX4_areAllFree_17 : decode cX4_areAllFree 17 = .ok (.iaload, 1) := by decide +kernel
theorem dX4_areAllFree_18 : decode cX4_areAllFree 18 = .ok (.iconst (-1), 1) := by decide +kernel
theorem dX4_areAllFree_19 : decode cX4_areAllFree 19 = .ok (.if_icmp .ne 16, 3) := by decide +kernel
theorem dX4_areAllFree_22 : decode cX4_areAllFree 22 = .ok (.aload_n 0, 1) := by decide +kernel
theorem dX4_areAllFree_23 : decode cX4_areAllFree 23 = .ok (.getfield 25, 3) := by decide +kernel
theorem dX4_areAllFree_26 : decode cX4_areAllFree 26 = .ok (.iload_n 2, 1) := by decide +kernel
theorem dX4_areAllFree_27 : decode cX4_areAllFree 27 = .ok (.iload 4, 2) := by decide +kernel
theorem dX4_areAllFree_29 : decode cX4_areAllFree 29 = .ok (.iadd, 1) := by decide +kernel
theorem dX4_areAllFree_30 : decode cX4_areAllFree 30 = .ok (.iaload, 1) := by decide +kernel
theorem dX4_areAllFree_31 : decode cX4_areAllFree 31 = .ok (.iconst (-1), 1) := by decide +kernel
theorem dX4_areAllFree_32 : decode cX4_areAllFree 32 = .ok (.if_icmp .eq 5, 3) := by decide +kernel
theorem dX4_areAllFree_35 : decode cX4_areAllFree 35 = .ok (.iconst 0, 1) := by decide +kernel
theorem dX4_areAllFree_36 : decode cX4_areAllFree 36 = .ok (.ireturn, 1) := by decide +kernel
theorem dX4_areAllFree_37 : decode cX4_areAllFree 37 = .ok (.iinc 4 1, 3) := by decide +kernel
theorem dX4_areAllFree_40 : decode cX4_areAllFree 40 = .ok (.goto (-37), 3) := by decide +kernel
theorem dX4_areAllFree_43 : decode cX4_areAllFree 43 = .ok (.iconst 1, 1) := by decide +kernel
theorem dX4_areAllFree_44 : decode cX4_areAllFree 44 = .ok (.ireturn, 1) := by decide +kernel
theorem dX4_bound_0 : decode cX4_bound 0 = .ok (.iconst 0, 1) := by decide +kernel
theorem dX4_bound_1 : decode cX4_bound 1 = .ok (.istore_n 1, 1) := by decide +kernel
theorem dX4_bound_2 : decode cX4_bound 2 = .ok (.iconst 0, 1) := by decide +kernel
theorem dX4_bound_3 : decode cX4_bound 3 = .ok (.istore_n 2, 1) := by decide +kernel
theorem dX4_bound_4 : decode cX4_bound 4 = .ok (.iload_n 2, 1) := by decide +kernel
theorem dX4_bound_5 : decode cX4_bound 5 = .ok (.bipush 10, 2) := by decide +kernel
theorem dX4_bound_7 : decode cX4_bound 7 = .ok (.if_icmp .ge 104, 3) := by decide +kernel
theorem dX4_bound_10 : decode cX4_bound 10 = .ok (.iconst 0, 1) := by decide +kernel
theorem dX4_bound_11 : decode cX4_bound 11 = .ok (.istore_n 3, 1) := by decide +kernel
theorem dX4_bound_12 : decode cX4_bound 12 = .ok (.iconst 0, 1) := by decide +kernel
theorem dX4_bound_13 : decode cX4_bound 13 = .ok (.istore 4, 2) := by decide +kernel
theorem dX4_bound_15 : decode cX4_bound 15 = .ok (.iload 4, 2) := by decide +kernel
theorem dX4_bound_17 : decode cX4_bound 17 = .ok (.aload_n 0, 1) := by decide +kernel
theorem dX4_bound_18 : decode cX4_bound 18 = .ok (.getfield 12, 3) := by decide +kernel
theorem dX4_bound_21 : decode cX4_bound 21 = .ok (.getfield 38, 3) := by decide +kernel
theorem dX4_bound_24 : decode cX4_bound 24 = .ok (.if_icmp .ge 31, 3) := by decide +kernel
theorem dX4_bound_27 : decode cX4_bound 27 = .ok (.iload_n 3, 1) := by decide +kernel
theorem dX4_bound_28 : decode cX4_bound 28 = .ok (.aload_n 0, 1) := by decide +kernel
theorem dX4_bound_29 : decode cX4_bound 29 = .ok (.getfield 12, 3) := by decide +kernel
theorem dX4_bound_32 : decode cX4_bound 32 = .ok (.getfield 91, 3) := by decide +kernel
theorem dX4_bound_35 : decode cX4_bound 35 = .ok (.iload 4, 2) := by decide +kernel
theorem dX4_bound_37 : decode cX4_bound 37 = .ok (.iaload, 1) := by decide +kernel
theorem dX4_bound_38 : decode cX4_bound 38 = .ok (.iload_n 2, 1) := by decide +kernel
theorem dX4_bound_39 : decode cX4_bound 39 = .ok (.if_icmp .ne 7, 3) := by decide +kernel
theorem dX4_bound_42 : decode cX4_bound 42 = .ok (.iconst 1, 1) := by decide +kernel
theorem dX4_bound_43 : decode cX4_bound 43 = .ok (.goto 4, 3) := by decide +kernel
theorem dX4_bound_46 : decode cX4_bound 46 = .ok (.iconst 0, 1) := by decide +kernel
theorem dX4_bound_47 : decode cX4_bound 47 = .ok (.iadd, 1) := by decide +kernel
theorem dX4_bound_48 : decode cX4_bound 48 = .ok (.istore_n 3, 1) := by decide +kernel
theorem dX4_bound_49 : decode cX4_bound 49 = .ok (.iinc 4 1, 3) := by decide +kernel
theorem dX4_bound_52 : decode cX4_bound 52 = .ok (.goto (-37), 3) := by decide +kernel
theorem dX4_bound_55 : decode cX4_bound 55 = .ok (.iconst 0, 1) := by decide +kernel
theorem dX4_bound_56 : decode cX4_bound 56 = .ok (.istore 4, 2) := by decide +kernel
theorem dX4_bound_58 : decode cX4_bound 58 = .ok (.iload 4, 2) := by decide +kernel
theorem dX4_bound_60 : decode cX4_bound 60 = .ok (.aload_n 0, 1) := by decide +kernel
theorem dX4_bound_61 : decode cX4_bound 61 = .ok (.getfield 18, 3) := by decide +kernel
theorem dX4_bound_64 : decode cX4_bound 64 = .ok (.getfield 38, 3) := by decide +kernel
theorem dX4_bound_67 : decode cX4_bound 67 = .ok (.if_icmp .ge 31, 3) := by decide +kernel
theorem dX4_bound_70 : decode cX4_bound 70 = .ok (.iload_n 3, 1) := by decide +kernel
theorem dX4_bound_71 : decode cX4_bound 71 = .ok (.aload_n 0, 1) := by decide +kernel
theorem dX4_bound_72 : decode cX4_bound 72 = .ok (.getfield 18, 3) := by decide +kernel
theorem dX4_bound_75 : decode cX4_bound 75 = .ok (.getfield 91, 3) := by decide +kernel
theorem dX4_bound_78 : decode cX4_bound 78 = .ok (.iload 4, 2) := by decide +kernel
theorem dX4_bound_80 : decode cX4_bound 80 = .ok (.iaload, 1) := by decide +kernel
theorem dX4_bound_81 : decode cX4_bound 81 = .ok (.iload_n 2, 1) := by decide +kernel
theorem dX4_bound_82 : decode cX4_bound 82 = .ok (.if_icmp .ne 7, 3) := by decide +kernel
theorem dX4_bound_85 : decode cX4_bound 85 = .ok (.iconst 1, 1) := by decide +kernel
theorem dX4_bound_86 : decode cX4_bound 86 = .ok (.goto 4, 3) := by decide +kernel
theorem dX4_bound_89 : decode cX4_bound 89 = .ok (.iconst 0, 1) := by decide +kernel
theorem dX4_bound_90 : decode cX4_bound 90 = .ok (.isub, 1) := by decide +kernel
theorem dX4_bound_91 : decode cX4_bound 91 = .ok (.istore_n 3, 1) := by decide +kernel
theorem dX4_bound_92 : decode cX4_bound 92 = .ok (.iinc 4 1, 3) := by decide +kernel
theorem dX4_bound_95 : decode cX4_bound 95 = .ok (.goto (-37), 3) := by decide +kernel
theorem dX4_bound_98 : decode cX4_bound 98 = .ok (.iload_n 1, 1) := by decide +kernel
theorem dX4_bound_99 : decode cX4_bound 99 = .ok (.iload_n 3, 1) := by decide +kernel
theorem dX4_bound_100 : decode cX4_bound 100 = .ok (.invokestatic 79, 3) := by decide +kernel
theorem dX4_bound_103 : decode cX4_bound 103 = .ok (.iadd, 1) := by decide +kernel
theorem dX4_bound_104 : decode cX4_bound 104 = .ok (.istore_n 1, 1) := by decide +kernel
theorem dX4_bound_105 : decode cX4_bound 105 = .ok (.iinc 2 1, 3) := by decide +kernel
theorem dX4_bound_108 : decode cX4_bound 108 = .ok (.goto (-104), 3) := by decide +kernel
theorem dX4_bound_111 : decode cX4_bound 111 = .ok (.iconst 2, 1) := by decide +kernel
theorem dX4_bound_112 : decode cX4_bound 112 = .ok (.iload_n 1, 1) := by decide +kernel
theorem dX4_bound_113 : decode cX4_bound 113 = .ok (.imul, 1) := by decide +kernel
theorem dX4_bound_114 : decode cX4_bound 114 = .ok (.ireturn, 1) := by decide +kernel
theorem dX4_goRound_0 : decode cX4_goRound 0 = .ok (.iconst 1, 1) := by decide +kernel
theorem dX4_goRound_1 : decode cX4_goRound 1 = .ok (.istore_n 2, 1) := by decide +kernel
theorem dX4_goRound_2 : decode cX4_goRound 2 = .ok (.iload_n 2, 1) := by decide +kernel
theorem dX4_goRound_3 : decode cX4_goRound 3 = .ok (.aload_n 0, 1) := by decide +kernel
theorem dX4_goRound_4 : decode cX4_goRound 4 = .ok (.getfield 12, 3) := by decide +kernel
theorem dX4_goRound_7 : decode cX4_goRound 7 = .ok (.getfield 38, 3) := by decide +kernel
theorem dX4_goRound_10 : decode cX4_goRound 10 = .ok (.if_icmp .ge 102, 3) := by decide +kernel
theorem dX4_goRound_13 : decode cX4_goRound 13 = .ok (.iconst 1, 1) := by decide +kernel
theorem dX4_goRound_14 : decode cX4_goRound 14 = .ok (.istore_n 3, 1) := by decide +kernel
theorem dX4_goRound_15 : decode cX4_goRound 15 = .ok (.iload_n 3, 1) := by decide +kernel
theorem dX4_goRound_16 : decode cX4_goRound 16 = .ok (.aload_n 0, 1) := by decide +kernel
theorem dX4_goRound_17 : decode cX4_goRound 17 = .ok (.getfield 18, 3) := by decide +kernel
theorem dX4_goRound_20 : decode cX4_goRound 20 = .ok (.getfield 38, 3) := by decide +kernel
theorem dX4_goRound_23 : decode cX4_goRound 23 = .ok (.if_icmp .ge 83, 3) := by decide +kernel
theorem dX4_goRound_26 : decode cX4_goRound 26 = .ok (.aload_n 0, 1) := by decide +kernel
theorem dX4_goRound_27 : decode cX4_goRound 27 = .ok (.getfield 21, 3) := by decide +kernel
theorem dX4_goRound_30 : decode cX4_goRound 30 = .ok (.iload_n 2, 1) := by decide +kernel
theorem dX4_goRound_31 : decode cX4_goRound 31 = .ok (.iaload, 1) := by decide +kernel
theorem dX4_goRound_32 : decode cX4_goRound 32 = .ok (.iconst (-1), 1) := by decide +kernel
theorem dX4_goRound_33 : decode cX4_goRound 33 = .ok (.if_icmp .ne 73, 3) := by decide +kernel
theorem dX4_goRound_36 : decode cX4_goRound 36 = .ok (.aload_n 0, 1) := by decide +kernel
theorem dX4_goRound_37 : decode cX4_goRound 37 = .ok (.getfield 25, 3) := by decide +kernel
theorem dX4_goRound_40 : decode cX4_goRound 40 = .ok (.iload_n 3, 1) := by decide +kernel
theorem dX4_goRound_41 : decode cX4_goRound 41 = .ok (.iaload, 1) := by decide +kernel
theorem dX4_goRound_42 : decode cX4_goRound 42 = .ok (.iconst (-1), 1) := by decide +kernel
theorem dX4_goRound_43 : decode cX4_goRound 43 = .ok (.if_icmp .ne 57, 3) := by decide +kernel
theorem dX4_goRound_46 : decode cX4_goRound 46 = .ok (.aload_n 0, 1) := by decide +kernel
theorem dX4_goRound_47 : decode cX4_goRound 47 = .ok (.getfield 12, 3) := by decide +kernel
theorem dX4_goRound_50 : decode cX4_goRound 50 = .ok (.getfield 91, 3) := by decide +kernel
theorem dX4_goRound_53 : decode cX4_goRound 53 = .ok (.iload_n 2, 1) := by decide +kernel
theorem dX4_goRound_54 : decode cX4_goRound 54 = .ok (.iaload, 1) := by decide +kernel
theorem dX4_goRound_55 : decode cX4_goRound 55 = .ok (.aload_n 0, 1) := by decide +kernel
theorem dX4_goRound_56 : decode cX4_goRound 56 = .ok (.getfield 18, 3) := by decide +kernel
theorem dX4_goRound_59 : decode cX4_goRound 59 = .ok (.getfield 91, 3) := by decide +kernel
theorem dX4_goRound_62 : decode cX4_goRound 62 = .ok (.iload_n 3, 1) := by decide +kernel
theorem dX4_goRound_63 : decode cX4_goRound 63 = .ok (.iaload, 1) := by decide +kernel
theorem dX4_goRound_64 : decode cX4_goRound 64 = .ok (.if_icmp .ne 36, 3) := by decide +kernel
theorem dX4_goRound_67 : decode cX4_goRound 67 = .ok (.aload_n 0, 1) := by decide +kernel
theorem dX4_goRound_68 : decode cX4_goRound 68 = .ok (.iload_n 1, 1) := by decide +kernel
theorem dX4_goRound_69 : decode cX4_goRound 69 = .ok (.iload_n 2, 1) := by decide +kernel
theorem dX4_goRound_70 : decode cX4_goRound 70 = .ok (.iload_n 3, 1) := by decide +kernel
theorem dX4_goRound_71 : decode cX4_goRound 71 = .ok (.invokevirtual 94, 3) := by decide +kernel
theorem dX4_goRound_74 : decode cX4_goRound 74 = .ok (.ifCond .eq 26, 3) := by decide +kernel
theorem dX4_goRound_77 : decode cX4_goRound 77 = .ok (.aload_n 0, 1) := by decide +kernel
theorem dX4_goRound_78 : decode cX4_goRound 78 = .ok (.iload_n 2, 1) := by decide +kernel
theorem dX4_goRound_79 : decode cX4_goRound 79 = .ok (.iload_n 3, 1) := by decide +kernel
theorem dX4_goRound_80 : decode cX4_goRound 80 = .ok (.iload_n 1, 1) := by decide +kernel
theorem dX4_goRound_81 : decode cX4_goRound 81 = .ok (.iconst 1, 1) := by decide +kernel
theorem dX4_goRound_82 : decode cX4_goRound 82 = .ok (.if_icmp .ne 14, 3) := by decide +kernel
theorem dX4_goRound_85 : decode cX4_goRound 85 = .ok (.aload_n 0, 1) := by decide +kernel
theorem dX4_goRound_86 : decode cX4_goRound 86 = .ok (.getfield 12, 3) := by decide +kernel
theorem dX4_goRound_89 : decode cX4_goRound 89 = .ok (.iload_n 2, 1) := by decide +kernel
theorem dX4_goRound_90 : decode cX4_goRound 90 = .ok (.invokevirtual 98, 3) := by decide +kernel
theorem dX4_goRound_93 : decode cX4_goRound 93 = .ok (.goto 4, 3) := by decide +kernel
theorem dX4_goRound_96 : decode cX4_goRound 96 = .ok (.iconst 1, 1) := by decide +kernel
theorem dX4_goRound_97 : decode cX4_goRound 97 = .ok (.invokevirtual 101, 3) := by decide +kernel
theorem dX4_goRound_100 : decode cX4_goRound 100 = .ok (.iinc 3 1, 3) := by decide +kernel
theorem dX4_goRound_103 : decode cX4_goRound 103 = .ok (.goto (-88), 3) := by decide +kernel
theorem dX4_goRound_106 : decode cX4_goRound 106 = .ok (.iinc 2 1, 3) := by decide +kernel
theorem dX4_goRound_109 : decode cX4_goRound 109 = .ok (.goto (-107), 3) := by decide +kernel
theorem dX4_goRound_112 : decode cX4_goRound 112 = .ok (.return_, 1) := by decide +kernel
theorem dX4_haveParentsPaired_0 : decode cX4_haveParentsPaired 0 = .ok (.aload_n 0, 1) := by decide +kernel
theorem dX4_haveParentsPaired_1 : decode cX4_haveParentsPaired 1 = .ok (.getfield 12, 3) := by decide +kernel
theorem dX4_haveParentsPaired_4 : decode cX4_haveParentsPaired 4 = .ok (.getfield 76, 3) := by decide +kernel
theorem dX4_haveParentsPaired_7 : decode cX4_haveParentsPaired 7 = .ok (.iload_n 1, 1) := by decide +kernel
theorem dX4_haveParentsPaired_8 : decode cX4_haveParentsPaired 8 = .ok (.iaload, 1) := by decide +kernel
theorem dX4_haveParentsPaired_9 : decode cX4_haveParentsPaired 9 = .ok (.istore_n 3, 1) := by decide +kernel
theorem dX4_haveParentsPaired_10 : decode cX4_haveParentsPaired 10 = .ok (.iload_n 3, 1) := by decide +kernel
theorem dX4_haveParentsPaired_11 : decode cX4_haveParentsPaired 11 = .ok (.ifCond .lt 37, 3) := by decide +kernel
theorem dX4_haveParentsPaired_14 : decode cX4_haveParentsPaired 14 = .ok (.aload_n 0, 1) := by decide +kernel
theorem dX4_haveParentsPaired_15 : decode cX4_haveParentsPaired 15 = .ok (.getfield 18, 3) := by decide +kernel
theorem dX4_haveParentsPaired_18 : decode cX4_haveParentsPaired 18 = .ok (.getfield 76, 3) := by decide +kernel
theorem dX4_haveParentsPaired_21 : decode cX4_haveParentsPaired 21 = .ok (.iload_n 2, 1) := by decide +kernel
theorem dX4_haveParentsPaired_22 : decode cX4_haveParentsPaired 22 = .ok (.iaload, 1) := by decide +kernel
theorem dX4_haveParentsPaired_23 : decode cX4_haveParentsPaired 23 = .ok (.ifCond .lt 25, 3) := by decide +kernel
theorem dX4_haveParentsPaired_26 : decode cX4_haveParentsPaired 26 = .ok (.aload_n 0, 1) := by decide +kernel
theorem dX4_haveParentsPaired_27 : decode cX4_haveParentsPaired 27 = .ok (.getfield 21, 3) := by decide +kernel
theorem dX4_haveParentsPaired_30 : decode cX4_haveParentsPaired 30 = .ok (.iload_n 3, 1) := by decide +kernel
theorem dX4_haveParentsPaired_31 : decode cX4_haveParentsPaired 31 = .ok (.iaload, 1) := by decide +kernel
theorem dX4_haveParentsPaired_32 : decode cX4_haveParentsPaired 32 = .ok (.aload_n 0, 1) := by decide +kernel
theorem dX4_haveParentsPaired_33 : decode cX4_haveParentsPaired 33 = .ok (.getfield 18, 3) := by decide +kernel
theorem dX4_haveParentsPaired_36 : decode cX4_haveParentsPaired 36 = .ok (.getfield 76, 3) := by decide +kernel
theorem dX4_haveParentsPaired_39 : decode cX4_haveParentsPaired 39 = .ok (.iload_n 2, 1) := by decide +kernel
theorem dX4_haveParentsPaired_40 : decode cX4_haveParentsPaired 40 = .ok (.iaload, 1) := by decide +kernel
theorem dX4_haveParentsPaired_41 : decode cX4_haveParentsPaired 41 = .ok (.if_icmp .ne 7, 3) := by decide +kernel
theorem dX4_haveParentsPaired_44 : decode cX4_haveParentsPaired 44 = .ok (.iconst 1, 1) := by decide +kernel
theorem dX4_haveParentsPaired_45 : decode cX4_haveParentsPaired 45 = .ok (.goto 4, 3) := by decide +kernel
theorem dX4_haveParentsPaired_48 : decode cX4_haveParentsPaired 48 = .ok (.iconst 0, 1) := by decide +kernel
theorem dX4_haveParentsPaired_49 : decode cX4_haveParentsPaired 49 = .ok (.ireturn, 1) := by decide +kernel
theorem dX4_link_0 : decode cX4_link 0 = .ok (.aload_n 0, 1) := by decide +kernel
theorem dX4_link_1 : decode cX4_link 1 = .ok (.getfield 21, 3) := by decide +kernel
theorem dX4_link_4 : decode cX4_link 4 = .ok (.iload_n 1, 1) := by decide +kernel
theorem dX4_link_5 : decode cX4_link 5 = .ok (.iload_n 2, 1) := by decide +kernel
theorem dX4_link_6 : decode cX4_link 6 = .ok (.iastore, 1) := by decide +kernel
theorem dX4_link_7 : decode cX4_link 7 = .ok (.aload_n 0, 1) := by decide +kernel
theorem dX4_link_8 : decode cX4_link 8 = .ok (.getfield 25, 3) := by decide +kernel
theorem dX4_link_11 : decode cX4_link 11 = .ok (.iload_n 2, 1) := by decide +kernel
theorem dX4_link_12 : decode cX4_link 12 = .ok (.iload_n 1, 1) := by decide +kernel
theorem dX4_link_13 : decode cX4_link 13 = .ok (.iastore, 1) := by decide +kernel
theorem dX4_link_14 : decode cX4_link 14 = .ok (.return_, 1) := by decide +kernel
theorem dX4_linkAll_0 : decode cX4_linkAll 0 = .ok (.iconst 0, 1) := by decide +kernel
theorem dX4_linkAll_1 : decode cX4_linkAll 1 = .ok (.istore 4, 2) := by decide +kernel
theorem dX4_linkAll_3 : decode cX4_linkAll 3 = .ok (.iload 4, 2) := by decide +kernel
theorem dX4_linkAll_5 : decode cX4_linkAll 5 = .ok (.iload_n 3, 1) := by decide +kernel
theorem dX4_linkAll_6 : decode cX4_linkAll 6 = .ok (.if_icmp .ge 21, 3) := by decide +kernel
theorem dX4_linkAll_9 : decode cX4_linkAll 9 = .ok (.aload_n 0, 1) := by decide +kernel
theorem dX4_linkAll_10 : decode cX4_linkAll 10 = .ok (.iload_n 1, 1) := by decide +kernel
theorem dX4_linkAll_11 : decode cX4_linkAll 11 = .ok (.iload 4, 2) := by decide +kernel
theorem dX4_linkAll_13 : decode cX4_linkAll 13 = .ok (.iadd, 1) := by decide +kernel
theorem dX4_linkAll_14 : decode cX4_linkAll 14 = .ok (.iload_n 2, 1) := by decide +kernel
theorem dX4_linkAll_15 : decode cX4_linkAll 15 = .ok (.iload 4, 2) := by decide +kernel
theorem dX4_linkAll_17 : decode cX4_linkAll 17 = .ok (.iadd, 1) := by decide +kernel
theorem dX4_linkAll_18 : decode cX4_linkAll 18 = .ok (.invokevirtual 34, 3) := by decide +kernel
theorem dX4_linkAll_21 : decode cX4_linkAll 21 = .ok (.iinc 4 1, 3) := by decide +kernel
theorem dX4_linkAll_24 : decode cX4_linkAll 24 = .ok (.goto (-21), 3) := by decide +kernel
theorem dX4_linkAll_27 : decode cX4_linkAll 27 = .ok (.return_, 1) := by decide +kernel
theorem dX4_numberFor_0 : decode cX4_numberFor 0 = .ok (.iload_n 1, 1) := by decide +kernel
theorem dX4_numberFor_1 : decode cX4_numberFor 1 = .ok (.ifCond .lt 36, 3) := by decide +kernel
theorem dX4_numberFor_4 : decode cX4_numberFor 4 = .ok (.iload_n 1, 1) := by decide +kernel
theorem dX4_numberFor_5 : decode cX4_numberFor 5 = .ok (.bipush 40, 2) := by decide +kernel
theorem dX4_numberFor_7 : decode cX4_numberFor 7 = .ok (.if_icmp .ge 30, 3) := by decide +kernel
theorem dX4_numberFor_10 : decode cX4_numberFor 10 = .ok (.aload_n 0, 1) := by decide +kernel
theorem dX4_numberFor_11 : decode cX4_numberFor 11 = .ok (.getfield 25, 3) := by decide +kernel
theorem dX4_numberFor_14 : decode cX4_numberFor 14 = .ok (.iload_n 1, 1) := by decide +kernel
theorem dX4_numberFor_15 : decode cX4_numberFor 15 = .ok (.iaload, 1) := by decide +kernel
theorem dX4_numberFor_16 : decode cX4_numberFor 16 = .ok (.iconst (-1), 1) := by decide +kernel
theorem dX4_numberFor_17 : decode cX4_numberFor 17 = .ok (.if_icmp .eq 20, 3) := by decide +kernel
theorem dX4_numberFor_20 : decode cX4_numberFor 20 = .ok (.aload_n 0, 1) := by decide +kernel
theorem dX4_numberFor_21 : decode cX4_numberFor 21 = .ok (.getfield 12, 3) := by decide +kernel
theorem dX4_numberFor_24 : decode cX4_numberFor 24 = .ok (.getfield 114, 3) := by decide +kernel
theorem dX4_numberFor_27 : decode cX4_numberFor 27 = .ok (.aload_n 0, 1) := by decide +kernel
theorem dX4_numberFor_28 : decode cX4_numberFor 28 = .ok (.getfield 25, 3) := by decide +kernel
theorem dX4_numberFor_31 : decode cX4_numberFor 31 = .ok (.iload_n 1, 1) := by decide +kernel
theorem dX4_numberFor_32 : decode cX4_numberFor 32 = .ok (.iaload, 1) := by decide +kernel
theorem dX4_numberFor_33 : decode cX4_numberFor 33 = .ok (.iaload, 1) := by decide +kernel
theorem dX4_numberFor_34 : decode cX4_numberFor 34 = .ok (.goto 4, 3) := by decide +kernel
theorem dX4_numberFor_37 : decode cX4_numberFor 37 = .ok (.iconst (-1), 1) := by decide +kernel
theorem dX4_numberFor_38 : decode cX4_numberFor 38 = .ok (.ireturn, 1) := by decide +kernel
theorem dX4_pairCost_0 : decode cX4_pairCost 0 = .ok (.aload_n 0, 1) := by decide +kernel
theorem dX4_pairCost_1 : decode cX4_pairCost 1 = .ok (.getfield 12, 3) := by decide +kernel
theorem dX4_pairCost_4 : decode cX4_pairCost 4 = .ok (.getfield 68, 3) := by decide +kernel
theorem dX4_pairCost_7 : decode cX4_pairCost 7 = .ok (.iload_n 1, 1) := by decide +kernel
theorem dX4_pairCost_8 : decode cX4_pairCost 8 = .ok (.laload, 1) := by decide +kernel
theorem dX4_pairCost_9 : decode cX4_pairCost 9 = .ok (.aload_n 0, 1) := by decide +kernel
theorem dX4_pairCost_10 : decode cX4_pairCost 10 = .ok (.getfield 18, 3) := by decide +kernel
theorem dX4_pairCost_13 : decode cX4_pairCost 13 = .ok (.getfield 68, 3) := by decide +kernel
theorem dX4_pairCost_16 : decode cX4_pairCost 16 = .ok (.iload_n 2, 1) := by decide +kernel
theorem dX4_pairCost_17 : decode cX4_pairCost 17 = .ok (.laload, 1) := by decide +kernel
theorem dX4_pairCost_18 : decode cX4_pairCost 18 = .ok (.lcmp, 1) := by decide +kernel
theorem dX4_pairCost_19 : decode cX4_pairCost 19 = .ok (.ifCond .eq 7, 3) := by decide +kernel
theorem dX4_pairCost_22 : decode cX4_pairCost 22 = .ok (.iconst 1, 1) := by decide +kernel
theorem dX4_pairCost_23 : decode cX4_pairCost 23 = .ok (.goto 4, 3) := by decide +kernel
theorem dX4_pairCost_26 : decode cX4_pairCost 26 = .ok (.iconst 0, 1) := by decide +kernel
theorem dX4_pairCost_27 : decode cX4_pairCost 27 = .ok (.istore_n 3, 1) := by decide +kernel
theorem dX4_pairCost_28 : decode cX4_pairCost 28 = .ok (.iload_n 1, 1) := by decide +kernel
theorem dX4_pairCost_29 : decode cX4_pairCost 29 = .ok (.ifCond .le 18, 3) := by decide +kernel
theorem dX4_pairCost_32 : decode cX4_pairCost 32 = .ok (.aload_n 0, 1) := by decide +kernel
theorem dX4_pairCost_33 : decode cX4_pairCost 33 = .ok (.iload_n 1, 1) := by decide +kernel
theorem dX4_pairCost_34 : decode cX4_pairCost 34 = .ok (.iload_n 2, 1) := by decide +kernel
theorem dX4_pairCost_35 : decode cX4_pairCost 35 = .ok (.invokevirtual 72, 3) := by decide +kernel
theorem dX4_pairCost_38 : decode cX4_pairCost 38 = .ok (.ifCond .ne 9, 3) := by decide +kernel
theorem dX4_pairCost_41 : decode cX4_pairCost 41 = .ok (.iload_n 3, 1) := by decide +kernel
theorem dX4_pairCost_42 : decode cX4_pairCost 42 = .ok (.iconst 1, 1) := by decide +kernel
theorem dX4_pairCost_43 : decode cX4_pairCost 43 = .ok (.iadd, 1) := by decide +kernel
theorem dX4_pairCost_44 : decode cX4_pairCost 44 = .ok (.goto 4, 3) := by decide +kernel
theorem dX4_pairCost_47 : decode cX4_pairCost 47 = .ok (.iload_n 3, 1) := by decide +kernel
theorem dX4_pairCost_48 : decode cX4_pairCost 48 = .ok (.ireturn, 1) := by decide +kernel
theorem dX4_pairNothing_0 : decode cX4_pairNothing 0 = .ok (.iconst 0, 1) := by decide +kernel
theorem dX4_pairNothing_1 : decode cX4_pairNothing 1 = .ok (.istore_n 1, 1) := by decide +kernel
theorem dX4_pairNothing_2 : decode cX4_pairNothing 2 = .ok (.iload_n 1, 1) := by decide +kernel
theorem dX4_pairNothing_3 : decode cX4_pairNothing 3 = .ok (.bipush 40, 2) := by decide +kernel
theorem dX4_pairNothing_5 : decode cX4_pairNothing 5 = .ok (.if_icmp .ge 23, 3) := by decide +kernel
theorem dX4_pairNothing_8 : decode cX4_pairNothing 8 = .ok (.aload_n 0, 1) := by decide +kernel
theorem dX4_pairNothing_9 : decode cX4_pairNothing 9 = .ok (.getfield 21, 3) := by decide +kernel
theorem dX4_pairNothing_12 : decode cX4_pairNothing 12 = .ok (.iload_n 1, 1) := by decide +kernel
theorem dX4_pairNothing_13 : decode cX4_pairNothing 13 = .ok (.iconst (-1), 1) := by decide +kernel
theorem dX4_pairNothing_14 : decode cX4_pairNothing 14 = .ok (.iastore, 1) := by decide +kernel
theorem dX4_pairNothing_15 : decode cX4_pairNothing 15 = .ok (.aload_n 0, 1) := by decide +kernel
theorem dX4_pairNothing_16 : decode cX4_pairNothing 16 = .ok (.getfield 25, 3) := by decide +kernel
theorem dX4_pairNothing_19 : decode cX4_pairNothing 19 = .ok (.iload_n 1, 1) := by decide +kernel
theorem dX4_pairNothing_20 : decode cX4_pairNothing 20 = .ok (.iconst (-1), 1) := by decide +kernel
theorem dX4_pairNothing_21 : decode cX4_pairNothing 21 = .ok (.iastore, 1) := by decide +kernel
theorem dX4_pairNothing_22 : decode cX4_pairNothing 22 = .ok (.iinc 1 1, 3) := by decide +kernel
theorem dX4_pairNothing_25 : decode cX4_pairNothing 25 = .ok (.goto (-23), 3) := by decide +kernel
theorem dX4_pairNothing_28 : decode cX4_pairNothing 28 = .ok (.return_, 1) := by decide +kernel
theorem dX4_pairUp_0 : decode cX4_pairUp 0 = .ok (.aload_n 0, 1) := by decide +kernel
theorem dX4_pairUp_1 : decode cX4_pairUp 1 = .ok (.aload_n 1, 1) := by decide +kernel
theorem dX4_pairUp_2 : decode cX4_pairUp 2 = .ok (.putfield 12, 3) := by decide +kernel
theorem dX4_pairUp_5 : decode cX4_pairUp 5 = .ok (.aload_n 0, 1) := by decide +kernel
theorem dX4_pairUp_6 : decode cX4_pairUp 6 = .ok (.aload_n 2, 1) := by decide +kernel
theorem dX4_pairUp_7 : decode cX4_pairUp 7 = .ok (.putfield 18, 3) := by decide +kernel
theorem dX4_pairUp_10 : decode cX4_pairUp 10 = .ok (.aload_n 0, 1) := by decide +kernel
theorem dX4_pairUp_11 : decode cX4_pairUp 11 = .ok (.invokevirtual 31, 3) := by decide +kernel
theorem dX4_pairUp_14 : decode cX4_pairUp 14 = .ok (.aload_n 0, 1) := by decide +kernel
theorem dX4_pairUp_15 : decode cX4_pairUp 15 = .ok (.iconst 0, 1) := by decide +kernel
theorem dX4_pairUp_16 : decode cX4_pairUp 16 = .ok (.iconst 0, 1) := by decide +kernel
theorem dX4_pairUp_17 : decode cX4_pairUp 17 = .ok (.invokevirtual 34, 3) := by decide +kernel
theorem dX4_pairUp_20 : decode cX4_pairUp 20 = .ok (.aload_n 0, 1) := by decide +kernel
theorem dX4_pairUp_21 : decode cX4_pairUp 21 = .ok (.aload_n 0, 1) := by decide +kernel
theorem dX4_pairUp_22 : decode cX4_pairUp 22 = .ok (.getfield 12, 3) := by decide +kernel
theorem dX4_pairUp_25 : decode cX4_pairUp 25 = .ok (.getfield 38, 3) := by decide +kernel
theorem dX4_pairUp_28 : decode cX4_pairUp 28 = .ok (.bipush 6, 2) := by decide +kernel
theorem dX4_pairUp_30 : decode cX4_pairUp 30 = .ok (.if_icmp .gt 19, 3) := by decide +kernel
theorem dX4_pairUp_33 : decode cX4_pairUp 33 = .ok (.aload_n 0, 1) := by decide +kernel
theorem dX4_pairUp_34 : decode cX4_pairUp 34 = .ok (.getfield 18, 3) := by decide +kernel
theorem dX4_pairUp_37 : decode cX4_pairUp 37 = .ok (.getfield 38, 3) := by decide +kernel
theorem dX4_pairUp_40 : decode cX4_pairUp 40 = .ok (.bipush 6, 2) := by decide +kernel
theorem dX4_pairUp_42 : decode cX4_pairUp 42 = .ok (.if_icmp .gt 7, 3) := by decide +kernel
theorem dX4_pairUp_45 : decode cX4_pairUp 45 = .ok (.iconst 1, 1) := by decide +kernel
theorem dX4_pairUp_46 : decode cX4_pairUp 46 = .ok (.goto 4, 3) := by decide +kernel
theorem dX4_pairUp_49 : decode cX4_pairUp 49 = .ok (.iconst 0, 1) := by decide +kernel
theorem dX4_pairUp_50 : decode cX4_pairUp 50 = .ok (.putfield 42, 3) := by decide +kernel
theorem dX4_pairUp_53 : decode cX4_pairUp 53 = .ok (.aload_n 0, 1) := by decide +kernel
theorem dX4_pairUp_54 : decode cX4_pairUp 54 = .ok (.getfield 42, 3) := by decide +kernel
theorem dX4_pairUp_57 : decode cX4_pairUp 57 = .ok (.ifCond .eq 51, 3) := by decide +kernel
theorem dX4_pairUp_60 : decode cX4_pairUp 60 = .ok (.aload_n 0, 1) := by decide +kernel
theorem dX4_pairUp_61 : decode cX4_pairUp 61 = .ok (.iconst 2, 1) := by decide +kernel
theorem dX4_pairUp_62 : decode cX4_pairUp 62 = .ok (.aload_n 0, 1) := by decide +kernel
theorem dX4_pairUp_63 : decode cX4_pairUp 63 = .ok (.getfield 12, 3) := by decide +kernel
theorem dX4_pairUp_66 : decode cX4_pairUp 66 = .ok (.getfield 38, 3) := by decide +kernel
theorem dX4_pairUp_69 : decode cX4_pairUp 69 = .ok (.aload_n 0, 1) := by decide +kernel
theorem dX4_pairUp_70 : decode cX4_pairUp 70 = .ok (.getfield 18, 3) := by decide +kernel
theorem dX4_pairUp_73 : decode cX4_pairUp 73 = .ok (.getfield 38, 3) := by decide +kernel
theorem dX4_pairUp_76 : decode cX4_pairUp 76 = .ok (.iadd, 1) := by decide +kernel
theorem dX4_pairUp_77 : decode cX4_pairUp 77 = .ok (.imul, 1) := by decide +kernel
theorem dX4_pairUp_78 : decode cX4_pairUp 78 = .ok (.putfield 46, 3) := by decide +kernel
theorem dX4_pairUp_81 : decode cX4_pairUp 81 = .ok (.aload_n 0, 1) := by decide +kernel
theorem dX4_pairUp_82 : decode cX4_pairUp 82 = .ok (.iconst 1, 1) := by decide +kernel
theorem dX4_pairUp_83 : decode cX4_pairUp 83 = .ok (.aload_n 0, 1) := by decide +kernel
theorem dX4_pairUp_84 : decode cX4_pairUp 84 = .ok (.iconst 0, 1) := by decide +kernel
theorem dX4_pairUp_85 : decode cX4_pairUp 85 = .ok (.iconst 0, 1) := by decide +kernel
theorem dX4_pairUp_86 : decode cX4_pairUp 86 = .ok (.invokevirtual 49, 3) := by decide +kernel
theorem dX4_pairUp_89 : decode cX4_pairUp 89 = .ok (.aload_n 0, 1) := by decide +kernel
theorem dX4_pairUp_90 : decode cX4_pairUp 90 = .ok (.getfield 18, 3) := by decide +kernel
theorem dX4_pairUp_93 : decode cX4_pairUp 93 = .ok (.getfield 38, 3) := by decide +kernel
theorem dX4_pairUp_96 : decode cX4_pairUp 96 = .ok (.iconst 1, 1) := by decide +kernel
theorem dX4_pairUp_97 : decode cX4_pairUp 97 = .ok (.isub, 1) := by decide +kernel
theorem dX4_pairUp_98 : decode cX4_pairUp 98 = .ok (.invokevirtual 53, 3) := by decide +kernel
theorem dX4_pairUp_101 : decode cX4_pairUp 101 = .ok (.aload_n 0, 1) := by decide +kernel
theorem dX4_pairUp_102 : decode cX4_pairUp 102 = .ok (.invokevirtual 57, 3) := by decide +kernel
theorem dX4_pairUp_105 : decode cX4_pairUp 105 = .ok (.goto 29, 3) := by decide +kernel
theorem dX4_pairUp_108 : decode cX4_pairUp 108 = .ok (.iconst 1, 1) := by decide +kernel
theorem dX4_pairUp_109 : decode cX4_pairUp 109 = .ok (.istore_n 3, 1) := by decide +kernel
theorem dX4_pairUp_110 : decode cX4_pairUp 110 = .ok (.iload_n 3, 1) := by decide +kernel
theorem dX4_pairUp_111 : decode cX4_pairUp 111 = .ok (.iconst 4, 1) := by decide +kernel
theorem dX4_pairUp_112 : decode cX4_pairUp 112 = .ok (.if_icmp .gt 14, 3) := by decide +kernel
theorem dX4_pairUp_115 : decode cX4_pairUp 115 = .ok (.aload_n 0, 1) := by decide +kernel
theorem dX4_pairUp_116 : decode cX4_pairUp 116 = .ok (.iload_n 3, 1) := by decide +kernel
theorem dX4_pairUp_117 : decode cX4_pairUp 117 = .ok (.invokevirtual 60, 3) := by decide +kernel
theorem dX4_pairUp_120 : decode cX4_pairUp 120 = .ok (.iinc 3 1, 3) := by decide +kernel
theorem dX4_pairUp_123 : decode cX4_pairUp 123 = .ok (.goto (-13), 3) := by decide +kernel
theorem dX4_pairUp_126 : decode cX4_pairUp 126 = .ok (.aload_n 0, 1) := by decide +kernel
theorem dX4_pairUp_127 : decode cX4_pairUp 127 = .ok (.aload_n 0, 1) := by decide +kernel
theorem dX4_pairUp_128 : decode cX4_pairUp 128 = .ok (.invokevirtual 64, 3) := by decide +kernel
theorem dX4_pairUp_131 : decode cX4_pairUp 131 = .ok (.putfield 46, 3) := by decide +kernel
theorem dX4_pairUp_134 : decode cX4_pairUp 134 = .ok (.return_, 1) := by decide +kernel
theorem dX4_pairs_0 : decode cX4_pairs 0 = .ok (.iconst 0, 1) := by decide +kernel
theorem dX4_pairs_1 : decode cX4_pairs 1 = .ok (.istore_n 1, 1) := by decide +kernel
theorem dX4_pairs_2 : decode cX4_pairs 2 = .ok (.iconst 0, 1) := by decide +kernel
theorem dX4_pairs_3 : decode cX4_pairs 3 = .ok (.istore_n 2, 1) := by decide +kernel
theorem dX4_pairs_4 : decode cX4_pairs 4 = .ok (.iload_n 2, 1) := by decide +kernel
theorem dX4_pairs_5 : decode cX4_pairs 5 = .ok (.bipush 40, 2) := by decide +kernel
theorem dX4_pairs_7 : decode cX4_pairs 7 = .ok (.if_icmp .ge 22, 3) := by decide +kernel
theorem dX4_pairs_10 : decode cX4_pairs 10 = .ok (.aload_n 0, 1) := by decide +kernel
theorem dX4_pairs_11 : decode cX4_pairs 11 = .ok (.getfield 25, 3) := by decide +kernel
theorem dX4_pairs_14 : decode cX4_pairs 14 = .ok (.iload_n 2, 1) := by decide +kernel
theorem dX4_pairs_15 : decode cX4_pairs 15 = .ok (.iaload, 1) := by decide +kernel
theorem dX4_pairs_16 : decode cX4_pairs 16 = .ok (.iconst (-1), 1) := by decide +kernel
theorem dX4_pairs_17 : decode cX4_pairs 17 = .ok (.if_icmp .eq 6, 3) := by decide +kernel
theorem dX4_pairs_20 : decode cX4_pairs 20 = .ok (.iinc 1 1, 3) := by decide +kernel
theorem dX4_pairs_23 : decode cX4_pairs 23 = .ok (.iinc 2 1, 3) := by decide +kernel
theorem dX4_pairs_26 : decode cX4_pairs 26 = .ok (.goto (-22), 3) := by decide +kernel
theorem dX4_pairs_29 : decode cX4_pairs 29 = .ok (.iload_n 1, 1) := by decide +kernel
theorem dX4_pairs_30 : decode cX4_pairs 30 = .ok (.ireturn, 1) := by decide +kernel
theorem dX4_search_0 : decode cX4_search 0 = .ok (.iload_n 2, 1) := by decide +kernel
theorem dX4_search_1 : decode cX4_search 1 = .ok (.iconst 2, 1) := by decide +kernel
theorem dX4_search_2 : decode cX4_search 2 = .ok (.iload_n 3, 1) := by decide +kernel
theorem dX4_search_3 : decode cX4_search 3 = .ok (.aload_n 0, 1) := by decide +kernel
theorem dX4_search_4 : decode cX4_search 4 = .ok (.getfield 12, 3) := by decide +kernel
theorem dX4_search_7 : decode cX4_search 7 = .ok (.getfield 38, 3) := by decide +kernel
theorem dX4_search_10 : decode cX4_search 10 = .ok (.iload_n 1, 1) := by decide +kernel
theorem dX4_search_11 : decode cX4_search 11 = .ok (.isub, 1) := by decide +kernel
theorem dX4_search_12 : decode cX4_search 12 = .ok (.isub, 1) := by decide +kernel
theorem dX4_search_13 : decode cX4_search 13 = .ok (.invokestatic 79, 3) := by decide +kernel
theorem dX4_search_16 : decode cX4_search 16 = .ok (.imul, 1) := by decide +kernel
theorem dX4_search_17 : decode cX4_search 17 = .ok (.iadd, 1) := by decide +kernel
theorem dX4_search_18 : decode cX4_search 18 = .ok (.istore 4, 2) := by decide +kernel
theorem dX4_search_20 : decode cX4_search 20 = .ok (.iload 4, 2) := by decide +kernel
theorem dX4_search_22 : decode cX4_search 22 = .ok (.aload_n 0, 1) := by decide +kernel
theorem dX4_search_23 : decode cX4_search 23 = .ok (.getfield 46, 3) := by decide +kernel
theorem dX4_search_26 : decode cX4_search 26 = .ok (.if_icmp .lt 4, 3) := by decide +kernel
theorem dX4_search_29 : decode cX4_search 29 = .ok (.return_, 1) := by decide +kernel
theorem dX4_search_30 : decode cX4_search 30 = .ok (.iload_n 1, 1) := by decide +kernel
theorem dX4_search_31 : decode cX4_search 31 = .ok (.aload_n 0, 1) := by decide +kernel
theorem dX4_search_32 : decode cX4_search 32 = .ok (.getfield 12, 3) := by decide +kernel
theorem dX4_search_35 : decode cX4_search 35 = .ok (.getfield 38, 3) := by decide +kernel
theorem dX4_search_38 : decode cX4_search 38 = .ok (.if_icmp .ge 9, 3) := by decide +kernel
theorem dX4_search_41 : decode cX4_search 41 = .ok (.iload_n 1, 1) := by decide +kernel
theorem dX4_search_42 : decode cX4_search 42 = .ok (.bipush 6, 2) := by decide +kernel
theorem dX4_search_44 : decode cX4_search 44 = .ok (.if_icmp .lt 25, 3) := by decide +kernel
theorem dX4_search_47 : decode cX4_search 47 = .ok (.aload_n 0, 1) := by decide +kernel
theorem dX4_search_48 : decode cX4_search 48 = .ok (.iload 4, 2) := by decide +kernel
theorem dX4_search_50 : decode cX4_search 50 = .ok (.putfield 46, 3) := by decide +kernel
theorem dX4_search_53 : decode cX4_search 53 = .ok (.aload_n 0, 1) := by decide +kernel
theorem dX4_search_54 : decode cX4_search 54 = .ok (.getfield 21, 3) := by decide +kernel
theorem dX4_search_57 : decode cX4_search 57 = .ok (.iconst 0, 1) := by decide +kernel
theorem dX4_search_58 : decode cX4_search 58 = .ok (.aload_n 0, 1) := by decide +kernel
theorem dX4_search_59 : decode cX4_search 59 = .ok (.getfield 28, 3) := by decide +kernel
theorem dX4_search_62 : decode cX4_search 62 = .ok (.iconst 0, 1) := by decide +kernel
theorem dX4_search_63 : decode cX4_search 63 = .ok (.bipush 40, 2) := by decide +kernel
theorem dX4_search_65 : decode cX4_search 65 = .ok (.invokestatic 85, 3) := by decide +kernel
theorem dX4_search_68 : decode cX4_search 68 = .ok (.return_, 1) := by decide +kernel
theorem dX4_search_69 : decode cX4_search 69 = .ok (.iconst 1, 1) := by decide +kernel
theorem dX4_search_70 : decode cX4_search 70 = .ok (.istore 5, 2) := by decide +kernel
theorem dX4_search_72 : decode cX4_search 72 = .ok (.iload 5, 2) := by decide +kernel
theorem dX4_search_74 : decode cX4_search 74 = .ok (.aload_n 0, 1) := by decide +kernel
theorem dX4_search_75 : decode cX4_search 75 = .ok (.getfield 18, 3) := by decide +kernel
theorem dX4_search_78 : decode cX4_search 78 = .ok (.getfield 38, 3) := by decide +kernel
theorem dX4_search_81 : decode cX4_search 81 = .ok (.if_icmp .ge 83, 3) := by decide +kernel
theorem dX4_search_84 : decode cX4_search 84 = .ok (.aload_n 0, 1) := by decide +kernel
theorem dX4_search_85 : decode cX4_search 85 = .ok (.getfield 25, 3) := by decide +kernel
theorem dX4_search_88 : decode cX4_search 88 = .ok (.iload 5, 2) := by decide +kernel
theorem dX4_search_90 : decode cX4_search 90 = .ok (.iaload, 1) := by decide +kernel
theorem dX4_search_91 : decode cX4_search 91 = .ok (.iconst (-1), 1) := by decide +kernel
theorem dX4_search_92 : decode cX4_search 92 = .ok (.if_icmp .ne 66, 3) := by decide +kernel
theorem dX4_search_95 : decode cX4_search 95 = .ok (.aload_n 0, 1) := by decide +kernel
theorem dX4_search_96 : decode cX4_search 96 = .ok (.getfield 12, 3) := by decide +kernel
theorem dX4_search_99 : decode cX4_search 99 = .ok (.getfield 91, 3) := by decide +kernel
theorem dX4_search_102 : decode cX4_search 102 = .ok (.iload_n 1, 1) := by decide +kernel
theorem dX4_search_103 : decode cX4_search 103 = .ok (.iaload, 1) := by decide +kernel
theorem dX4_search_104 : decode cX4_search 104 = .ok (.aload_n 0, 1) := by decide +kernel
theorem dX4_search_105 : decode cX4_search 105 = .ok (.getfield 18, 3) := by decide +kernel
theorem dX4_search_108 : decode cX4_search 108 = .ok (.getfield 91, 3) := by decide +kernel
theorem dX4_search_111 : decode cX4_search 111 = .ok (.iload 5, 2) := by decide +kernel
theorem dX4_search_113 : decode cX4_search 113 = .ok (.iaload, 1) := by decide +kernel
theorem dX4_search_114 : decode cX4_search 114 = .ok (.if_icmp .ne 44, 3) := by decide +kernel
theorem dX4_search_117 : decode cX4_search 117 = .ok (.aload_n 0, 1) := by decide +kernel
theorem dX4_search_118 : decode cX4_search 118 = .ok (.iload_n 1, 1) := by decide +kernel
theorem dX4_search_119 : decode cX4_search 119 = .ok (.iload 5, 2) := by decide +kernel
theorem dX4_search_121 : decode cX4_search 121 = .ok (.invokevirtual 34, 3) := by decide +kernel
theorem dX4_search_124 : decode cX4_search 124 = .ok (.aload_n 0, 1) := by decide +kernel
theorem dX4_search_125 : decode cX4_search 125 = .ok (.iload_n 1, 1) := by decide +kernel
theorem dX4_search_126 : decode cX4_search 126 = .ok (.iconst 1, 1) := by decide +kernel
theorem dX4_search_127 : decode cX4_search 127 = .ok (.iadd, 1) := by decide +kernel
theorem dX4_search_128 : decode cX4_search 128 = .ok (.iload_n 2, 1) := by decide +kernel
theorem dX4_search_129 : decode cX4_search 129 = .ok (.aload_n 0, 1) := by decide +kernel
theorem dX4_search_130 : decode cX4_search 130 = .ok (.iload_n 1, 1) := by decide +kernel
theorem dX4_search_131 : decode cX4_search 131 = .ok (.iload 5, 2) := by decide +kernel
theorem dX4_search_133 : decode cX4_search 133 = .ok (.invokevirtual 49, 3) := by decide +kernel
theorem dX4_search_136 : decode cX4_search 136 = .ok (.iadd, 1) := by decide +kernel
theorem dX4_search_137 : decode cX4_search 137 = .ok (.iload_n 3, 1) := by decide +kernel
theorem dX4_search_138 : decode cX4_search 138 = .ok (.iconst 1, 1) := by decide +kernel
theorem dX4_search_139 : decode cX4_search 139 = .ok (.isub, 1) := by decide +kernel
theorem dX4_search_140 : decode cX4_search 140 = .ok (.invokevirtual 53, 3) := by decide +kernel
theorem dX4_search_143 : decode cX4_search 143 = .ok (.aload_n 0, 1) := by decide +kernel
theorem dX4_search_144 : decode cX4_search 144 = .ok (.getfield 21, 3) := by decide +kernel
theorem dX4_search_147 : decode cX4_search 147 = .ok (.iload_n 1, 1) := by decide +kernel
theorem dX4_search_148 : decode cX4_search 148 = .ok (.iconst (-1), 1) := by decide +kernel
theorem dX4_search_149 : decode cX4_search 149 = .ok (.iastore, 1) := by decide +kernel
theorem dX4_search_150 : decode cX4_search 150 = .ok (.aload_n 0, 1) := by decide +kernel
theorem dX4_search_151 : decode cX4_search 151 = .ok (.getfield 25, 3) := by decide +kernel
theorem dX4_search_154 : decode cX4_search 154 = .ok (.iload 5, 2) := by decide +kernel
theorem dX4_search_156 : decode cX4_search 156 = .ok (.iconst (-1), 1) := by decide +kernel
theorem dX4_search_157 : decode cX4_search 157 = .ok (.iastore, 1) := by decide +kernel
theorem dX4_search_158 : decode cX4_search 158 = .ok (.iinc 5 1, 3) := by decide +kernel
theorem dX4_search_161 : decode cX4_search 161 = .ok (.goto (-89), 3) := by decide +kernel
theorem dX4_search_164 : decode cX4_search 164 = .ok (.aload_n 0, 1) := by decide +kernel
theorem dX4_search_165 : decode cX4_search 165 = .ok (.iload_n 1, 1) := by decide +kernel
theorem dX4_search_166 : decode cX4_search 166 = .ok (.iconst 1, 1) := by decide +kernel
theorem dX4_search_167 : decode cX4_search 167 = .ok (.iadd, 1) := by decide +kernel
theorem dX4_search_168 : decode cX4_search 168 = .ok (.iload_n 2, 1) := by decide +kernel
theorem dX4_search_169 : decode cX4_search 169 = .ok (.iconst 2, 1) := by decide +kernel
theorem dX4_search_170 : decode cX4_search 170 = .ok (.iadd, 1) := by decide +kernel
theorem dX4_search_171 : decode cX4_search 171 = .ok (.iload_n 3, 1) := by decide +kernel

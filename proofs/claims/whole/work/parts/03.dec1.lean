theorem dJ6_bitCount_0f7a4_0 : decode cJ6_bitCount_0f7a4 0 = .ok (.iload_n 0, 1) := by decide +kernel
theorem dJ6_bitCount_0f7a4_1 : decode cJ6_bitCount_0f7a4 1 = .ok (.iload_n 0, 1) := by decide +kernel
theorem dJ6_bitCount_0f7a4_2 : decode cJ6_bitCount_0f7a4 2 = .ok (.iconst 1, 1) := by decide +kernel
theorem dJ6_bitCount_0f7a4_3 : decode cJ6_bitCount_0f7a4 3 = .ok (.iushr, 1) := by decide +kernel
theorem dJ6_bitCount_0f7a4_4 : decode cJ6_bitCount_0f7a4 4 = .ok (.ldc_w 265, 3) := by decide +kernel
theorem dJ6_bitCount_0f7a4_7 : decode cJ6_bitCount_0f7a4 7 = .ok (.iand, 1) := by decide +kernel
theorem dJ6_bitCount_0f7a4_8 : decode cJ6_bitCount_0f7a4 8 = .ok (.isub, 1) := by decide +kernel
theorem dJ6_bitCount_0f7a4_9 : decode cJ6_bitCount_0f7a4 9 = .ok (.istore_n 0, 1) := by decide +kernel
theorem dJ6_bitCount_0f7a4_10 : decode cJ6_bitCount_0f7a4 10 = .ok (.iload_n 0, 1) := by decide +kernel
theorem dJ6_bitCount_0f7a4_11 : decode cJ6_bitCount_0f7a4 11 = .ok (.ldc_w 266, 3) := by decide +kernel
theorem dJ6_bitCount_0f7a4_14 : decode cJ6_bitCount_0f7a4 14 = .ok (.iand, 1) := by decide +kernel
theorem dJ6_bitCount_0f7a4_15 : decode cJ6_bitCount_0f7a4 15 = .ok (.iload_n 0, 1) := by decide +kernel
theorem dJ6_bitCount_0f7a4_16 : decode cJ6_bitCount_0f7a4 16 = .ok (.iconst 2, 1) := by decide +kernel
theorem dJ6_bitCount_0f7a4_17 : decode cJ6_bitCount_0f7a4 17 = .ok (.iushr, 1) := by decide +kernel
theorem dJ6_bitCount_0f7a4_18 : decode cJ6_bitCount_0f7a4 18 = .ok (.ldc_w 266, 3) := by decide +kernel
theorem dJ6_bitCount_0f7a4_21 : decode cJ6_bitCount_0f7a4 21 = .ok (.iand, 1) := by decide +kernel
theorem dJ6_bitCount_0f7a4_22 : decode cJ6_bitCount_0f7a4 22 = .ok (.iadd, 1) := by decide +kernel
theorem dJ6_bitCount_0f7a4_23 : decode cJ6_bitCount_0f7a4 23 = .ok (.istore_n 0, 1) := by decide +kernel
theorem dJ6_bitCount_0f7a4_24 : decode cJ6_bitCount_0f7a4 24 = .ok (.iload_n 0, 1) := by decide +kernel
theorem dJ6_bitCount_0f7a4_25 : decode cJ6_bitCount_0f7a4 25 = .ok (.iload_n 0, 1) := by decide +kernel
theorem dJ6_bitCount_0f7a4_26 : decode cJ6_bitCount_0f7a4 26 = .ok (.iconst 4, 1) := by decide +kernel
theorem dJ6_bitCount_0f7a4_27 : decode cJ6_bitCount_0f7a4 27 = .ok (.iushr, 1) := by decide +kernel
theorem dJ6_bitCount_0f7a4_28 : decode cJ6_bitCount_0f7a4 28 = .ok (.iadd, 1) := by decide +kernel
theorem dJ6_bitCount_0f7a4_29 : decode cJ6_bitCount_0f7a4 29 = .ok (.ldc_w 267, 3) := by decide +kernel
theorem dJ6_bitCount_0f7a4_32 : decode cJ6_bitCount_0f7a4 32 = .ok (.iand, 1) := by decide +kernel
theorem dJ6_bitCount_0f7a4_33 : decode cJ6_bitCount_0f7a4 33 = .ok (.istore_n 0, 1) := by decide +kernel
theorem dJ6_bitCount_0f7a4_34 : decode cJ6_bitCount_0f7a4 34 = .ok (.iload_n 0, 1) := by decide +kernel
theorem dJ6_bitCount_0f7a4_35 : decode cJ6_bitCount_0f7a4 35 = .ok (.iload_n 0, 1) := by decide +kernel
theorem dJ6_bitCount_0f7a4_36 : decode cJ6_bitCount_0f7a4 36 = .ok (.bipush 8, 2) := by decide +kernel
theorem dJ6_bitCount_0f7a4_38 : decode cJ6_bitCount_0f7a4 38 = .ok (.iushr, 1) := by decide +kernel
theorem dJ6_bitCount_0f7a4_39 : decode cJ6_bitCount_0f7a4 39 = .ok (.iadd, 1) := by decide +kernel
theorem dJ6_bitCount_0f7a4_40 : decode cJ6_bitCount_0f7a4 40 = .ok (.istore_n 0, 1) := by decide +kernel
theorem dJ6_bitCount_0f7a4_41 : decode cJ6_bitCount_0f7a4 41 = .ok (.iload_n 0, 1) := by decide +kernel
theorem dJ6_bitCount_0f7a4_42 : decode cJ6_bitCount_0f7a4 42 = .ok (.iload_n 0, 1) := by decide +kernel
theorem dJ6_bitCount_0f7a4_43 : decode cJ6_bitCount_0f7a4 43 = .ok (.bipush 16, 2) := by decide +kernel
theorem dJ6_bitCount_0f7a4_45 : decode cJ6_bitCount_0f7a4 45 = .ok (.iushr, 1) := by decide +kernel
theorem dJ6_bitCount_0f7a4_46 : decode cJ6_bitCount_0f7a4 46 = .ok (.iadd, 1) := by decide +kernel
theorem dJ6_bitCount_0f7a4_47 : decode cJ6_bitCount_0f7a4 47 = .ok (.istore_n 0, 1) := by decide +kernel
theorem dJ6_bitCount_0f7a4_48 : decode cJ6_bitCount_0f7a4 48 = .ok (.iload_n 0, 1) := by decide +kernel
theorem dJ6_bitCount_0f7a4_49 : decode cJ6_bitCount_0f7a4 49 = .ok (.bipush 63, 2) := by decide +kernel
theorem dJ6_bitCount_0f7a4_51 : decode cJ6_bitCount_0f7a4 51 = .ok (.iand, 1) := by decide +kernel
theorem dJ6_bitCount_0f7a4_52 : decode cJ6_bitCount_0f7a4 52 = .ok (.ireturn, 1) := by decide +kernel
theorem dJ7_rangeCheck_23922_0 : decode cJ7_rangeCheck_23922 0 = .ok (.iload_n 1, 1) := by decide +kernel
theorem dJ7_rangeCheck_23922_1 : decode cJ7_rangeCheck_23922 1 = .ok (.iload_n 2, 1) := by decide +kernel
theorem dJ7_rangeCheck_23922_2 : decode cJ7_rangeCheck_23922 2 = .ok (.if_icmp .le 44, 3) := by decide +kernel
theorem dJ7_rangeCheck_23922_5 : decode cJ7_rangeCheck_23922 5 = .ok (.new 43, 3) := by decide +kernel
theorem dJ7_rangeCheck_23922_8 : decode cJ7_rangeCheck_23922 8 = .ok (.dup, 1) := by decide +kernel
theorem dJ7_rangeCheck_23922_9 : decode cJ7_rangeCheck_23922 9 = .ok (.new 45, 3) := by decide +kernel
theorem dJ7_rangeCheck_23922_12 : decode cJ7_rangeCheck_23922 12 = .ok (.dup, 1) := by decide +kernel
theorem dJ7_rangeCheck_23922_13 : decode cJ7_rangeCheck_23922 13 = .ok (.invokespecial 47, 3) := by decide +kernel
theorem dJ7_rangeCheck_23922_16 : decode cJ7_rangeCheck_23922 16 = .ok (.ldc 48, 2) := by decide +kernel
theorem dJ7_rangeCheck_23922_18 : decode cJ7_rangeCheck_23922 18 = .ok (.invokevirtual 50, 3) := by decide +kernel
theorem dJ7_rangeCheck_23922_21 : decode cJ7_rangeCheck_23922 21 = .ok (.iload_n 1, 1) := by decide +kernel
theorem dJ7_rangeCheck_23922_22 : decode cJ7_rangeCheck_23922 22 = .ok (.invokevirtual 54, 3) := by decide +kernel
theorem dJ7_rangeCheck_23922_25 : decode cJ7_rangeCheck_23922 25 = .ok (.ldc 57, 2) := by decide +kernel
theorem dJ7_rangeCheck_23922_27 : decode cJ7_rangeCheck_23922 27 = .ok (.invokevirtual 50, 3) := by decide +kernel
theorem dJ7_rangeCheck_23922_30 : decode cJ7_rangeCheck_23922 30 = .ok (.iload_n 2, 1) := by decide +kernel
theorem dJ7_rangeCheck_23922_31 : decode cJ7_rangeCheck_23922 31 = .ok (.invokevirtual 54, 3) := by decide +kernel
theorem dJ7_rangeCheck_23922_34 : decode cJ7_rangeCheck_23922 34 = .ok (.ldc 59, 2) := by decide +kernel
theorem dJ7_rangeCheck_23922_36 : decode cJ7_rangeCheck_23922 36 = .ok (.invokevirtual 50, 3) := by decide +kernel
theorem dJ7_rangeCheck_23922_39 : decode cJ7_rangeCheck_23922 39 = .ok (.invokevirtual 61, 3) := by decide +kernel
theorem dJ7_rangeCheck_23922_42 : decode cJ7_rangeCheck_23922 42 = .ok (.invokespecial 65, 3) := by decide +kernel
theorem dJ7_rangeCheck_23922_45 : decode cJ7_rangeCheck_23922 45 = .ok (.athrow, 1) := by decide +kernel
theorem dJ7_rangeCheck_23922_46 : decode cJ7_rangeCheck_23922 46 = .ok (.iload_n 1, 1) := by decide +kernel
theorem dJ7_rangeCheck_23922_47 : decode cJ7_rangeCheck_23922 47 = .ok (.ifCond .ge 12, 3) := by decide +kernel
theorem dJ7_rangeCheck_23922_50 : decode cJ7_rangeCheck_23922 50 = .ok (.new 68, 3) := by decide +kernel
theorem dJ7_rangeCheck_23922_53 : decode cJ7_rangeCheck_23922 53 = .ok (.dup, 1) := by decide +kernel
theorem dJ7_rangeCheck_23922_54 : decode cJ7_rangeCheck_23922 54 = .ok (.iload_n 1, 1) := by decide +kernel
theorem dJ7_rangeCheck_23922_55 : decode cJ7_rangeCheck_23922 55 = .ok (.invokespecial 70, 3) := by decide +kernel
theorem dJ7_rangeCheck_23922_58 : decode cJ7_rangeCheck_23922 58 = .ok (.athrow, 1) := by decide +kernel
theorem dJ7_rangeCheck_23922_59 : decode cJ7_rangeCheck_23922 59 = .ok (.iload_n 2, 1) := by decide +kernel
theorem dJ7_rangeCheck_23922_60 : decode cJ7_rangeCheck_23922 60 = .ok (.iload_n 0, 1) := by decide +kernel
theorem dJ7_rangeCheck_23922_61 : decode cJ7_rangeCheck_23922 61 = .ok (.if_icmp .le 12, 3) := by decide +kernel
theorem dJ7_rangeCheck_23922_64 : decode cJ7_rangeCheck_23922 64 = .ok (.new 68, 3) := by decide +kernel
theorem dJ7_rangeCheck_23922_67 : decode cJ7_rangeCheck_23922 67 = .ok (.dup, 1) := by decide +kernel
theorem dJ7_rangeCheck_23922_68 : decode cJ7_rangeCheck_23922 68 = .ok (.iload_n 2, 1) := by decide +kernel
theorem dJ7_rangeCheck_23922_69 : decode cJ7_rangeCheck_23922 69 = .ok (.invokespecial 70, 3) := by decide +kernel
theorem dJ7_rangeCheck_23922_72 : decode cJ7_rangeCheck_23922 72 = .ok (.athrow, 1) := by decide +kernel
theorem dJ7_rangeCheck_23922_73 : decode cJ7_rangeCheck_23922 73 = .ok (.return_, 1) := by decide +kernel
theorem dJ7_fill_53178_0 : decode cJ7_fill_53178 0 = .ok (.iconst 0, 1) := by decide +kernel
theorem dJ7_fill_53178_1 : decode cJ7_fill_53178 1 = .ok (.istore_n 2, 1) := by decide +kernel
theorem dJ7_fill_53178_2 : decode cJ7_fill_53178 2 = .ok (.aload_n 0, 1) := by decide +kernel
theorem dJ7_fill_53178_3 : decode cJ7_fill_53178 3 = .ok (.arraylength, 1) := by decide +kernel
theorem dJ7_fill_53178_4 : decode cJ7_fill_53178 4 = .ok (.istore_n 3, 1) := by decide +kernel
theorem dJ7_fill_53178_5 : decode cJ7_fill_53178 5 = .ok (.iload_n 2, 1) := by decide +kernel
theorem dJ7_fill_53178_6 : decode cJ7_fill_53178 6 = .ok (.iload_n 3, 1) := by decide +kernel
theorem dJ7_fill_53178_7 : decode cJ7_fill_53178 7 = .ok (.if_icmp .ge 13, 3) := by decide +kernel
theorem dJ7_fill_53178_10 : decode cJ7_fill_53178 10 = .ok (.aload_n 0, 1) := by decide +kernel
theorem dJ7_fill_53178_11 : decode cJ7_fill_53178 11 = .ok (.iload_n 2, 1) := by decide +kernel
theorem dJ7_fill_53178_12 : decode cJ7_fill_53178 12 = .ok (.iload_n 1, 1) := by decide +kernel
theorem dJ7_fill_53178_13 : decode cJ7_fill_53178 13 = .ok (.iastore, 1) := by decide +kernel
theorem dJ7_fill_53178_14 : decode cJ7_fill_53178 14 = .ok (.iinc 2 1, 3) := by decide +kernel
theorem dJ7_fill_53178_17 : decode cJ7_fill_53178 17 = .ok (.goto (-12), 3) := by decide +kernel
theorem dJ7_fill_53178_20 : decode cJ7_fill_53178 20 = .ok (.return_, 1) := by decide +kernel
theorem dJ7_fill_fda19_0 : decode cJ7_fill_fda19 0 = .ok (.aload_n 0, 1) := by decide +kernel
theorem dJ7_fill_fda19_1 : decode cJ7_fill_fda19 1 = .ok (.arraylength, 1) := by decide +kernel
theorem dJ7_fill_fda19_2 : decode cJ7_fill_fda19 2 = .ok (.iload_n 1, 1) := by decide +kernel
theorem dJ7_fill_fda19_3 : decode cJ7_fill_fda19 3 = .ok (.iload_n 2, 1) := by decide +kernel
theorem dJ7_fill_fda19_4 : decode cJ7_fill_fda19 4 = .ok (.invokestatic 13, 3) := by decide +kernel
theorem dJ7_fill_fda19_7 : decode cJ7_fill_fda19 7 = .ok (.iload_n 1, 1) := by decide +kernel
theorem dJ7_fill_fda19_8 : decode cJ7_fill_fda19 8 = .ok (.istore 4, 2) := by decide +kernel
theorem dJ7_fill_fda19_10 : decode cJ7_fill_fda19 10 = .ok (.iload 4, 2) := by decide +kernel
theorem dJ7_fill_fda19_12 : decode cJ7_fill_fda19 12 = .ok (.iload_n 2, 1) := by decide +kernel
theorem dJ7_fill_fda19_13 : decode cJ7_fill_fda19 13 = .ok (.if_icmp .ge 14, 3) := by decide +kernel
theorem dJ7_fill_fda19_16 : decode cJ7_fill_fda19 16 = .ok (.aload_n 0, 1) := by decide +kernel
theorem dJ7_fill_fda19_17 : decode cJ7_fill_fda19 17 = .ok (.iload 4, 2) := by decide +kernel
theorem dJ7_fill_fda19_19 : decode cJ7_fill_fda19 19 = .ok (.iload_n 3, 1) := by decide +kernel
theorem dJ7_fill_fda19_20 : decode cJ7_fill_fda19 20 = .ok (.iastore, 1) := by decide +kernel
theorem dJ7_fill_fda19_21 : decode cJ7_fill_fda19 21 = .ok (.iinc 4 1, 3) := by decide +kernel
theorem dJ7_fill_fda19_24 : decode cJ7_fill_fda19 24 = .ok (.goto (-14), 3) := by decide +kernel
theorem dJ7_fill_fda19_27 : decode cJ7_fill_fda19 27 = .ok (.return_, 1) := by decide +kernel
theorem dJ9_max_7cf53_0 : decode cJ9_max_7cf53 0 = .ok (.iload_n 0, 1) := by decide +kernel
theorem dJ9_max_7cf53_1 : decode cJ9_max_7cf53 1 = .ok (.iload_n 1, 1) := by decide +kernel
theorem dJ9_max_7cf53_2 : decode cJ9_max_7cf53 2 = .ok (.if_icmp .lt 7, 3) := by decide +kernel
theorem dJ9_max_7cf53_5 : decode cJ9_max_7cf53 5 = .ok (.iload_n 0, 1) := by decide +kernel
theorem dJ9_max_7cf53_6 : decode cJ9_max_7cf53 6 = .ok (.goto 4, 3) := by decide +kernel
theorem dJ9_max_7cf53_9 : decode cJ9_max_7cf53 9 = .ok (.iload_n 1, 1) := by decide +kernel
theorem dJ9_max_7cf53_10 : decode cJ9_max_7cf53 10 = .ok (.ireturn, 1) := by decide +kernel
theorem dJ9_min_7cf53_0 : decode cJ9_min_7cf53 0 = .ok (.iload_n 0, 1) := by decide +kernel
theorem dJ9_min_7cf53_1 : decode cJ9_min_7cf53 1 = .ok (.iload_n 1, 1) := by decide +kernel
theorem dJ9_min_7cf53_2 : decode cJ9_min_7cf53 2 = .ok (.if_icmp .gt 7, 3) := by decide +kernel
theorem dJ9_min_7cf53_5 : decode cJ9_min_7cf53 5 = .ok (.iload_n 0, 1) := by decide +kernel
theorem dJ9_min_7cf53_6 : decode cJ9_min_7cf53 6 = .ok (.goto 4, 3) := by decide +kernel
theorem dJ9_min_7cf53_9 : decode cJ9_min_7cf53 9 = .ok (.iload_n 1, 1) := by decide +kernel
theorem dJ9_min_7cf53_10 : decode cJ9_min_7cf53 10 = .ok (.ireturn, 1) := by decide +kernel
theorem dL_law_0 : decode cL_law 0 = .ok (.new 7, 3) := by decide +kernel
theorem dL_law_3 : decode cL_law 3 = .ok (.dup, 1) := by decide +kernel
theorem dL_law_4 : decode cL_law 4 = .ok (.invokespecial 9, 3) := by decide +kernel
theorem dL_law_7 : decode cL_law 7 = .ok (.astore_n 1, 1) := by decide +kernel
theorem dL_law_8 : decode cL_law 8 = .ok (.new 10, 3) := by decide +kernel
theorem dL_law_11 : decode cL_law 11 = .ok (.dup, 1) := by decide +kernel
theorem dL_law_12 : decode cL_law 12 = .ok (.invokespecial 12, 3) := by decide +kernel
theorem dL_law_15 : decode cL_law 15 = .ok (.astore_n 2, 1) := by decide +kernel
theorem dL_law_16 : decode cL_law 16 = .ok (.iconst 0, 1) := by decide +kernel
theorem dL_law_17 : decode cL_law 17 = .ok (.istore_n 3, 1) := by decide +kernel
theorem dL_law_18 : decode cL_law 18 = .ok (.iload_n 3, 1) := by decide +kernel
theorem dL_law_19 : decode cL_law 19 = .ok (.aload_n 0, 1) := by decide +kernel
theorem dL_law_20 : decode cL_law 20 = .ok (.arraylength, 1) := by decide +kernel
theorem dL_law_21 : decode cL_law 21 = .ok (.bipush 6, 2) := by decide +kernel
theorem dL_law_23 : decode cL_law 23 = .ok (.isub, 1) := by decide +kernel
theorem dL_law_24 : decode cL_law 24 = .ok (.if_icmp .gt 1064, 3) := by decide +kernel
theorem dL_law_27 : decode cL_law 27 = .ok (.aload_n 0, 1) := by decide +kernel
theorem dL_law_28 : decode cL_law 28 = .ok (.iload_n 3, 1) := by decide +kernel
theorem dL_law_29 : decode cL_law 29 = .ok (.iaload, 1) := by decide +kernel
theorem dL_law_30 : decode cL_law 30 = .ok (.bipush 31, 2) := by decide +kernel
theorem dL_law_32 : decode cL_law 32 = .ok (.iand, 1) := by decide +kernel
theorem dL_law_33 : decode cL_law 33 = .ok (.tableswitch 1049 0 28 #[131, 174, 187, 200, 263, 296, 319, 352, 385, 408, 451, 474, 507, 530, 563, 586, 619, 662, 685, 708, 731, 754, 797, 820, 873, 916, 979, 1012, 1035], 131) := by decide +kernel
theorem dL_law_164 : decode cL_law 164 = .ok (.aload_n 1, 1) := by decide +kernel
theorem dL_law_165 : decode cL_law 165 = .ok (.aload_n 0, 1) := by decide +kernel
theorem dL_law_166 : decode cL_law 166 = .ok (.iload_n 3, 1) := by decide +kernel
theorem dL_law_167 : decode cL_law 167 = .ok (.iconst 1, 1) := by decide +kernel
theorem dL_law_168 : decode cL_law 168 = .ok (.iadd, 1) := by decide +kernel
theorem dL_law_169 : decode cL_law 169 = .ok (.iaload, 1) := by decide +kernel
theorem dL_law_170 : decode cL_law 170 = .ok (.aload_n 0, 1) := by decide +kernel
theorem dL_law_171 : decode cL_law 171 = .ok (.iload_n 3, 1) := by decide +kernel
theorem dL_law_172 : decode cL_law 172 = .ok (.iconst 2, 1) := by decide +kernel
theorem dL_law_173 : decode cL_law 173 = .ok (.iadd, 1) := by decide +kernel
theorem dL_law_174 : decode cL_law 174 = .ok (.iaload, 1) := by decide +kernel
theorem dL_law_175 : decode cL_law 175 = .ok (.aload_n 0, 1) := by decide +kernel
theorem dL_law_176 : decode cL_law 176 = .ok (.iload_n 3, 1) := by decide +kernel
theorem dL_law_177 : decode cL_law 177 = .ok (.iconst 3, 1) := by decide +kernel
theorem dL_law_178 : decode cL_law 178 = .ok (.iadd, 1) := by decide +kernel
theorem dL_law_179 : decode cL_law 179 = .ok (.iaload, 1) := by decide +kernel
theorem dL_law_180 : decode cL_law 180 = .ok (.invokevirtual 13, 3) := by decide +kernel
theorem dL_law_183 : decode cL_law 183 = .ok (.aload_n 2, 1) := by decide +kernel
theorem dL_law_184 : decode cL_law 184 = .ok (.aload_n 0, 1) := by decide +kernel
theorem dL_law_185 : decode cL_law 185 = .ok (.iload_n 3, 1) := by decide +kernel
theorem dL_law_186 : decode cL_law 186 = .ok (.iconst 1, 1) := by decide +kernel
theorem dL_law_187 : decode cL_law 187 = .ok (.iadd, 1) := by decide +kernel
theorem dL_law_188 : decode cL_law 188 = .ok (.iaload, 1) := by decide +kernel
theorem dL_law_189 : decode cL_law 189 = .ok (.aload_n 0, 1) := by decide +kernel
theorem dL_law_190 : decode cL_law 190 = .ok (.iload_n 3, 1) := by decide +kernel
theorem dL_law_191 : decode cL_law 191 = .ok (.iconst 2, 1) := by decide +kernel
theorem dL_law_192 : decode cL_law 192 = .ok (.iadd, 1) := by decide +kernel
theorem dL_law_193 : decode cL_law 193 = .ok (.iaload, 1) := by decide +kernel
theorem dL_law_194 : decode cL_law 194 = .ok (.aload_n 0, 1) := by decide +kernel
theorem dL_law_195 : decode cL_law 195 = .ok (.iload_n 3, 1) := by decide +kernel
theorem dL_law_196 : decode cL_law 196 = .ok (.iconst 3, 1) := by decide +kernel
theorem dL_law_197 : decode cL_law 197 = .ok (.iadd, 1) := by decide +kernel
theorem dL_law_198 : decode cL_law 198 = .ok (.iaload, 1) := by decide +kernel
theorem dL_law_199 : decode cL_law 199 = .ok (.invokevirtual 17, 3) := by decide +kernel
theorem dL_law_202 : decode cL_law 202 = .ok (.if_icmp .eq 880, 3) := by decide +kernel
theorem dL_law_205 : decode cL_law 205 = .ok (.iconst 0, 1) := by decide +kernel
theorem dL_law_206 : decode cL_law 206 = .ok (.ireturn, 1) := by decide +kernel
theorem dL_law_207 : decode cL_law 207 = .ok (.aload_n 1, 1) := by decide +kernel
theorem dL_law_208 : decode cL_law 208 = .ok (.invokevirtual 18, 3) := by decide +kernel
theorem dL_law_211 : decode cL_law 211 = .ok (.aload_n 2, 1) := by decide +kernel
theorem dL_law_212 : decode cL_law 212 = .ok (.invokevirtual 22, 3) := by decide +kernel
theorem dL_law_215 : decode cL_law 215 = .ok (.if_icmp .eq 867, 3) := by decide +kernel
theorem dL_law_218 : decode cL_law 218 = .ok (.iconst 0, 1) := by decide +kernel
theorem dL_law_219 : decode cL_law 219 = .ok (.ireturn, 1) := by decide +kernel
theorem dL_law_220 : decode cL_law 220 = .ok (.aload_n 1, 1) := by decide +kernel
theorem dL_law_221 : decode cL_law 221 = .ok (.invokevirtual 23, 3) := by decide +kernel
theorem dL_law_224 : decode cL_law 224 = .ok (.aload_n 2, 1) := by decide +kernel
theorem dL_law_225 : decode cL_law 225 = .ok (.invokevirtual 26, 3) := by decide +kernel
theorem dL_law_228 : decode cL_law 228 = .ok (.if_icmp .eq 854, 3) := by decide +kernel
theorem dL_law_231 : decode cL_law 231 = .ok (.iconst 0, 1) := by decide +kernel
theorem dL_law_232 : decode cL_law 232 = .ok (.ireturn, 1) := by decide +kernel
theorem dL_law_233 : decode cL_law 233 = .ok (.aload_n 1, 1) := by decide +kernel
theorem dL_law_234 : decode cL_law 234 = .ok (.aload_n 0, 1) := by decide +kernel
theorem dL_law_235 : decode cL_law 235 = .ok (.iload_n 3, 1) := by decide +kernel
theorem dL_law_236 : decode cL_law 236 = .ok (.iconst 1, 1) := by decide +kernel
theorem dL_law_237 : decode cL_law 237 = .ok (.iadd, 1) := by decide +kernel
theorem dL_law_238 : decode cL_law 238 = .ok (.iaload, 1) := by decide +kernel
theorem dL_law_239 : decode cL_law 239 = .ok (.aload_n 0, 1) := by decide +kernel
theorem dL_law_240 : decode cL_law 240 = .ok (.iload_n 3, 1) := by decide +kernel
theorem dL_law_241 : decode cL_law 241 = .ok (.iconst 2, 1) := by decide +kernel
theorem dL_law_242 : decode cL_law 242 = .ok (.iadd, 1) := by decide +kernel
theorem dL_law_243 : decode cL_law 243 = .ok (.iaload, 1) := by decide +kernel
theorem dL_law_244 : decode cL_law 244 = .ok (.aload_n 0, 1) := by decide +kernel
theorem dL_law_245 : decode cL_law 245 = .ok (.iload_n 3, 1) := by decide +kernel
theorem dL_law_246 : decode cL_law 246 = .ok (.iconst 3, 1) := by decide +kernel
theorem dL_law_247 : decode cL_law 247 = .ok (.iadd, 1) := by decide +kernel
theorem dL_law_248 : decode cL_law 248 = .ok (.iaload, 1) := by decide +kernel
theorem dL_law_249 : decode cL_law 249 = .ok (.aload_n 0, 1) := by decide +kernel
theorem dL_law_250 : decode cL_law 250 = .ok (.iload_n 3, 1) := by decide +kernel
theorem dL_law_251 : decode cL_law 251 = .ok (.iconst 4, 1) := by decide +kernel
theorem dL_law_252 : decode cL_law 252 = .ok (.iadd, 1) := by decide +kernel
theorem dL_law_253 : decode cL_law 253 = .ok (.iaload, 1) := by decide +kernel
theorem dL_law_254 : decode cL_law 254 = .ok (.aload_n 0, 1) := by decide +kernel
theorem dL_law_255 : decode cL_law 255 = .ok (.iload_n 3, 1) := by decide +kernel
theorem dL_law_256 : decode cL_law 256 = .ok (.iconst 5, 1) := by decide +kernel
theorem dL_law_257 : decode cL_law 257 = .ok (.iadd, 1) := by decide +kernel
theorem dL_law_258 : decode cL_law 258 = .ok (.iaload, 1) := by decide +kernel
theorem dL_law_259 : decode cL_law 259 = .ok (.invokevirtual 27, 3) := by decide +kernel
theorem dL_law_262 : decode cL_law 262 = .ok (.aload_n 2, 1) := by decide +kernel
theorem dL_law_263 : decode cL_law 263 = .ok (.aload_n 0, 1) := by decide +kernel
theorem dL_law_264 : decode cL_law 264 = .ok (.iload_n 3, 1) := by decide +kernel
theorem dL_law_265 : decode cL_law 265 = .ok (.iconst 1, 1) := by decide +kernel
theorem dL_law_266 : decode cL_law 266 = .ok (.iadd, 1) := by decide +kernel
theorem dL_law_267 : decode cL_law 267 = .ok (.iaload, 1) := by decide +kernel
theorem dL_law_268 : decode cL_law 268 = .ok (.aload_n 0, 1) := by decide +kernel
theorem dL_law_269 : decode cL_law 269 = .ok (.iload_n 3, 1) := by decide +kernel
theorem dL_law_270 : decode cL_law 270 = .ok (.iconst 2, 1) := by decide +kernel
theorem dL_law_271 : decode cL_law 271 = .ok (.iadd, 1) := by decide +kernel
theorem dL_law_272 : decode cL_law 272 = .ok (.iaload, 1) := by decide +kernel
theorem dL_law_273 : decode cL_law 273 = .ok (.aload_n 0, 1) := by decide +kernel
theorem dL_law_274 : decode cL_law 274 = .ok (.iload_n 3, 1) := by decide +kernel
theorem dL_law_275 : decode cL_law 275 = .ok (.iconst 3, 1) := by decide +kernel
theorem dL_law_276 : decode cL_law 276 = .ok (.iadd, 1) := by decide +kernel
theorem dL_law_277 : decode cL_law 277 = .ok (.iaload, 1) := by decide +kernel
theorem dL_law_278 : decode cL_law 278 = .ok (.aload_n 0, 1) := by decide +kernel
theorem dL_law_279 : decode cL_law 279 = .ok (.iload_n 3, 1) := by decide +kernel
theorem dL_law_280 : decode cL_law 280 = .ok (.iconst 4, 1) := by decide +kernel
theorem dL_law_281 : decode cL_law 281 = .ok (.iadd, 1) := by decide +kernel
theorem dL_law_282 : decode cL_law 282 = .ok (.iaload, 1) := by decide +kernel
theorem dL_law_283 : decode cL_law 283 = .ok (.aload_n 0, 1) := by decide +kernel
theorem dL_law_284 : decode cL_law 284 = .ok (.iload_n 3, 1) := by decide +kernel
theorem dL_law_285 : decode cL_law 285 = .ok (.iconst 5, 1) := by decide +kernel
theorem dL_law_286 : decode cL_law 286 = .ok (.iadd, 1) := by decide +kernel
theorem dL_law_287 : decode cL_law 287 = .ok (.iaload, 1) := by decide +kernel
theorem dL_law_288 : decode cL_law 288 = .ok (.invokevirtual 31, 3) := by decide +kernel
theorem dL_law_291 : decode cL_law 291 = .ok (.if_icmp .eq 791, 3) := by decide +kernel
theorem dL_law_294 : decode cL_law 294 = .ok (.iconst 0, 1) := by decide +kernel
theorem dL_law_295 : decode cL_law 295 = .ok (.ireturn, 1) := by decide +kernel
theorem dL_law_296 : decode cL_law 296 = .ok (.aload_n 1, 1) := by decide +kernel
theorem dL_law_297 : decode cL_law 297 = .ok (.aload_n 0, 1) := by decide +kernel
theorem dL_law_298 : decode cL_law 298 = .ok (.iload_n 3, 1) := by decide +kernel
theorem dL_law_299 : decode cL_law 299 = .ok (.iconst 1, 1) := by decide +kernel
theorem dL_law_300 : decode cL_law 300 = .ok (.iadd, 1) := by decide +kernel
theorem dL_law_301 : decode cL_law 301 = .ok (.iaload, 1) := by decide +kernel
theorem dL_law_302 : decode cL_law 302 = .ok (.aload_n 0, 1) := by decide +kernel
theorem dL_law_303 : decode cL_law 303 = .ok (.iload_n 3, 1) := by decide +kernel
theorem dL_law_304 : decode cL_law 304 = .ok (.iconst 2, 1) := by decide +kernel
theorem dL_law_305 : decode cL_law 305 = .ok (.iadd, 1) := by decide +kernel
theorem dL_law_306 : decode cL_law 306 = .ok (.iaload, 1) := by decide +kernel
theorem dL_law_307 : decode cL_law 307 = .ok (.invokevirtual 32, 3) := by decide +kernel
theorem dL_law_310 : decode cL_law 310 = .ok (.aload_n 2, 1) := by decide +kernel
theorem dL_law_311 : decode cL_law 311 = .ok (.aload_n 0, 1) := by decide +kernel
theorem dL_law_312 : decode cL_law 312 = .ok (.iload_n 3, 1) := by decide +kernel
theorem dL_law_313 : decode cL_law 313 = .ok (.iconst 1, 1) := by decide +kernel
theorem dL_law_314 : decode cL_law 314 = .ok (.iadd, 1) := by decide +kernel
theorem dL_law_315 : decode cL_law 315 = .ok (.iaload, 1) := by decide +kernel
theorem dL_law_316 : decode cL_law 316 = .ok (.aload_n 0, 1) := by decide +kernel
theorem dL_law_317 : decode cL_law 317 = .ok (.iload_n 3, 1) := by decide +kernel
theorem dL_law_318 : decode cL_law 318 = .ok (.iconst 2, 1) := by decide +kernel
theorem dL_law_319 : decode cL_law 319 = .ok (.iadd, 1) := by decide +kernel
theorem dL_law_320 : decode cL_law 320 = .ok (.iaload, 1) := by decide +kernel
theorem dL_law_321 : decode cL_law 321 = .ok (.invokevirtual 36, 3) := by decide +kernel
theorem dL_law_324 : decode cL_law 324 = .ok (.if_icmp .eq 758, 3) := by decide +kernel
theorem dL_law_327 : decode cL_law 327 = .ok (.iconst 0, 1) := by decide +kernel
theorem dL_law_328 : decode cL_law 328 = .ok (.ireturn, 1) := by decide +kernel
theorem dL_law_329 : decode cL_law 329 = .ok (.aload_n 1, 1) := by decide +kernel
theorem dL_law_330 : decode cL_law 330 = .ok (.aload_n 0, 1) := by decide +kernel
theorem dL_law_331 : decode cL_law 331 = .ok (.iload_n 3, 1) := by decide +kernel
theorem dL_law_332 : decode cL_law 332 = .ok (.iconst 1, 1) := by decide +kernel
theorem dL_law_333 : decode cL_law 333 = .ok (.iadd, 1) := by decide +kernel
theorem dL_law_334 : decode cL_law 334 = .ok (.iaload, 1) := by decide +kernel
theorem dL_law_335 : decode cL_law 335 = .ok (.invokevirtual 37, 3) := by decide +kernel
theorem dL_law_338 : decode cL_law 338 = .ok (.aload_n 2, 1) := by decide +kernel
theorem dL_law_339 : decode cL_law 339 = .ok (.aload_n 0, 1) := by decide +kernel
theorem dL_law_340 : decode cL_law 340 = .ok (.iload_n 3, 1) := by decide +kernel
theorem dL_law_341 : decode cL_law 341 = .ok (.iconst 1, 1) := by decide +kernel
theorem dL_law_342 : decode cL_law 342 = .ok (.iadd, 1) := by decide +kernel
theorem dL_law_343 : decode cL_law 343 = .ok (.iaload, 1) := by decide +kernel
theorem dL_law_344 : decode cL_law 344 = .ok (.invokevirtual 41, 3) := by decide +kernel
theorem dL_law_347 : decode cL_law 347 = .ok (.if_icmp .eq 735, 3) := by decide +kernel
theorem dL_law_350 : decode cL_law 350 = .ok (.iconst 0, 1) := by decide +kernel
theorem dL_law_351 : decode cL_law 351 = .ok (.ireturn, 1) := by decide +kernel
theorem dL_law_352 : decode cL_law 352 = .ok (.aload_n 1, 1) := by decide +kernel
theorem dL_law_353 : decode cL_law 353 = .ok (.aload_n 0, 1) := by decide +kernel
theorem dL_law_354 : decode cL_law 354 = .ok (.iload_n 3, 1) := by decide +kernel
theorem dL_law_355 : decode cL_law 355 = .ok (.iconst 1, 1) := by decide +kernel
theorem dL_law_356 : decode cL_law 356 = .ok (.iadd, 1) := by decide +kernel
theorem dL_law_357 : decode cL_law 357 = .ok (.iaload, 1) := by decide +kernel
theorem dL_law_358 : decode cL_law 358 = .ok (.aload_n 0, 1) := by decide +kernel
theorem dL_law_359 : decode cL_law 359 = .ok (.iload_n 3, 1) := by decide +kernel
theorem dL_law_360 : decode cL_law 360 = .ok (.iconst 2, 1) := by decide +kernel
theorem dL_law_361 : decode cL_law 361 = .ok (.iadd, 1) := by decide +kernel
theorem dL_law_362 : decode cL_law 362 = .ok (.iaload, 1) := by decide +kernel
theorem dL_law_363 : decode cL_law 363 = .ok (.invokevirtual 42, 3) := by decide +kernel
theorem dL_law_366 : decode cL_law 366 = .ok (.aload_n 2, 1) := by decide +kernel
theorem dL_law_367 : decode cL_law 367 = .ok (.aload_n 0, 1) := by decide +kernel
theorem dL_law_368 : decode cL_law 368 = .ok (.iload_n 3, 1) := by decide +kernel
theorem dL_law_369 : decode cL_law 369 = .ok (.iconst 1, 1) := by decide +kernel
theorem dL_law_370 : decode cL_law 370 = .ok (.iadd, 1) := by decide +kernel
theorem dL_law_371 : decode cL_law 371 = .ok (.iaload, 1) := by decide +kernel
theorem dL_law_372 : decode cL_law 372 = .ok (.aload_n 0, 1) := by decide +kernel
theorem dL_law_373 : decode cL_law 373 = .ok (.iload_n 3, 1) := by decide +kernel
theorem dL_law_374 : decode cL_law 374 = .ok (.iconst 2, 1) := by decide +kernel
theorem dL_law_375 : decode cL_law 375 = .ok (.iadd, 1) := by decide +kernel
theorem dL_law_376 : decode cL_law 376 = .ok (.iaload, 1) := by decide +kernel
theorem dL_law_377 : decode cL_law 377 = .ok (.invokevirtual 45, 3) := by decide +kernel
theorem dL_law_380 : decode cL_law 380 = .ok (.if_icmp .eq 702, 3) := by decide +kernel
theorem dL_law_383 : decode cL_law 383 = .ok (.iconst 0, 1) := by decide +kernel
theorem dL_law_384 : decode cL_law 384 = .ok (.ireturn, 1) := by decide +kernel
theorem dL_law_385 : decode cL_law 385 = .ok (.aload_n 1, 1) := by decide +kernel
theorem dL_law_386 : decode cL_law 386 = .ok (.aload_n 0, 1) := by decide +kernel
theorem dL_law_387 : decode cL_law 387 = .ok (.iload_n 3, 1) := by decide +kernel
theorem dL_law_388 : decode cL_law 388 = .ok (.iconst 1, 1) := by decide +kernel
theorem dL_law_389 : decode cL_law 389 = .ok (.iadd, 1) := by decide +kernel
theorem dL_law_390 : decode cL_law 390 = .ok (.iaload, 1) := by decide +kernel
theorem dL_law_391 : decode cL_law 391 = .ok (.aload_n 0, 1) := by decide +kernel
theorem dL_law_392 : decode cL_law 392 = .ok (.iload_n 3, 1) := by decide +kernel
theorem dL_law_393 : decode cL_law 393 = .ok (.iconst 2, 1) := by decide +kernel
theorem dL_law_394 : decode cL_law 394 = .ok (.iadd, 1) := by decide +kernel
theorem dL_law_395 : decode cL_law 395 = .ok (.iaload, 1) := by decide +kernel
theorem dL_law_396 : decode cL_law 396 = .ok (.invokevirtual 46, 3) := by decide +kernel
theorem dL_law_399 : decode cL_law 399 = .ok (.aload_n 2, 1) := by decide +kernel
theorem dL_law_400 : decode cL_law 400 = .ok (.aload_n 0, 1) := by decide +kernel
theorem dL_law_401 : decode cL_law 401 = .ok (.iload_n 3, 1) := by decide +kernel
theorem dL_law_402 : decode cL_law 402 = .ok (.iconst 1, 1) := by decide +kernel
theorem dL_law_403 : decode cL_law 403 = .ok (.iadd, 1) := by decide +kernel
theorem dL_law_404 : decode cL_law 404 = .ok (.iaload, 1) := by decide +kernel
theorem dL_law_405 : decode cL_law 405 = .ok (.aload_n 0, 1) := by decide +kernel
theorem dL_law_406 : decode cL_law 406 = .ok (.iload_n 3, 1) := by decide +kernel
theorem dL_law_407 : decode cL_law 407 = .ok (.iconst 2, 1) := by decide +kernel
theorem dL_law_408 : decode cL_law 408 = .ok (.iadd, 1) := by decide +kernel
theorem dL_law_409 : decode cL_law 409 = .ok (.iaload, 1) := by decide +kernel
theorem dL_law_410 : decode cL_law 410 = .ok (.invokevirtual 49, 3) := by decide +kernel
theorem dL_law_413 : decode cL_law 413 = .ok (.if_icmp .eq 669, 3) := by decide +kernel
theorem dL_law_416 : decode cL_law 416 = .ok (.iconst 0, 1) := by decide +kernel
theorem dL_law_417 : decode cL_law 417 = .ok (.ireturn, 1) := by decide +kernel
theorem dL_law_418 : decode cL_law 418 = .ok (.aload_n 1, 1) := by decide +kernel
theorem dL_law_419 : decode cL_law 419 = .ok (.aload_n 0, 1) := by decide +kernel
theorem dL_law_420 : decode cL_law 420 = .ok (.iload_n 3, 1) := by decide +kernel
theorem dL_law_421 : decode cL_law 421 = .ok (.iconst 1, 1) := by decide +kernel
theorem dL_law_422 : decode cL_law 422 = .ok (.iadd, 1) := by decide +kernel
theorem dL_law_423 : decode cL_law 423 = .ok (.iaload, 1) := by decide +kernel
theorem dL_law_424 : decode cL_law 424 = .ok (.invokevirtual 50, 3) := by decide +kernel
theorem dL_law_427 : decode cL_law 427 = .ok (.aload_n 2, 1) := by decide +kernel
theorem dL_law_428 : decode cL_law 428 = .ok (.aload_n 0, 1) := by decide +kernel
theorem dL_law_429 : decode cL_law 429 = .ok (.iload_n 3, 1) := by decide +kernel
theorem dL_law_430 : decode cL_law 430 = .ok (.iconst 1, 1) := by decide +kernel
theorem dL_law_431 : decode cL_law 431 = .ok (.iadd, 1) := by decide +kernel
theorem dL_law_432 : decode cL_law 432 = .ok (.iaload, 1) := by decide +kernel
theorem dL_law_433 : decode cL_law 433 = .ok (.invokevirtual 53, 3) := by decide +kernel
theorem dL_law_436 : decode cL_law 436 = .ok (.if_icmp .eq 646, 3) := by decide +kernel
theorem dL_law_439 : decode cL_law 439 = .ok (.iconst 0, 1) := by decide +kernel
theorem dL_law_440 : decode cL_law 440 = .ok (.ireturn, 1) := by decide +kernel
theorem dL_law_441 : decode cL_law 441 = .ok (.aload_n 1, 1) := by decide +kernel
theorem dL_law_442 : decode cL_law 442 = .ok (.aload_n 0, 1) := by decide +kernel
theorem dL_law_443 : decode cL_law 443 = .ok (.iload_n 3, 1) := by decide +kernel
theorem dL_law_444 : decode cL_law 444 = .ok (.iconst 1, 1) := by decide +kernel
theorem dL_law_445 : decode cL_law 445 = .ok (.iadd, 1) := by decide +kernel
theorem dL_law_446 : decode cL_law 446 = .ok (.iaload, 1) := by decide +kernel
theorem dL_law_447 : decode cL_law 447 = .ok (.aload_n 0, 1) := by decide +kernel
theorem dL_law_448 : decode cL_law 448 = .ok (.iload_n 3, 1) := by decide +kernel
theorem dL_law_449 : decode cL_law 449 = .ok (.iconst 2, 1) := by decide +kernel
theorem dL_law_450 : decode cL_law 450 = .ok (.iadd, 1) := by decide +kernel
theorem dL_law_451 : decode cL_law 451 = .ok (.iaload, 1) := by decide +kernel
theorem dL_law_452 : decode cL_law 452 = .ok (.aload_n 0, 1) := by decide +kernel
theorem dL_law_453 : decode cL_law 453 = .ok (.iload_n 3, 1) := by decide +kernel
theorem dL_law_454 : decode cL_law 454 = .ok (.iconst 3, 1) := by decide +kernel
theorem dL_law_455 : decode cL_law 455 = .ok (.iadd, 1) := by decide +kernel
theorem dL_law_456 : decode cL_law 456 = .ok (.iaload, 1) := by decide +kernel
theorem dL_law_457 : decode cL_law 457 = .ok (.invokevirtual 54, 3) := by decide +kernel
theorem dL_law_460 : decode cL_law 460 = .ok (.aload_n 2, 1) := by decide +kernel
theorem dL_law_461 : decode cL_law 461 = .ok (.aload_n 0, 1) := by decide +kernel
theorem dL_law_462 : decode cL_law 462 = .ok (.iload_n 3, 1) := by decide +kernel
theorem dL_law_463 : decode cL_law 463 = .ok (.iconst 1, 1) := by decide +kernel
theorem dL_law_464 : decode cL_law 464 = .ok (.iadd, 1) := by decide +kernel
theorem dL_law_465 : decode cL_law 465 = .ok (.iaload, 1) := by decide +kernel
theorem dL_law_466 : decode cL_law 466 = .ok (.aload_n 0, 1) := by decide +kernel
theorem dL_law_467 : decode cL_law 467 = .ok (.iload_n 3, 1) := by decide +kernel
theorem dL_law_468 : decode cL_law 468 = .ok (.iconst 2, 1) := by decide +kernel
theorem dL_law_469 : decode cL_law 469 = .ok (.iadd, 1) := by decide +kernel
theorem dL_law_470 : decode cL_law 470 = .ok (.iaload, 1) := by decide +kernel
theorem dL_law_471 : decode cL_law 471 = .ok (.aload_n 0, 1) := by decide +kernel
theorem dL_law_472 : decode cL_law 472 = .ok (.iload_n 3, 1) := by decide +kernel
theorem dL_law_473 : decode cL_law 473 = .ok (.iconst 3, 1) := by decide +kernel
theorem dL_law_474 : decode cL_law 474 = .ok (.iadd, 1) := by decide +kernel
theorem dL_law_475 : decode cL_law 475 = .ok (.iaload, 1) := by decide +kernel
theorem dL_law_476 : decode cL_law 476 = .ok (.invokevirtual 57, 3) := by decide +kernel
theorem dL_law_479 : decode cL_law 479 = .ok (.if_icmp .eq 603, 3) := by decide +kernel
theorem dL_law_482 : decode cL_law 482 = .ok (.iconst 0, 1) := by decide +kernel
theorem dL_law_483 : decode cL_law 483 = .ok (.ireturn, 1) := by decide +kernel
theorem dL_law_484 : decode cL_law 484 = .ok (.aload_n 1, 1) := by decide +kernel
theorem dL_law_485 : decode cL_law 485 = .ok (.aload_n 0, 1) := by decide +kernel
theorem dL_law_486 : decode cL_law 486 = .ok (.iload_n 3, 1) := by decide +kernel
theorem dL_law_487 : decode cL_law 487 = .ok (.iconst 1, 1) := by decide +kernel
theorem dL_law_488 : decode cL_law 488 = .ok (.iadd, 1) := by decide +kernel
theorem dL_law_489 : decode cL_law 489 = .ok (.iaload, 1) := by decide +kernel
theorem dL_law_490 : decode cL_law 490 = .ok (.invokevirtual 58, 3) := by decide +kernel
theorem dL_law_493 : decode cL_law 493 = .ok (.aload_n 2, 1) := by decide +kernel
theorem dL_law_494 : decode cL_law 494 = .ok (.aload_n 0, 1) := by decide +kernel
theorem dL_law_495 : decode cL_law 495 = .ok (.iload_n 3, 1) := by decide +kernel
theorem dL_law_496 : decode cL_law 496 = .ok (.iconst 1, 1) := by decide +kernel
theorem dL_law_497 : decode cL_law 497 = .ok (.iadd, 1) := by decide +kernel
theorem dL_law_498 : decode cL_law 498 = .ok (.iaload, 1) := by decide +kernel
theorem dL_law_499 : decode cL_law 499 = .ok (.invokevirtual 61, 3) := by decide +kernel
theorem dL_law_502 : decode cL_law 502 = .ok (.if_icmp .eq 580, 3) := by decide +kernel
theorem dL_law_505 : decode cL_law 505 = .ok (.iconst 0, 1) := by decide +kernel
theorem dL_law_506 : decode cL_law 506 = .ok (.ireturn, 1) := by decide +kernel
theorem dL_law_507 : decode cL_law 507 = .ok (.aload_n 1, 1) := by decide +kernel
theorem dL_law_508 : decode cL_law 508 = .ok (.aload_n 0, 1) := by decide +kernel
theorem dL_law_509 : decode cL_law 509 = .ok (.iload_n 3, 1) := by decide +kernel
theorem dL_law_510 : decode cL_law 510 = .ok (.iconst 1, 1) := by decide +kernel
theorem dL_law_511 : decode cL_law 511 = .ok (.iadd, 1) := by decide +kernel
theorem dL_law_512 : decode cL_law 512 = .ok (.iaload, 1) := by decide +kernel
theorem dL_law_513 : decode cL_law 513 = .ok (.aload_n 0, 1) := by decide +kernel
theorem dL_law_514 : decode cL_law 514 = .ok (.iload_n 3, 1) := by decide +kernel
theorem dL_law_515 : decode cL_law 515 = .ok (.iconst 2, 1) := by decide +kernel
theorem dL_law_516 : decode cL_law 516 = .ok (.iadd, 1) := by decide +kernel
theorem dL_law_517 : decode cL_law 517 = .ok (.iaload, 1) := by decide +kernel
theorem dL_law_518 : decode cL_law 518 = .ok (.invokevirtual 62, 3) := by decide +kernel
theorem dL_law_521 : decode cL_law 521 = .ok (.aload_n 2, 1) := by decide +kernel
theorem dL_law_522 : decode cL_law 522 = .ok (.aload_n 0, 1) := by decide +kernel
theorem dL_law_523 : decode cL_law 523 = .ok (.iload_n 3, 1) := by decide +kernel
theorem dL_law_524 : decode cL_law 524 = .ok (.iconst 1, 1) := by decide +kernel
theorem dL_law_525 : decode cL_law 525 = .ok (.iadd, 1) := by decide +kernel
theorem dL_law_526 : decode cL_law 526 = .ok (.iaload, 1) := by decide +kernel
theorem dL_law_527 : decode cL_law 527 = .ok (.aload_n 0, 1) := by decide +kernel
theorem dL_law_528 : decode cL_law 528 = .ok (.iload_n 3, 1) := by decide +kernel
theorem dL_law_529 : decode cL_law 529 = .ok (.iconst 2, 1) := by decide +kernel
theorem dL_law_530 : decode cL_law 530 = .ok (.iadd, 1) := by decide +kernel
theorem dL_law_531 : decode cL_law 531 = .ok (.iaload, 1) := by decide +kernel
theorem dL_law_532 : decode cL_law 532 = .ok (.invokevirtual 65, 3) := by decide +kernel
theorem dL_law_535 : decode cL_law 535 = .ok (.if_icmp .eq 547, 3) := by decide +kernel
theorem dL_law_538 : decode cL_law 538 = .ok (.iconst 0, 1) := by decide +kernel
theorem dL_law_539 : decode cL_law 539 = .ok (.ireturn, 1) := by decide +kernel
theorem dL_law_540 : decode cL_law 540 = .ok (.aload_n 1, 1) := by decide +kernel
theorem dL_law_541 : decode cL_law 541 = .ok (.aload_n 0, 1) := by decide +kernel
theorem dL_law_542 : decode cL_law 542 = .ok (.iload_n 3, 1) := by decide +kernel
theorem dL_law_543 : decode cL_law 543 = .ok (.iconst 1, 1) := by decide +kernel
theorem dL_law_544 : decode cL_law 544 = .ok (.iadd, 1) := by decide +kernel
theorem dL_law_545 : decode cL_law 545 = .ok (.iaload, 1) := by decide +kernel
theorem dL_law_546 : decode cL_law 546 = .ok (.invokevirtual 66, 3) := by decide +kernel
theorem dL_law_549 : decode cL_law 549 = .ok (.aload_n 2, 1) := by decide +kernel
theorem dL_law_550 : decode cL_law 550 = .ok (.aload_n 0, 1) := by decide +kernel
theorem dL_law_551 : decode cL_law 551 = .ok (.iload_n 3, 1) := by decide +kernel
theorem dL_law_552 : decode cL_law 552 = .ok (.iconst 1, 1) := by decide +kernel
theorem dL_law_553 : decode cL_law 553 = .ok (.iadd, 1) := by decide +kernel
theorem dL_law_554 : decode cL_law 554 = .ok (.iaload, 1) := by decide +kernel
theorem dL_law_555 : decode cL_law 555 = .ok (.invokevirtual 69, 3) := by decide +kernel
theorem dL_law_558 : decode cL_law 558 = .ok (.if_icmp .eq 524, 3) := by decide +kernel
theorem dL_law_561 : decode cL_law 561 = .ok (.iconst 0, 1) := by decide +kernel
theorem dL_law_562 : decode cL_law 562 = .ok (.ireturn, 1) := by decide +kernel
theorem dL_law_563 : decode cL_law 563 = .ok (.aload_n 1, 1) := by decide +kernel
theorem dL_law_564 : decode cL_law 564 = .ok (.aload_n 0, 1) := by decide +kernel
theorem dL_law_565 : decode cL_law 565 = .ok (.iload_n 3, 1) := by decide +kernel
theorem dL_law_566 : decode cL_law 566 = .ok (.iconst 1, 1) := by decide +kernel
theorem dL_law_567 : decode cL_law 567 = .ok (.iadd, 1) := by decide +kernel
theorem dL_law_568 : decode cL_law 568 = .ok (.iaload, 1) := by decide +kernel
theorem dL_law_569 : decode cL_law 569 = .ok (.aload_n 0, 1) := by decide +kernel
theorem dL_law_570 : decode cL_law 570 = .ok (.iload_n 3, 1) := by decide +kernel
theorem dL_law_571 : decode cL_law 571 = .ok (.iconst 2, 1) := by decide +kernel
theorem dL_law_572 : decode cL_law 572 = .ok (.iadd, 1) := by decide +kernel
theorem dL_law_573 : decode cL_law 573 = .ok (.iaload, 1) := by decide +kernel
theorem dL_law_574 : decode cL_law 574 = .ok (.invokevirtual 70, 3) := by decide +kernel
theorem dL_law_577 : decode cL_law 577 = .ok (.aload_n 2, 1) := by decide +kernel
theorem dL_law_578 : decode cL_law 578 = .ok (.aload_n 0, 1) := by decide +kernel
theorem dL_law_579 : decode cL_law 579 = .ok (.iload_n 3, 1) := by decide +kernel
theorem dL_law_580 : decode cL_law 580 = .ok (.iconst 1, 1) := by decide +kernel
theorem dL_law_581 : decode cL_law 581 = .ok (.iadd, 1) := by decide +kernel
theorem dL_law_582 : decode cL_law 582 = .ok (.iaload, 1) := by decide +kernel
theorem dL_law_583 : decode cL_law 583 = .ok (.aload_n 0, 1) := by decide +kernel
theorem dL_law_584 : decode cL_law 584 = .ok (.iload_n 3, 1) := by decide +kernel
theorem dL_law_585 : decode cL_law 585 = .ok (.iconst 2, 1) := by decide +kernel
theorem dL_law_586 : decode cL_law 586 = .ok (.iadd, 1) := by decide +kernel
theorem dL_law_587 : decode cL_law 587 = .ok (.iaload, 1) := by decide +kernel
theorem dL_law_588 : decode cL_law 588 = .ok (.invokevirtual 73, 3) := by decide +kernel
theorem dL_law_591 : decode cL_law 591 = .ok (.if_icmp .eq 491, 3) := by decide +kernel
theorem dL_law_594 : decode cL_law 594 = .ok (.iconst 0, 1) := by decide +kernel
theorem dL_law_595 : decode cL_law 595 = .ok (.ireturn, 1) := by decide +kernel
theorem dL_law_596 : decode cL_law 596 = .ok (.aload_n 1, 1) := by decide +kernel
theorem dL_law_597 : decode cL_law 597 = .ok (.aload_n 0, 1) := by decide +kernel
theorem dL_law_598 : decode cL_law 598 = .ok (.iload_n 3, 1) := by decide +kernel
theorem dL_law_599 : decode cL_law 599 = .ok (.iconst 1, 1) := by decide +kernel
theorem dL_law_600 : decode cL_law 600 = .ok (.iadd, 1) := by decide +kernel
theorem dL_law_601 : decode cL_law 601 = .ok (.iaload, 1) := by decide +kernel
theorem dL_law_602 : decode cL_law 602 = .ok (.invokevirtual 74, 3) := by decide +kernel
theorem dL_law_605 : decode cL_law 605 = .ok (.aload_n 2, 1) := by decide +kernel
theorem dL_law_606 : decode cL_law 606 = .ok (.aload_n 0, 1) := by decide +kernel
theorem dL_law_607 : decode cL_law 607 = .ok (.iload_n 3, 1) := by decide +kernel
theorem dL_law_608 : decode cL_law 608 = .ok (.iconst 1, 1) := by decide +kernel
theorem dL_law_609 : decode cL_law 609 = .ok (.iadd, 1) := by decide +kernel
theorem dL_law_610 : decode cL_law 610 = .ok (.iaload, 1) := by decide +kernel
theorem dL_law_611 : decode cL_law 611 = .ok (.invokevirtual 77, 3) := by decide +kernel
theorem dL_law_614 : decode cL_law 614 = .ok (.if_icmp .eq 468, 3) := by decide +kernel
theorem dL_law_617 : decode cL_law 617 = .ok (.iconst 0, 1) := by decide +kernel
theorem dL_law_618 : decode cL_law 618 = .ok (.ireturn, 1) := by decide +kernel
theorem dL_law_619 : decode cL_law 619 = .ok (.aload_n 1, 1) := by decide +kernel
theorem dL_law_620 : decode cL_law 620 = .ok (.aload_n 0, 1) := by decide +kernel
theorem dL_law_621 : decode cL_law 621 = .ok (.iload_n 3, 1) := by decide +kernel
theorem dL_law_622 : decode cL_law 622 = .ok (.iconst 1, 1) := by decide +kernel
theorem dL_law_623 : decode cL_law 623 = .ok (.iadd, 1) := by decide +kernel
theorem dL_law_624 : decode cL_law 624 = .ok (.iaload, 1) := by decide +kernel
theorem dL_law_625 : decode cL_law 625 = .ok (.aload_n 0, 1) := by decide +kernel
theorem dL_law_626 : decode cL_law 626 = .ok (.iload_n 3, 1) := by decide +kernel
theorem dL_law_627 : decode cL_law 627 = .ok (.iconst 2, 1) := by decide +kernel
theorem dL_law_628 : decode cL_law 628 = .ok (.iadd, 1) := by decide +kernel
theorem dL_law_629 : decode cL_law 629 = .ok (.iaload, 1) := by decide +kernel
theorem dL_law_630 : decode cL_law 630 = .ok (.invokevirtual 78, 3) := by decide +kernel
theorem dL_law_633 : decode cL_law 633 = .ok (.aload_n 2, 1) := by decide +kernel
theorem dL_law_634 : decode cL_law 634 = .ok (.aload_n 0, 1) := by decide +kernel
theorem dL_law_635 : decode cL_law 635 = .ok (.iload_n 3, 1) := by decide +kernel
theorem dL_law_636 : decode cL_law 636 = .ok (.iconst 1, 1) := by decide +kernel
theorem dL_law_637 : decode cL_law 637 = .ok (.iadd, 1) := by decide +kernel
theorem dL_law_638 : decode cL_law 638 = .ok (.iaload, 1) := by decide +kernel
theorem dL_law_639 : decode cL_law 639 = .ok (.aload_n 0, 1) := by decide +kernel
theorem dL_law_640 : decode cL_law 640 = .ok (.iload_n 3, 1) := by decide +kernel
theorem dL_law_641 : decode cL_law 641 = .ok (.iconst 2, 1) := by decide +kernel
theorem dL_law_642 : decode cL_law 642 = .ok (.iadd, 1) := by decide +kernel
theorem dL_law_643 : decode cL_law 643 = .ok (.iaload, 1) := by decide +kernel
theorem dL_law_644 : decode cL_law 644 = .ok (.invokevirtual 81, 3) := by decide +kernel
theorem dL_law_647 : decode cL_law 647 = .ok (.if_icmp .eq 435, 3) := by decide +kernel
theorem dL_law_650 : decode cL_law 650 = .ok (.iconst 0, 1) := by decide +kernel
theorem dL_law_651 : decode cL_law 651 = .ok (.ireturn, 1) := by decide +kernel
theorem dL_law_652 : decode cL_law 652 = .ok (.aload_n 1, 1) := by decide +kernel
theorem dL_law_653 : decode cL_law 653 = .ok (.aload_n 0, 1) := by decide +kernel
theorem dL_law_654 : decode cL_law 654 = .ok (.iload_n 3, 1) := by decide +kernel
theorem dL_law_655 : decode cL_law 655 = .ok (.iconst 1, 1) := by decide +kernel
theorem dL_law_656 : decode cL_law 656 = .ok (.iadd, 1) := by decide +kernel
theorem dL_law_657 : decode cL_law 657 = .ok (.iaload, 1) := by decide +kernel
theorem dL_law_658 : decode cL_law 658 = .ok (.aload_n 0, 1) := by decide +kernel
theorem dL_law_659 : decode cL_law 659 = .ok (.iload_n 3, 1) := by decide +kernel
theorem dL_law_660 : decode cL_law 660 = .ok (.iconst 2, 1) := by decide +kernel
theorem dL_law_661 : decode cL_law 661 = .ok (.iadd, 1) := by decide +kernel
theorem dL_law_662 : decode cL_law 662 = .ok (.iaload, 1) := by decide +kernel
theorem dL_law_663 : decode cL_law 663 = .ok (.aload_n 0, 1) := by decide +kernel
theorem dL_law_664 : decode cL_law 664 = .ok (.iload_n 3, 1) := by decide +kernel
theorem dL_law_665 : decode cL_law 665 = .ok (.iconst 3, 1) := by decide +kernel
theorem dL_law_666 : decode cL_law 666 = .ok (.iadd, 1) := by decide +kernel
theorem dL_law_667 : decode cL_law 667 = .ok (.iaload, 1) := by decide +kernel
theorem dL_law_668 : decode cL_law 668 = .ok (.invokevirtual 82, 3) := by decide +kernel
theorem dL_law_671 : decode cL_law 671 = .ok (.aload_n 2, 1) := by decide +kernel
theorem dL_law_672 : decode cL_law 672 = .ok (.aload_n 0, 1) := by decide +kernel
theorem dL_law_673 : decode cL_law 673 = .ok (.iload_n 3, 1) := by decide +kernel
theorem dL_law_674 : decode cL_law 674 = .ok (.iconst 1, 1) := by decide +kernel
theorem dL_law_675 : decode cL_law 675 = .ok (.iadd, 1) := by decide +kernel
theorem dL_law_676 : decode cL_law 676 = .ok (.iaload, 1) := by decide +kernel
theorem dL_law_677 : decode cL_law 677 = .ok (.aload_n 0, 1) := by decide +kernel
theorem dL_law_678 : decode cL_law 678 = .ok (.iload_n 3, 1) := by decide +kernel
theorem dL_law_679 : decode cL_law 679 = .ok (.iconst 2, 1) := by decide +kernel
theorem dL_law_680 : decode cL_law 680 = .ok (.iadd, 1) := by decide +kernel
theorem dL_law_681 : decode cL_law 681 = .ok (.iaload, 1) := by decide +kernel
theorem dL_law_682 : decode cL_law 682 = .ok (.aload_n 0, 1) := by decide +kernel
theorem dL_law_683 : decode cL_law 683 = .ok (.iload_n 3, 1) := by decide +kernel
theorem dL_law_684 : decode cL_law 684 = .ok (.iconst 3, 1) := by decide +kernel
theorem dL_law_685 : decode cL_law 685 = .ok (.iadd, 1) := by decide +kernel
theorem dL_law_686 : decode cL_law 686 = .ok (.iaload, 1) := by decide +kernel
theorem dL_law_687 : decode cL_law 687 = .ok (.invokevirtual 85, 3) := by decide +kernel
theorem dL_law_690 : decode cL_law 690 = .ok (.if_icmp .eq 392, 3) := by decide +kernel
theorem dL_law_693 : decode cL_law 693 = .ok (.iconst 0, 1) := by decide +kernel
theorem dL_law_694 : decode cL_law 694 = .ok (.ireturn, 1) := by decide +kernel
theorem dL_law_695 : decode cL_law 695 = .ok (.aload_n 1, 1) := by decide +kernel
theorem dL_law_696 : decode cL_law 696 = .ok (.aload_n 0, 1) := by decide +kernel
theorem dL_law_697 : decode cL_law 697 = .ok (.iload_n 3, 1) := by decide +kernel
theorem dL_law_698 : decode cL_law 698 = .ok (.iconst 1, 1) := by decide +kernel
theorem dL_law_699 : decode cL_law 699 = .ok (.iadd, 1) := by decide +kernel
theorem dL_law_700 : decode cL_law 700 = .ok (.iaload, 1) := by decide +kernel
theorem dL_law_701 : decode cL_law 701 = .ok (.invokevirtual 86, 3) := by decide +kernel
theorem dL_law_704 : decode cL_law 704 = .ok (.aload_n 2, 1) := by decide +kernel
theorem dL_law_705 : decode cL_law 705 = .ok (.aload_n 0, 1) := by decide +kernel
theorem dL_law_706 : decode cL_law 706 = .ok (.iload_n 3, 1) := by decide +kernel
theorem dL_law_707 : decode cL_law 707 = .ok (.iconst 1, 1) := by decide +kernel
theorem dL_law_708 : decode cL_law 708 = .ok (.iadd, 1) := by decide +kernel
theorem dL_law_709 : decode cL_law 709 = .ok (.iaload, 1) := by decide +kernel
theorem dL_law_710 : decode cL_law 710 = .ok (.invokevirtual 89, 3) := by decide +kernel
theorem dL_law_713 : decode cL_law 713 = .ok (.if_icmp .eq 369, 3) := by decide +kernel
theorem dL_law_716 : decode cL_law 716 = .ok (.iconst 0, 1) := by decide +kernel
theorem dL_law_717 : decode cL_law 717 = .ok (.ireturn, 1) := by decide +kernel
theorem dL_law_718 : decode cL_law 718 = .ok (.aload_n 1, 1) := by decide +kernel
theorem dL_law_719 : decode cL_law 719 = .ok (.aload_n 0, 1) := by decide +kernel
theorem dL_law_720 : decode cL_law 720 = .ok (.iload_n 3, 1) := by decide +kernel
theorem dL_law_721 : decode cL_law 721 = .ok (.iconst 1, 1) := by decide +kernel
theorem dL_law_722 : decode cL_law 722 = .ok (.iadd, 1) := by decide +kernel
theorem dL_law_723 : decode cL_law 723 = .ok (.iaload, 1) := by decide +kernel
theorem dL_law_724 : decode cL_law 724 = .ok (.invokevirtual 90, 3) := by decide +kernel
theorem dL_law_727 : decode cL_law 727 = .ok (.aload_n 2, 1) := by decide +kernel
theorem dL_law_728 : decode cL_law 728 = .ok (.aload_n 0, 1) := by decide +kernel
theorem dL_law_729 : decode cL_law 729 = .ok (.iload_n 3, 1) := by decide +kernel
theorem dL_law_730 : decode cL_law 730 = .ok (.iconst 1, 1) := by decide +kernel
theorem dL_law_731 : decode cL_law 731 = .ok (.iadd, 1) := by decide +kernel
theorem dL_law_732 : decode cL_law 732 = .ok (.iaload, 1) := by decide +kernel
theorem dL_law_733 : decode cL_law 733 = .ok (.invokevirtual 93, 3) := by decide +kernel
theorem dL_law_736 : decode cL_law 736 = .ok (.if_icmp .eq 346, 3) := by decide +kernel
theorem dL_law_739 : decode cL_law 739 = .ok (.iconst 0, 1) := by decide +kernel
theorem dL_law_740 : decode cL_law 740 = .ok (.ireturn, 1) := by decide +kernel
theorem dL_law_741 : decode cL_law 741 = .ok (.aload_n 1, 1) := by decide +kernel
theorem dL_law_742 : decode cL_law 742 = .ok (.aload_n 0, 1) := by decide +kernel
theorem dL_law_743 : decode cL_law 743 = .ok (.iload_n 3, 1) := by decide +kernel
theorem dL_law_744 : decode cL_law 744 = .ok (.iconst 1, 1) := by decide +kernel
theorem dL_law_745 : decode cL_law 745 = .ok (.iadd, 1) := by decide +kernel
theorem dL_law_746 : decode cL_law 746 = .ok (.iaload, 1) := by decide +kernel
theorem dL_law_747 : decode cL_law 747 = .ok (.invokevirtual 94, 3) := by decide +kernel
theorem dL_law_750 : decode cL_law 750 = .ok (.aload_n 2, 1) := by decide +kernel
theorem dL_law_751 : decode cL_law 751 = .ok (.aload_n 0, 1) := by decide +kernel
theorem dL_law_752 : decode cL_law 752 = .ok (.iload_n 3, 1) := by decide +kernel
theorem dL_law_753 : decode cL_law 753 = .ok (.iconst 1, 1) := by decide +kernel
theorem dL_law_754 : decode cL_law 754 = .ok (.iadd, 1) := by decide +kernel
theorem dL_law_755 : decode cL_law 755 = .ok (.iaload, 1) := by decide +kernel
theorem dL_law_756 : decode cL_law 756 = .ok (.invokevirtual 97, 3) := by decide +kernel
theorem dL_law_759 : decode cL_law 759 = .ok (.if_icmp .eq 323, 3) := by decide +kernel
theorem dL_law_762 : decode cL_law 762 = .ok (.iconst 0, 1) := by decide +kernel
theorem dL_law_763 : decode cL_law 763 = .ok (.ireturn, 1) := by decide +kernel
theorem dL_law_764 : decode cL_law 764 = .ok (.aload_n 1, 1) := by decide +kernel
theorem dL_law_765 : decode cL_law 765 = .ok (.aload_n 0, 1) := by decide +kernel
theorem dL_law_766 : decode cL_law 766 = .ok (.iload_n 3, 1) := by decide +kernel
theorem dL_law_767 : decode cL_law 767 = .ok (.iconst 1, 1) := by decide +kernel
theorem dL_law_768 : decode cL_law 768 = .ok (.iadd, 1) := by decide +kernel
theorem dL_law_769 : decode cL_law 769 = .ok (.iaload, 1) := by decide +kernel
theorem dL_law_770 : decode cL_law 770 = .ok (.invokevirtual 98, 3) := by decide +kernel
theorem dL_law_773 : decode cL_law 773 = .ok (.aload_n 2, 1) := by decide +kernel
theorem dL_law_774 : decode cL_law 774 = .ok (.aload_n 0, 1) := by decide +kernel
theorem dL_law_775 : decode cL_law 775 = .ok (.iload_n 3, 1) := by decide +kernel
theorem dL_law_776 : decode cL_law 776 = .ok (.iconst 1, 1) := by decide +kernel
theorem dL_law_777 : decode cL_law 777 = .ok (.iadd, 1) := by decide +kernel
theorem dL_law_778 : decode cL_law 778 = .ok (.iaload, 1) := by decide +kernel
theorem dL_law_779 : decode cL_law 779 = .ok (.invokevirtual 101, 3) := by decide +kernel
theorem dL_law_782 : decode cL_law 782 = .ok (.if_icmp .eq 300, 3) := by decide +kernel
theorem dL_law_785 : decode cL_law 785 = .ok (.iconst 0, 1) := by decide +kernel
theorem dL_law_786 : decode cL_law 786 = .ok (.ireturn, 1) := by decide +kernel
theorem dL_law_787 : decode cL_law 787 = .ok (.aload_n 1, 1) := by decide +kernel
theorem dL_law_788 : decode cL_law 788 = .ok (.aload_n 0, 1) := by decide +kernel
theorem dL_law_789 : decode cL_law 789 = .ok (.iload_n 3, 1) := by decide +kernel
theorem dL_law_790 : decode cL_law 790 = .ok (.iconst 1, 1) := by decide +kernel
theorem dL_law_791 : decode cL_law 791 = .ok (.iadd, 1) := by decide +kernel
theorem dL_law_792 : decode cL_law 792 = .ok (.iaload, 1) := by decide +kernel
theorem dL_law_793 : decode cL_law 793 = .ok (.aload_n 0, 1) := by decide +kernel
theorem dL_law_794 : decode cL_law 794 = .ok (.iload_n 3, 1) := by decide +kernel
theorem dL_law_795 : decode cL_law 795 = .ok (.iconst 2, 1) := by decide +kernel
theorem dL_law_796 : decode cL_law 796 = .ok (.iadd, 1) := by decide +kernel
theorem dL_law_797 : decode cL_law 797 = .ok (.iaload, 1) := by decide +kernel
theorem dL_law_798 : decode cL_law 798 = .ok (.aload_n 0, 1) := by decide +kernel
theorem dL_law_799 : decode cL_law 799 = .ok (.iload_n 3, 1) := by decide +kernel
theorem dL_law_800 : decode cL_law 800 = .ok (.iconst 3, 1) := by decide +kernel
theorem dL_law_801 : decode cL_law 801 = .ok (.iadd, 1) := by decide +kernel
theorem dL_law_802 : decode cL_law 802 = .ok (.iaload, 1) := by decide +kernel
theorem dL_law_803 : decode cL_law 803 = .ok (.invokevirtual 102, 3) := by decide +kernel
theorem dL_law_806 : decode cL_law 806 = .ok (.aload_n 2, 1) := by decide +kernel
theorem dL_law_807 : decode cL_law 807 = .ok (.aload_n 0, 1) := by decide +kernel
theorem dL_law_808 : decode cL_law 808 = .ok (.iload_n 3, 1) := by decide +kernel
theorem dL_law_809 : decode cL_law 809 = .ok (.iconst 1, 1) := by decide +kernel
theorem dL_law_810 : decode cL_law 810 = .ok (.iadd, 1) := by decide +kernel
theorem dL_law_811 : decode cL_law 811 = .ok (.iaload, 1) := by decide +kernel
theorem dL_law_812 : decode cL_law 812 = .ok (.aload_n 0, 1) := by decide +kernel
theorem dL_law_813 : decode cL_law 813 = .ok (.iload_n 3, 1) := by decide +kernel
theorem dL_law_814 : decode cL_law 814 = .ok (.iconst 2, 1) := by decide +kernel
theorem dL_law_815 : decode cL_law 815 = .ok (.iadd, 1) := by decide +kernel
theorem dL_law_816 : decode cL_law 816 = .ok (.iaload, 1) := by decide +kernel
theorem dL_law_817 : decode cL_law 817 = .ok (.aload_n 0, 1) := by decide +kernel
theorem dL_law_818 : decode cL_law 818 = .ok (.iload_n 3, 1) := by decide +kernel
theorem dL_law_819 : decode cL_law 819 = .ok (.iconst 3, 1) := by decide +kernel
theorem dL_law_820 : decode cL_law 820 = .ok (.iadd, 1) := by decide +kernel
theorem dL_law_821 : decode cL_law 821 = .ok (.iaload, 1) := by decide +kernel
theorem dL_law_822 : decode cL_law 822 = .ok (.invokevirtual 105, 3) := by decide +kernel
theorem dL_law_825 : decode cL_law 825 = .ok (.if_icmp .eq 257, 3) := by decide +kernel
theorem dL_law_828 : decode cL_law 828 = .ok (.iconst 0, 1) := by decide +kernel
theorem dL_law_829 : decode cL_law 829 = .ok (.ireturn, 1) := by decide +kernel
theorem dL_law_830 : decode cL_law 830 = .ok (.aload_n 1, 1) := by decide +kernel
theorem dL_law_831 : decode cL_law 831 = .ok (.aload_n 0, 1) := by decide +kernel
theorem dL_law_832 : decode cL_law 832 = .ok (.iload_n 3, 1) := by decide +kernel
theorem dL_law_833 : decode cL_law 833 = .ok (.iconst 1, 1) := by decide +kernel
theorem dL_law_834 : decode cL_law 834 = .ok (.iadd, 1) := by decide +kernel
theorem dL_law_835 : decode cL_law 835 = .ok (.iaload, 1) := by decide +kernel
theorem dL_law_836 : decode cL_law 836 = .ok (.invokevirtual 106, 3) := by decide +kernel
theorem dL_law_839 : decode cL_law 839 = .ok (.aload_n 2, 1) := by decide +kernel
theorem dL_law_840 : decode cL_law 840 = .ok (.aload_n 0, 1) := by decide +kernel
theorem dL_law_841 : decode cL_law 841 = .ok (.iload_n 3, 1) := by decide +kernel
theorem dL_law_842 : decode cL_law 842 = .ok (.iconst 1, 1) := by decide +kernel
theorem dL_law_843 : decode cL_law 843 = .ok (.iadd, 1) := by decide +kernel
theorem dL_law_844 : decode cL_law 844 = .ok (.iaload, 1) := by decide +kernel
theorem dL_law_845 : decode cL_law 845 = .ok (.invokevirtual 109, 3) := by decide +kernel
theorem dL_law_848 : decode cL_law 848 = .ok (.if_icmp .eq 234, 3) := by decide +kernel
theorem dL_law_851 : decode cL_law 851 = .ok (.iconst 0, 1) := by decide +kernel
theorem dL_law_852 : decode cL_law 852 = .ok (.ireturn, 1) := by decide +kernel
theorem dL_law_853 : decode cL_law 853 = .ok (.aload_n 1, 1) := by decide +kernel
theorem dL_law_854 : decode cL_law 854 = .ok (.aload_n 0, 1) := by decide +kernel
theorem dL_law_855 : decode cL_law 855 = .ok (.iload_n 3, 1) := by decide +kernel
theorem dL_law_856 : decode cL_law 856 = .ok (.iconst 1, 1) := by decide +kernel
theorem dL_law_857 : decode cL_law 857 = .ok (.iadd, 1) := by decide +kernel
theorem dL_law_858 : decode cL_law 858 = .ok (.iaload, 1) := by decide +kernel
theorem dL_law_859 : decode cL_law 859 = .ok (.aload_n 0, 1) := by decide +kernel
theorem dL_law_860 : decode cL_law 860 = .ok (.iload_n 3, 1) := by decide +kernel
theorem dL_law_861 : decode cL_law 861 = .ok (.iconst 2, 1) := by decide +kernel
theorem dL_law_862 : decode cL_law 862 = .ok (.iadd, 1) := by decide +kernel
theorem dL_law_863 : decode cL_law 863 = .ok (.iaload, 1) := by decide +kernel
theorem dL_law_864 : decode cL_law 864 = .ok (.aload_n 0, 1) := by decide +kernel
theorem dL_law_865 : decode cL_law 865 = .ok (.iload_n 3, 1) := by decide +kernel
theorem dL_law_866 : decode cL_law 866 = .ok (.iconst 3, 1) := by decide +kernel
theorem dL_law_867 : decode cL_law 867 = .ok (.iadd, 1) := by decide +kernel
theorem dL_law_868 : decode cL_law 868 = .ok (.iaload, 1) := by decide +kernel
theorem dL_law_869 : decode cL_law 869 = .ok (.aload_n 0, 1) := by decide +kernel
theorem dL_law_870 : decode cL_law 870 = .ok (.iload_n 3, 1) := by decide +kernel
theorem dL_law_871 : decode cL_law 871 = .ok (.iconst 4, 1) := by decide +kernel
theorem dL_law_872 : decode cL_law 872 = .ok (.iadd, 1) := by decide +kernel
theorem dL_law_873 : decode cL_law 873 = .ok (.iaload, 1) := by decide +kernel
theorem dL_law_874 : decode cL_law 874 = .ok (.invokevirtual 110, 3) := by decide +kernel
theorem dL_law_877 : decode cL_law 877 = .ok (.aload_n 2, 1) := by decide +kernel
theorem dL_law_878 : decode cL_law 878 = .ok (.aload_n 0, 1) := by decide +kernel
theorem dL_law_879 : decode cL_law 879 = .ok (.iload_n 3, 1) := by decide +kernel
theorem dL_law_880 : decode cL_law 880 = .ok (.iconst 1, 1) := by decide +kernel
theorem dL_law_881 : decode cL_law 881 = .ok (.iadd, 1) := by decide +kernel
theorem dL_law_882 : decode cL_law 882 = .ok (.iaload, 1) := by decide +kernel
theorem dL_law_883 : decode cL_law 883 = .ok (.aload_n 0, 1) := by decide +kernel
theorem dL_law_884 : decode cL_law 884 = .ok (.iload_n 3, 1) := by decide +kernel
theorem dL_law_885 : decode cL_law 885 = .ok (.iconst 2, 1) := by decide +kernel
theorem dL_law_886 : decode cL_law 886 = .ok (.iadd, 1) := by decide +kernel
theorem dL_law_887 : decode cL_law 887 = .ok (.iaload, 1) := by decide +kernel
theorem dL_law_888 : decode cL_law 888 = .ok (.aload_n 0, 1) := by decide +kernel
theorem dL_law_889 : decode cL_law 889 = .ok (.iload_n 3, 1) := by decide +kernel
theorem dL_law_890 : decode cL_law 890 = .ok (.iconst 3, 1) := by decide +kernel
theorem dL_law_891 : decode cL_law 891 = .ok (.iadd, 1) := by decide +kernel
theorem dL_law_892 : decode cL_law 892 = .ok (.iaload, 1) := by decide +kernel
theorem dL_law_893 : decode cL_law 893 = .ok (.aload_n 0, 1) := by decide +kernel
theorem dL_law_894 : decode cL_law 894 = .ok (.iload_n 3, 1) := by decide +kernel
theorem dL_law_895 : decode cL_law 895 = .ok (.iconst 4, 1) := by decide +kernel
theorem dL_law_896 : decode cL_law 896 = .ok (.iadd, 1) := by decide +kernel
theorem dL_law_897 : decode cL_law 897 = .ok (.iaload, 1) := by decide +kernel
theorem dL_law_898 : decode cL_law 898 = .ok (.invokevirtual 114, 3) := by decide +kernel
theorem dL_law_901 : decode cL_law 901 = .ok (.if_icmp .eq 181, 3) := by decide +kernel
theorem dL_law_904 : decode cL_law 904 = .ok (.iconst 0, 1) := by decide +kernel
theorem dL_law_905 : decode cL_law 905 = .ok (.ireturn, 1) := by decide +kernel
theorem dL_law_906 : decode cL_law 906 = .ok (.aload_n 1, 1) := by decide +kernel
theorem dL_law_907 : decode cL_law 907 = .ok (.aload_n 0, 1) := by decide +kernel
theorem dL_law_908 : decode cL_law 908 = .ok (.iload_n 3, 1) := by decide +kernel
theorem dL_law_909 : decode cL_law 909 = .ok (.iconst 1, 1) := by decide +kernel
theorem dL_law_910 : decode cL_law 910 = .ok (.iadd, 1) := by decide +kernel
theorem dL_law_911 : decode cL_law 911 = .ok (.iaload, 1) := by decide +kernel
theorem dL_law_912 : decode cL_law 912 = .ok (.aload_n 0, 1) := by decide +kernel
theorem dL_law_913 : decode cL_law 913 = .ok (.iload_n 3, 1) := by decide +kernel
theorem dL_law_914 : decode cL_law 914 = .ok (.iconst 2, 1) := by decide +kernel
theorem dL_law_915 : decode cL_law 915 = .ok (.iadd, 1) := by decide +kernel
theorem dL_law_916 : decode cL_law 916 = .ok (.iaload, 1) := by decide +kernel
theorem dL_law_917 : decode cL_law 917 = .ok (.aload_n 0, 1) := by decide +kernel
theorem dL_law_918 : decode cL_law 918 = .ok (.iload_n 3, 1) := by decide +kernel
theorem dL_law_919 : decode cL_law 919 = .ok (.iconst 3, 1) := by decide +kernel
theorem dL_law_920 : decode cL_law 920 = .ok (.iadd, 1) := by decide +kernel
theorem dL_law_921 : decode cL_law 921 = .ok (.iaload, 1) := by decide +kernel
theorem dL_law_922 : decode cL_law 922 = .ok (.invokevirtual 115, 3) := by decide +kernel
theorem dL_law_925 : decode cL_law 925 = .ok (.aload_n 2, 1) := by decide +kernel
theorem dL_law_926 : decode cL_law 926 = .ok (.aload_n 0, 1) := by decide +kernel
theorem dL_law_927 : decode cL_law 927 = .ok (.iload_n 3, 1) := by decide +kernel
theorem dL_law_928 : decode cL_law 928 = .ok (.iconst 1, 1) := by decide +kernel
theorem dL_law_929 : decode cL_law 929 = .ok (.iadd, 1) := by decide +kernel
theorem dL_law_930 : decode cL_law 930 = .ok (.iaload, 1) := by decide +kernel
theorem dL_law_931 : decode cL_law 931 = .ok (.aload_n 0, 1) := by decide +kernel
theorem dL_law_932 : decode cL_law 932 = .ok (.iload_n 3, 1) := by decide +kernel
theorem dL_law_933 : decode cL_law 933 = .ok (.iconst 2, 1) := by decide +kernel
theorem dL_law_934 : decode cL_law 934 = .ok (.iadd, 1) := by decide +kernel
theorem dL_law_935 : decode cL_law 935 = .ok (.iaload, 1) := by decide +kernel
theorem dL_law_936 : decode cL_law 936 = .ok (.aload_n 0, 1) := by decide +kernel
theorem dL_law_937 : decode cL_law 937 = .ok (.iload_n 3, 1) := by decide +kernel
theorem dL_law_938 : decode cL_law 938 = .ok (.iconst 3, 1) := by decide +kernel
theorem dL_law_939 : decode cL_law 939 = .ok (.iadd, 1) := by decide +kernel
theorem dL_law_940 : decode cL_law 940 = .ok (.iaload, 1) := by decide +kernel
theorem dL_law_941 : decode cL_law 941 = .ok (.invokevirtual 118, 3) := by decide +kernel
theorem dL_law_944 : decode cL_law 944 = .ok (.if_icmp .eq 138, 3) := by decide +kernel
theorem dL_law_947 : decode cL_law 947 = .ok (.iconst 0, 1) := by decide +kernel
theorem dL_law_948 : decode cL_law 948 = .ok (.ireturn, 1) := by decide +kernel
theorem dL_law_949 : decode cL_law 949 = .ok (.aload_n 1, 1) := by decide +kernel
theorem dL_law_950 : decode cL_law 950 = .ok (.aload_n 0, 1) := by decide +kernel
theorem dL_law_951 : decode cL_law 951 = .ok (.iload_n 3, 1) := by decide +kernel
theorem dL_law_952 : decode cL_law 952 = .ok (.iconst 1, 1) := by decide +kernel
theorem dL_law_953 : decode cL_law 953 = .ok (.iadd, 1) := by decide +kernel
theorem dL_law_954 : decode cL_law 954 = .ok (.iaload, 1) := by decide +kernel
theorem dL_law_955 : decode cL_law 955 = .ok (.aload_n 0, 1) := by decide +kernel
theorem dL_law_956 : decode cL_law 956 = .ok (.iload_n 3, 1) := by decide +kernel
theorem dL_law_957 : decode cL_law 957 = .ok (.iconst 2, 1) := by decide +kernel
theorem dL_law_958 : decode cL_law 958 = .ok (.iadd, 1) := by decide +kernel
theorem dL_law_959 : decode cL_law 959 = .ok (.iaload, 1) := by decide +kernel
theorem dL_law_960 : decode cL_law 960 = .ok (.aload_n 0, 1) := by decide +kernel
theorem dL_law_961 : decode cL_law 961 = .ok (.iload_n 3, 1) := by decide +kernel
theorem dL_law_962 : decode cL_law 962 = .ok (.iconst 3, 1) := by decide +kernel
theorem dL_law_963 : decode cL_law 963 = .ok (.iadd, 1) := by decide +kernel
theorem dL_law_964 : decode cL_law 964 = .ok (.iaload, 1) := by decide +kernel
theorem dL_law_965 : decode cL_law 965 = .ok (.aload_n 0, 1) := by decide +kernel
theorem dL_law_966 : decode cL_law 966 = .ok (.iload_n 3, 1) := by decide +kernel
theorem dL_law_967 : decode cL_law 967 = .ok (.iconst 4, 1) := by decide +kernel
theorem dL_law_968 : decode cL_law 968 = .ok (.iadd, 1) := by decide +kernel
theorem dL_law_969 : decode cL_law 969 = .ok (.iaload, 1) := by decide +kernel
theorem dL_law_970 : decode cL_law 970 = .ok (.aload_n 0, 1) := by decide +kernel
theorem dL_law_971 : decode cL_law 971 = .ok (.iload_n 3, 1) := by decide +kernel
theorem dL_law_972 : decode cL_law 972 = .ok (.iconst 5, 1) := by decide +kernel
theorem dL_law_973 : decode cL_law 973 = .ok (.iadd, 1) := by decide +kernel
theorem dL_law_974 : decode cL_law 974 = .ok (.iaload, 1) := by decide +kernel
theorem dL_law_975 : decode cL_law 975 = .ok (.invokevirtual 119, 3) := by decide +kernel
theorem dL_law_978 : decode cL_law 978 = .ok (.aload_n 2, 1) := by decide +kernel
theorem dL_law_979 : decode cL_law 979 = .ok (.aload_n 0, 1) := by decide +kernel
theorem dL_law_980 : decode cL_law 980 = .ok (.iload_n 3, 1) := by decide +kernel
theorem dL_law_981 : decode cL_law 981 = .ok (.iconst 1, 1) := by decide +kernel
theorem dL_law_982 : decode cL_law 982 = .ok (.iadd, 1) := by decide +kernel
theorem dL_law_983 : decode cL_law 983 = .ok (.iaload, 1) := by decide +kernel
theorem dL_law_984 : decode cL_law 984 = .ok (.aload_n 0, 1) := by decide +kernel
theorem dL_law_985 : decode cL_law 985 = .ok (.iload_n 3, 1) := by decide +kernel
theorem dL_law_986 : decode cL_law 986 = .ok (.iconst 2, 1) := by decide +kernel
theorem dL_law_987 : decode cL_law 987 = .ok (.iadd, 1) := by decide +kernel
theorem dL_law_988 : decode cL_law 988 = .ok (.iaload, 1) := by decide +kernel
theorem dL_law_989 : decode cL_law 989 = .ok (.aload_n 0, 1) := by decide +kernel
theorem dL_law_990 : decode cL_law 990 = .ok (.iload_n 3, 1) := by decide +kernel
theorem dL_law_991 : decode cL_law 991 = .ok (.iconst 3, 1) := by decide +kernel
theorem dL_law_992 : decode cL_law 992 = .ok (.iadd, 1) := by decide +kernel
theorem dL_law_993 : decode cL_law 993 = .ok (.iaload, 1) := by decide +kernel
theorem dL_law_994 : decode cL_law 994 = .ok (.aload_n 0, 1) := by decide +kernel
theorem dL_law_995 : decode cL_law 995 = .ok (.iload_n 3, 1) := by decide +kernel
theorem dL_law_996 : decode cL_law 996 = .ok (.iconst 4, 1) := by decide +kernel
theorem dL_law_997 : decode cL_law 997 = .ok (.iadd, 1) := by decide +kernel
theorem dL_law_998 : decode cL_law 998 = .ok (.iaload, 1) := by decide +kernel
theorem dL_law_999 : decode cL_law 999 = .ok (.aload_n 0, 1) := by decide +kernel
theorem dL_law_1000 : decode cL_law 1000 = .ok (.iload_n 3, 1) := by decide +kernel
theorem dL_law_1001 : decode cL_law 1001 = .ok (.iconst 5, 1) := by decide +kernel
theorem dL_law_1002 : decode cL_law 1002 = .ok (.iadd, 1) := by decide +kernel
theorem dL_law_1003 : decode cL_law 1003 = .ok (.iaload, 1) := by decide +kernel
theorem dL_law_1004 : decode cL_law 1004 = .ok (.invokevirtual 122, 3) := by decide +kernel
theorem dL_law_1007 : decode cL_law 1007 = .ok (.if_icmp .eq 75, 3) := by decide +kernel
theorem dL_law_1010 : decode cL_law 1010 = .ok (.iconst 0, 1) := by decide +kernel
theorem dL_law_1011 : decode cL_law 1011 = .ok (.ireturn, 1) := by decide +kernel
theorem dL_law_1012 : decode cL_law 1012 = .ok (.aload_n 1, 1) := by decide +kernel
theorem dL_law_1013 : decode cL_law 1013 = .ok (.aload_n 0, 1) := by decide +kernel
theorem dL_law_1014 : decode cL_law 1014 = .ok (.iload_n 3, 1) := by decide +kernel
theorem dL_law_1015 : decode cL_law 1015 = .ok (.iconst 1, 1) := by decide +kernel
theorem dL_law_1016 : decode cL_law 1016 = .ok (.iadd, 1) := by decide +kernel
theorem dL_law_1017 : decode cL_law 1017 = .ok (.iaload, 1) := by decide +kernel
theorem dL_law_1018 : decode cL_law 1018 = .ok (.aload_n 0, 1) := by decide +kernel
theorem dL_law_1019 : decode cL_law 1019 = .ok (.iload_n 3, 1) := by decide +kernel
theorem dL_law_1020 : decode cL_law 1020 = .ok (.iconst 2, 1) := by decide +kernel
theorem dL_law_1021 : decode cL_law 1021 = .ok (.iadd, 1) := by decide +kernel
theorem dL_law_1022 : decode cL_law 1022 = .ok (.iaload, 1) := by decide +kernel
theorem dL_law_1023 : decode cL_law 1023 = .ok (.invokevirtual 123, 3) := by decide +kernel
theorem dL_law_1026 : decode cL_law 1026 = .ok (.aload_n 2, 1) := by decide +kernel
theorem dL_law_1027 : decode cL_law 1027 = .ok (.aload_n 0, 1) := by decide +kernel
theorem dL_law_1028 : decode cL_law 1028 = .ok (.iload_n 3, 1) := by decide +kernel
theorem dL_law_1029 : decode cL_law 1029 = .ok (.iconst 1, 1) := by decide +kernel
theorem dL_law_1030 : decode cL_law 1030 = .ok (.iadd, 1) := by decide +kernel
theorem dL_law_1031 : decode cL_law 1031 = .ok (.iaload, 1) := by decide +kernel
theorem dL_law_1032 : decode cL_law 1032 = .ok (.aload_n 0, 1) := by decide +kernel
theorem dL_law_1033 : decode cL_law 1033 = .ok (.iload_n 3, 1) := by decide +kernel
theorem dL_law_1034 : decode cL_law 1034 = .ok (.iconst 2, 1) := by decide +kernel
theorem dL_law_1035 : decode cL_law 1035 = .ok (.iadd, 1) := by decide +kernel
theorem dL_law_1036 : decode cL_law 1036 = .ok (.iaload, 1) := by decide +kernel
theorem dL_law_1037 : decode cL_law 1037 = .ok (.invokevirtual 126, 3) := by decide +kernel
theorem dL_law_1040 : decode cL_law 1040 = .ok (.if_icmp .eq 42, 3) := by decide +kernel
theorem dL_law_1043 : decode cL_law 1043 = .ok (.iconst 0, 1) := by decide +kernel
theorem dL_law_1044 : decode cL_law 1044 = .ok (.ireturn, 1) := by decide +kernel
theorem dL_law_1045 : decode cL_law 1045 = .ok (.aload_n 1, 1) := by decide +kernel
theorem dL_law_1046 : decode cL_law 1046 = .ok (.aload_n 0, 1) := by decide +kernel
theorem dL_law_1047 : decode cL_law 1047 = .ok (.iload_n 3, 1) := by decide +kernel
theorem dL_law_1048 : decode cL_law 1048 = .ok (.iconst 1, 1) := by decide +kernel
theorem dL_law_1049 : decode cL_law 1049 = .ok (.iadd, 1) := by decide +kernel
theorem dL_law_1050 : decode cL_law 1050 = .ok (.iaload, 1) := by decide +kernel
theorem dL_law_1051 : decode cL_law 1051 = .ok (.invokevirtual 127, 3) := by decide +kernel
theorem dL_law_1054 : decode cL_law 1054 = .ok (.aload_n 2, 1) := by decide +kernel
theorem dL_law_1055 : decode cL_law 1055 = .ok (.aload_n 0, 1) := by decide +kernel
theorem dL_law_1056 : decode cL_law 1056 = .ok (.iload_n 3, 1) := by decide +kernel
theorem dL_law_1057 : decode cL_law 1057 = .ok (.iconst 1, 1) := by decide +kernel
theorem dL_law_1058 : decode cL_law 1058 = .ok (.iadd, 1) := by decide +kernel
theorem dL_law_1059 : decode cL_law 1059 = .ok (.iaload, 1) := by decide +kernel
theorem dL_law_1060 : decode cL_law 1060 = .ok (.invokevirtual 130, 3) := by decide +kernel
theorem dL_law_1063 : decode cL_law 1063 = .ok (.if_icmp .eq 19, 3) := by decide +kernel
theorem dL_law_1066 : decode cL_law 1066 = .ok (.iconst 0, 1) := by decide +kernel
theorem dL_law_1067 : decode cL_law 1067 = .ok (.ireturn, 1) := by decide +kernel
theorem dL_law_1068 : decode cL_law 1068 = .ok (.aload_n 1, 1) := by decide +kernel
theorem dL_law_1069 : decode cL_law 1069 = .ok (.invokevirtual 131, 3) := by decide +kernel
theorem dL_law_1072 : decode cL_law 1072 = .ok (.aload_n 2, 1) := by decide +kernel
theorem dL_law_1073 : decode cL_law 1073 = .ok (.invokevirtual 135, 3) := by decide +kernel
theorem dL_law_1076 : decode cL_law 1076 = .ok (.lcmp, 1) := by decide +kernel
theorem dL_law_1077 : decode cL_law 1077 = .ok (.ifCond .eq 5, 3) := by decide +kernel
theorem dL_law_1080 : decode cL_law 1080 = .ok (.iconst 0, 1) := by decide +kernel
theorem dL_law_1081 : decode cL_law 1081 = .ok (.ireturn, 1) := by decide +kernel
theorem dL_law_1082 : decode cL_law 1082 = .ok (.iinc 3 6, 3) := by decide +kernel
theorem dL_law_1085 : decode cL_law 1085 = .ok (.goto (-1067), 3) := by decide +kernel
theorem dL_law_1088 : decode cL_law 1088 = .ok (.iconst 1, 1) := by decide +kernel
theorem dL_law_1089 : decode cL_law 1089 = .ok (.ireturn, 1) := by decide +kernel
theorem dX0_init_0 : decode cX0_init 0 = .ok (.aload_n 0, 1) := by decide +kernel
theorem dX0_init_1 : decode cX0_init 1 = .ok (.invokespecial 3, 3) := by decide +kernel
theorem dX0_init_4 : decode cX0_init 4 = .ok (.aload_n 0, 1) := by decide +kernel
theorem dX0_init_5 : decode cX0_init 5 = .ok (.sipush 216, 3) := by decide +kernel
theorem dX0_init_8 : decode cX0_init 8 = .ok (.newarray .int, 2) := by decide +kernel
theorem dX0_init_10 : decode cX0_init 10 = .ok (.putfield 9, 3) := by decide +kernel
theorem dX0_init_13 : decode cX0_init 13 = .ok (.aload_n 0, 1) := by decide +kernel
theorem dX0_init_14 : decode cX0_init 14 = .ok (.iconst 0, 1) := by decide +kernel
theorem dX0_init_15 : decode cX0_init 15 = .ok (.putfield 15, 3) := by decide +kernel
theorem dX0_init_18 : decode cX0_init 18 = .ok (.return_, 1) := by decide +kernel
theorem dX0_has_0 : decode cX0_has 0 = .ok (.iload_n 1, 1) := by decide +kernel
theorem dX0_has_1 : decode cX0_has 1 = .ok (.ifCond .lt 15, 3) := by decide +kernel
theorem dX0_has_4 : decode cX0_has 4 = .ok (.iload_n 1, 1) := by decide +kernel
theorem dX0_has_5 : decode cX0_has 5 = .ok (.aload_n 0, 1) := by decide +kernel
theorem dX0_has_6 : decode cX0_has 6 = .ok (.getfield 15, 3) := by decide +kernel
theorem dX0_has_9 : decode cX0_has 9 = .ok (.if_icmp .ge 7, 3) := by decide +kernel
theorem dX0_has_12 : decode cX0_has 12 = .ok (.iconst 1, 1) := by decide +kernel
theorem dX0_has_13 : decode cX0_has 13 = .ok (.goto 4, 3) := by decide +kernel
theorem dX0_has_16 : decode cX0_has 16 = .ok (.iconst 0, 1) := by decide +kernel
theorem dX0_has_17 : decode cX0_has 17 = .ok (.ireturn, 1) := by decide +kernel
theorem dX0_appendWrite_0 : decode cX0_appendWrite 0 = .ok (.aload_n 0, 1) := by decide +kernel
theorem dX0_appendWrite_1 : decode cX0_appendWrite 1 = .ok (.getfield 9, 3) := by decide +kernel
theorem dX0_appendWrite_4 : decode cX0_appendWrite 4 = .ok (.aload_n 0, 1) := by decide +kernel
theorem dX0_appendWrite_5 : decode cX0_appendWrite 5 = .ok (.getfield 15, 3) := by decide +kernel
theorem dX0_appendWrite_8 : decode cX0_appendWrite 8 = .ok (.bipush 79, 2) := by decide +kernel
theorem dX0_appendWrite_10 : decode cX0_appendWrite 10 = .ok (.iastore, 1) := by decide +kernel
theorem dX0_appendWrite_11 : decode cX0_appendWrite 11 = .ok (.aload_n 0, 1) := by decide +kernel
theorem dX0_appendWrite_12 : decode cX0_appendWrite 12 = .ok (.getfield 9, 3) := by decide +kernel
theorem dX0_appendWrite_15 : decode cX0_appendWrite 15 = .ok (.aload_n 0, 1) := by decide +kernel
theorem dX0_appendWrite_16 : decode cX0_appendWrite 16 = .ok (.getfield 15, 3) := by decide +kernel
theorem dX0_appendWrite_19 : decode cX0_appendWrite 19 = .ok (.iconst 1, 1) := by decide +kernel
theorem dX0_appendWrite_20 : decode cX0_appendWrite 20 = .ok (.iadd, 1) := by decide +kernel
theorem dX0_appendWrite_21 : decode cX0_appendWrite 21 = .ok (.iload_n 1, 1) := by decide +kernel
theorem dX0_appendWrite_22 : decode cX0_appendWrite 22 = .ok (.iastore, 1) := by decide +kernel
theorem dX0_appendWrite_23 : decode cX0_appendWrite 23 = .ok (.aload_n 0, 1) := by decide +kernel
theorem dX0_appendWrite_24 : decode cX0_appendWrite 24 = .ok (.getfield 9, 3) := by decide +kernel
theorem dX0_appendWrite_27 : decode cX0_appendWrite 27 = .ok (.aload_n 0, 1) := by decide +kernel
theorem dX0_appendWrite_28 : decode cX0_appendWrite 28 = .ok (.getfield 15, 3) := by decide +kernel
theorem dX0_appendWrite_31 : decode cX0_appendWrite 31 = .ok (.iconst 2, 1) := by decide +kernel
theorem dX0_appendWrite_32 : decode cX0_appendWrite 32 = .ok (.iadd, 1) := by decide +kernel
theorem dX0_appendWrite_33 : decode cX0_appendWrite 33 = .ok (.iload_n 2, 1) := by decide +kernel
theorem dX0_appendWrite_34 : decode cX0_appendWrite 34 = .ok (.iastore, 1) := by decide +kernel
theorem dX0_appendWrite_35 : decode cX0_appendWrite 35 = .ok (.aload_n 0, 1) := by decide +kernel
theorem dX0_appendWrite_36 : decode cX0_appendWrite 36 = .ok (.aload_n 0, 1) := by decide +kernel
theorem dX0_appendWrite_37 : decode cX0_appendWrite 37 = .ok (.getfield 15, 3) := by decide +kernel
theorem dX0_appendWrite_40 : decode cX0_appendWrite 40 = .ok (.iconst 3, 1) := by decide +kernel
theorem dX0_appendWrite_41 : decode cX0_appendWrite 41 = .ok (.iadd, 1) := by decide +kernel
theorem dX0_appendWrite_42 : decode cX0_appendWrite 42 = .ok (.iload_n 3, 1) := by decide +kernel
theorem dX0_appendWrite_43 : decode cX0_appendWrite 43 = .ok (.invokevirtual 19, 3) := by decide +kernel
theorem dX0_appendWrite_46 : decode cX0_appendWrite 46 = .ok (.aload_n 0, 1) := by decide +kernel
theorem dX0_appendWrite_47 : decode cX0_appendWrite 47 = .ok (.dup, 1) := by decide +kernel
theorem dX0_appendWrite_48 : decode cX0_appendWrite 48 = .ok (.getfield 15, 3) := by decide +kernel
theorem dX0_appendWrite_51 : decode cX0_appendWrite 51 = .ok (.iconst 5, 1) := by decide +kernel
theorem dX0_appendWrite_52 : decode cX0_appendWrite 52 = .ok (.iadd, 1) := by decide +kernel
theorem dX0_appendWrite_53 : decode cX0_appendWrite 53 = .ok (.putfield 15, 3) := by decide +kernel
theorem dX0_appendWrite_56 : decode cX0_appendWrite 56 = .ok (.return_, 1) := by decide +kernel
theorem dX0_appendClosing_0 : decode cX0_appendClosing 0 = .ok (.aload_n 0, 1) := by decide +kernel
theorem dX0_appendClosing_1 : decode cX0_appendClosing 1 = .ok (.getfield 9, 3) := by decide +kernel
theorem dX0_appendClosing_4 : decode cX0_appendClosing 4 = .ok (.aload_n 0, 1) := by decide +kernel
theorem dX0_appendClosing_5 : decode cX0_appendClosing 5 = .ok (.getfield 15, 3) := by decide +kernel
theorem dX0_appendClosing_8 : decode cX0_appendClosing 8 = .ok (.iconst 0, 1) := by decide +kernel
theorem dX0_appendClosing_9 : decode cX0_appendClosing 9 = .ok (.iastore, 1) := by decide +kernel
theorem dX0_appendClosing_10 : decode cX0_appendClosing 10 = .ok (.aload_n 0, 1) := by decide +kernel
theorem dX0_appendClosing_11 : decode cX0_appendClosing 11 = .ok (.getfield 9, 3) := by decide +kernel
theorem dX0_appendClosing_14 : decode cX0_appendClosing 14 = .ok (.aload_n 0, 1) := by decide +kernel
theorem dX0_appendClosing_15 : decode cX0_appendClosing 15 = .ok (.getfield 15, 3) := by decide +kernel
theorem dX0_appendClosing_18 : decode cX0_appendClosing 18 = .ok (.iconst 1, 1) := by decide +kernel
theorem dX0_appendClosing_19 : decode cX0_appendClosing 19 = .ok (.iadd, 1) := by decide +kernel
theorem dX0_appendClosing_20 : decode cX0_appendClosing 20 = .ok (.iload_n 1, 1) := by decide +kernel
theorem dX0_appendClosing_21 : decode cX0_appendClosing 21 = .ok (.iastore, 1) := by decide +kernel
theorem dX0_appendClosing_22 : decode cX0_appendClosing 22 = .ok (.aload_n 0, 1) := by decide +kernel
theorem dX0_appendClosing_23 : decode cX0_appendClosing 23 = .ok (.dup, 1) := by decide +kernel
theorem dX0_appendClosing_24 : decode cX0_appendClosing 24 = .ok (.getfield 15, 3) := by decide +kernel
theorem dX0_appendClosing_27 : decode cX0_appendClosing 27 = .ok (.iconst 2, 1) := by decide +kernel
theorem dX0_appendClosing_28 : decode cX0_appendClosing 28 = .ok (.iadd, 1) := by decide +kernel
theorem dX0_appendClosing_29 : decode cX0_appendClosing 29 = .ok (.putfield 15, 3) := by decide +kernel
theorem dX0_appendClosing_32 : decode cX0_appendClosing 32 = .ok (.return_, 1) := by decide +kernel
theorem dX0_dropWrite_0 : decode cX0_dropWrite 0 = .ok (.aload_n 0, 1) := by decide +kernel
theorem dX0_dropWrite_1 : decode cX0_dropWrite 1 = .ok (.dup, 1) := by decide +kernel
theorem dX0_dropWrite_2 : decode cX0_dropWrite 2 = .ok (.getfield 15, 3) := by decide +kernel
theorem dX0_dropWrite_5 : decode cX0_dropWrite 5 = .ok (.iconst 5, 1) := by decide +kernel
theorem dX0_dropWrite_6 : decode cX0_dropWrite 6 = .ok (.isub, 1) := by decide +kernel
theorem dX0_dropWrite_7 : decode cX0_dropWrite 7 = .ok (.putfield 15, 3) := by decide +kernel
theorem dX0_dropWrite_10 : decode cX0_dropWrite 10 = .ok (.return_, 1) := by decide +kernel
theorem dX0_layValue_0 : decode cX0_layValue 0 = .ok (.aload_n 0, 1) := by decide +kernel
theorem dX0_layValue_1 : decode cX0_layValue 1 = .ok (.getfield 9, 3) := by decide +kernel
theorem dX0_layValue_4 : decode cX0_layValue 4 = .ok (.iload_n 1, 1) := by decide +kernel
theorem dX0_layValue_5 : decode cX0_layValue 5 = .ok (.iload_n 2, 1) := by decide +kernel
theorem dX0_layValue_6 : decode cX0_layValue 6 = .ok (.sipush 256, 3) := by decide +kernel
theorem dX0_layValue_9 : decode cX0_layValue 9 = .ok (.idiv, 1) := by decide +kernel
theorem dX0_layValue_10 : decode cX0_layValue 10 = .ok (.iastore, 1) := by decide +kernel
theorem dX0_layValue_11 : decode cX0_layValue 11 = .ok (.aload_n 0, 1) := by decide +kernel
theorem dX0_layValue_12 : decode cX0_layValue 12 = .ok (.getfield 9, 3) := by decide +kernel
theorem dX0_layValue_15 : decode cX0_layValue 15 = .ok (.iload_n 1, 1) := by decide +kernel
theorem dX0_layValue_16 : decode cX0_layValue 16 = .ok (.iconst 1, 1) := by decide +kernel
theorem dX0_layValue_17 : decode cX0_layValue 17 = .ok (.iadd, 1) := by decide +kernel
theorem dX0_layValue_18 : decode cX0_layValue 18 = .ok (.iload_n 2, 1) := by decide +kernel
theorem dX0_layValue_19 : decode cX0_layValue 19 = .ok (.sipush 256, 3) := by decide +kernel
theorem dX0_layValue_22 : decode cX0_layValue 22 = .ok (.irem, 1) := by decide +kernel
theorem dX0_layValue_23 : decode cX0_layValue 23 = .ok (.iastore, 1) := by decide +kernel
theorem dX0_layValue_24 : decode cX0_layValue 24 = .ok (.return_, 1) := by decide +kernel
theorem dX0_lengthWithin_0 : decode cX0_lengthWithin 0 = .ok (.iconst 0, 1) := by decide +kernel
theorem dX0_lengthWithin_1 : decode cX0_lengthWithin 1 = .ok (.iload_n 2, 1) := by decide +kernel
theorem dX0_lengthWithin_2 : decode cX0_lengthWithin 2 = .ok (.aload_n 0, 1) := by decide +kernel
theorem dX0_lengthWithin_3 : decode cX0_lengthWithin 3 = .ok (.getfield 15, 3) := by decide +kernel
theorem dX0_lengthWithin_6 : decode cX0_lengthWithin 6 = .ok (.invokestatic 23, 3) := by decide +kernel
theorem dX0_lengthWithin_9 : decode cX0_lengthWithin 9 = .ok (.iload_n 1, 1) := by decide +kernel
theorem dX0_lengthWithin_10 : decode cX0_lengthWithin 10 = .ok (.isub, 1) := by decide +kernel
theorem dX0_lengthWithin_11 : decode cX0_lengthWithin 11 = .ok (.invokestatic 29, 3) := by decide +kernel
theorem dX0_lengthWithin_14 : decode cX0_lengthWithin 14 = .ok (.ireturn, 1) := by decide +kernel
theorem dX0_numberOver_0 : decode cX0_numberOver 0 = .ok (.iload_n 1, 1) := by decide +kernel
theorem dX0_numberOver_1 : decode cX0_numberOver 1 = .ok (.istore 4, 2) := by decide +kernel
theorem dX0_numberOver_3 : decode cX0_numberOver 3 = .ok (.iload_n 3, 1) := by decide +kernel
theorem dX0_numberOver_4 : decode cX0_numberOver 4 = .ok (.aload_n 0, 1) := by decide +kernel
theorem dX0_numberOver_5 : decode cX0_numberOver 5 = .ok (.getfield 15, 3) := by decide +kernel
theorem dX0_numberOver_8 : decode cX0_numberOver 8 = .ok (.invokestatic 23, 3) := by decide +kernel
theorem dX0_numberOver_11 : decode cX0_numberOver 11 = .ok (.istore 5, 2) := by decide +kernel
theorem dX0_numberOver_13 : decode cX0_numberOver 13 = .ok (.iload_n 2, 1) := by decide +kernel
theorem dX0_numberOver_14 : decode cX0_numberOver 14 = .ok (.istore 6, 2) := by decide +kernel
theorem dX0_numberOver_16 : decode cX0_numberOver 16 = .ok (.iload 6, 2) := by decide +kernel
theorem dX0_numberOver_18 : decode cX0_numberOver 18 = .ok (.iload 5, 2) := by decide +kernel
theorem dX0_numberOver_20 : decode cX0_numberOver 20 = .ok (.if_icmp .ge 24, 3) := by decide +kernel
theorem dX0_numberOver_23 : decode cX0_numberOver 23 = .ok (.bipush 31, 2) := by decide +kernel
theorem dX0_numberOver_25 : decode cX0_numberOver 25 = .ok (.iload 4, 2) := by decide +kernel
theorem dX0_numberOver_27 : decode cX0_numberOver 27 = .ok (.imul, 1) := by decide +kernel
theorem dX0_numberOver_28 : decode cX0_numberOver 28 = .ok (.aload_n 0, 1) := by decide +kernel
theorem dX0_numberOver_29 : decode cX0_numberOver 29 = .ok (.getfield 9, 3) := by decide +kernel
theorem dX0_numberOver_32 : decode cX0_numberOver 32 = .ok (.iload 6, 2) := by decide +kernel
theorem dX0_numberOver_34 : decode cX0_numberOver 34 = .ok (.iaload, 1) := by decide +kernel
theorem dX0_numberOver_35 : decode cX0_numberOver 35 = .ok (.iadd, 1) := by decide +kernel
theorem dX0_numberOver_36 : decode cX0_numberOver 36 = .ok (.istore 4, 2) := by decide +kernel
theorem dX0_numberOver_38 : decode cX0_numberOver 38 = .ok (.iinc 6 1, 3) := by decide +kernel
theorem dX0_numberOver_41 : decode cX0_numberOver 41 = .ok (.goto (-25), 3) := by decide +kernel
theorem dX0_numberOver_44 : decode cX0_numberOver 44 = .ok (.iload 4, 2) := by decide +kernel
theorem dX0_numberOver_46 : decode cX0_numberOver 46 = .ok (.ireturn, 1) := by decide +kernel
theorem dX1_init_0 : decode cX1_init 0 = .ok (.aload_n 0, 1) := by decide +kernel
theorem dX1_init_1 : decode cX1_init 1 = .ok (.invokespecial 3, 3) := by decide +kernel
theorem dX1_init_4 : decode cX1_init 4 = .ok (.aload_n 0, 1) := by decide +kernel
theorem dX1_init_5 : decode cX1_init 5 = .ok (.bipush 40, 2) := by decide +kernel
theorem dX1_init_7 : decode cX1_init 7 = .ok (.newarray .boolean, 2) := by decide +kernel
theorem dX1_init_9 : decode cX1_init 9 = .ok (.putfield 9, 3) := by decide +kernel
theorem dX1_init_12 : decode cX1_init 12 = .ok (.aload_n 0, 1) := by decide +kernel
theorem dX1_init_13 : decode cX1_init 13 = .ok (.sipush 160, 3) := by decide +kernel
theorem dX1_init_16 : decode cX1_init 16 = .ok (.newarray .int, 2) := by decide +kernel
theorem dX1_init_18 : decode cX1_init 18 = .ok (.putfield 15, 3) := by decide +kernel
theorem dX1_init_21 : decode cX1_init 21 = .ok (.aload_n 0, 1) := by decide +kernel
theorem dX1_init_22 : decode cX1_init 22 = .ok (.bipush 40, 2) := by decide +kernel
theorem dX1_init_24 : decode cX1_init 24 = .ok (.newarray .int, 2) := by decide +kernel
theorem dX1_init_26 : decode cX1_init 26 = .ok (.putfield 19, 3) := by decide +kernel
theorem dX1_init_29 : decode cX1_init 29 = .ok (.aload_n 0, 1) := by decide +kernel
theorem dX1_init_30 : decode cX1_init 30 = .ok (.bipush 40, 2) := by decide +kernel
theorem dX1_init_32 : decode cX1_init 32 = .ok (.newarray .int, 2) := by decide +kernel
theorem dX1_init_34 : decode cX1_init 34 = .ok (.putfield 22, 3) := by decide +kernel
theorem dX1_init_37 : decode cX1_init 37 = .ok (.aload_n 0, 1) := by decide +kernel
theorem dX1_init_38 : decode cX1_init 38 = .ok (.bipush 40, 2) := by decide +kernel
theorem dX1_init_40 : decode cX1_init 40 = .ok (.newarray .int, 2) := by decide +kernel
theorem dX1_init_42 : decode cX1_init 42 = .ok (.putfield 25, 3) := by decide +kernel
theorem dX1_init_45 : decode cX1_init 45 = .ok (.aload_n 0, 1) := by decide +kernel
theorem dX1_init_46 : decode cX1_init 46 = .ok (.aload_n 1, 1) := by decide +kernel
theorem dX1_init_47 : decode cX1_init 47 = .ok (.putfield 28, 3) := by decide +kernel
theorem dX1_init_50 : decode cX1_init 50 = .ok (.aload_n 0, 1) := by decide +kernel
theorem dX1_init_51 : decode cX1_init 51 = .ok (.aload_n 2, 1) := by decide +kernel
theorem dX1_init_52 : decode cX1_init 52 = .ok (.putfield 32, 3) := by decide +kernel
theorem dX1_init_55 : decode cX1_init 55 = .ok (.return_, 1) := by decide +kernel
theorem dX1_forget_0 : decode cX1_forget 0 = .ok (.aload_n 0, 1) := by decide +kernel
theorem dX1_forget_1 : decode cX1_forget 1 = .ok (.getfield 9, 3) := by decide +kernel
theorem dX1_forget_4 : decode cX1_forget 4 = .ok (.iload_n 1, 1) := by decide +kernel
theorem dX1_forget_5 : decode cX1_forget 5 = .ok (.iconst 0, 1) := by decide +kernel
theorem dX1_forget_6 : decode cX1_forget 6 = .ok (.bastore, 1) := by decide +kernel
theorem dX1_forget_7 : decode cX1_forget 7 = .ok (.return_, 1) := by decide +kernel
theorem dX1_keepEdges_0 : decode cX1_keepEdges 0 = .ok (.aload_n 0, 1) := by decide +kernel
theorem dX1_keepEdges_1 : decode cX1_keepEdges 1 = .ok (.getfield 9, 3) := by decide +kernel
theorem dX1_keepEdges_4 : decode cX1_keepEdges 4 = .ok (.iload_n 1, 1) := by decide +kernel
theorem dX1_keepEdges_5 : decode cX1_keepEdges 5 = .ok (.iconst 1, 1) := by decide +kernel
theorem dX1_keepEdges_6 : decode cX1_keepEdges 6 = .ok (.bastore, 1) := by decide +kernel
theorem dX1_keepEdges_7 : decode cX1_keepEdges 7 = .ok (.aload_n 0, 1) := by decide +kernel
theorem dX1_keepEdges_8 : decode cX1_keepEdges 8 = .ok (.getfield 15, 3) := by decide +kernel
theorem dX1_keepEdges_11 : decode cX1_keepEdges 11 = .ok (.iconst 4, 1) := by decide +kernel
theorem dX1_keepEdges_12 : decode cX1_keepEdges 12 = .ok (.iload_n 1, 1) := by decide +kernel
theorem dX1_keepEdges_13 : decode cX1_keepEdges 13 = .ok (.imul, 1) := by decide +kernel
theorem dX1_keepEdges_14 : decode cX1_keepEdges 14 = .ok (.iload_n 2, 1) := by decide +kernel
theorem dX1_keepEdges_15 : decode cX1_keepEdges 15 = .ok (.iastore, 1) := by decide +kernel
theorem dX1_keepEdges_16 : decode cX1_keepEdges 16 = .ok (.aload_n 0, 1) := by decide +kernel
theorem dX1_keepEdges_17 : decode cX1_keepEdges 17 = .ok (.getfield 15, 3) := by decide +kernel
theorem dX1_keepEdges_20 : decode cX1_keepEdges 20 = .ok (.iconst 4, 1) := by decide +kernel
theorem dX1_keepEdges_21 : decode cX1_keepEdges 21 = .ok (.iload_n 1, 1) := by decide +kernel
theorem dX1_keepEdges_22 : decode cX1_keepEdges 22 = .ok (.imul, 1) := by decide +kernel
theorem dX1_keepEdges_23 : decode cX1_keepEdges 23 = .ok (.iconst 1, 1) := by decide +kernel
theorem dX1_keepEdges_24 : decode cX1_keepEdges 24 = .ok (.iadd, 1) := by decide +kernel
theorem dX1_keepEdges_25 : decode cX1_keepEdges 25 = .ok (.iload_n 3, 1) := by decide +kernel
theorem dX1_keepEdges_26 : decode cX1_keepEdges 26 = .ok (.iastore, 1) := by decide +kernel
theorem dX1_keepEdges_27 : decode cX1_keepEdges 27 = .ok (.aload_n 0, 1) := by decide +kernel
theorem dX1_keepEdges_28 : decode cX1_keepEdges 28 = .ok (.getfield 15, 3) := by decide +kernel
theorem dX1_keepEdges_31 : decode cX1_keepEdges 31 = .ok (.iconst 4, 1) := by decide +kernel
theorem dX1_keepEdges_32 : decode cX1_keepEdges 32 = .ok (.iload_n 1, 1) := by decide +kernel
theorem dX1_keepEdges_33 : decode cX1_keepEdges 33 = .ok (.imul, 1) := by decide +kernel
theorem dX1_keepEdges_34 : decode cX1_keepEdges 34 = .ok (.iconst 2, 1) := by decide +kernel
theorem dX1_keepEdges_35 : decode cX1_keepEdges 35 = .ok (.iadd, 1) := by decide +kernel
theorem dX1_keepEdges_36 : decode cX1_keepEdges 36 = .ok (.iload 4, 2) := by decide +kernel
theorem dX1_keepEdges_38 : decode cX1_keepEdges 38 = .ok (.iastore, 1) := by decide +kernel
theorem dX1_keepEdges_39 : decode cX1_keepEdges 39 = .ok (.aload_n 0, 1) := by decide +kernel
theorem dX1_keepEdges_40 : decode cX1_keepEdges 40 = .ok (.getfield 15, 3) := by decide +kernel
theorem dX1_keepEdges_43 : decode cX1_keepEdges 43 = .ok (.iconst 4, 1) := by decide +kernel
theorem dX1_keepEdges_44 : decode cX1_keepEdges 44 = .ok (.iload_n 1, 1) := by decide +kernel
theorem dX1_keepEdges_45 : decode cX1_keepEdges 45 = .ok (.imul, 1) := by decide +kernel
theorem dX1_keepEdges_46 : decode cX1_keepEdges 46 = .ok (.iconst 3, 1) := by decide +kernel
theorem dX1_keepEdges_47 : decode cX1_keepEdges 47 = .ok (.iadd, 1) := by decide +kernel
theorem dX1_keepEdges_48 : decode cX1_keepEdges 48 = .ok (.iload 5, 2) := by decide +kernel
theorem dX1_keepEdges_50 : decode cX1_keepEdges 50 = .ok (.iastore, 1) := by decide +kernel
theorem dX1_keepEdges_51 : decode cX1_keepEdges 51 = .ok (.return_, 1) := by decide +kernel
theorem dX1_edge_0 : decode cX1_edge 0 = .ok (.aload_n 0, 1) := by decide +kernel
theorem dX1_edge_1 : decode cX1_edge 1 = .ok (.getfield 9, 3) := by decide +kernel
theorem dX1_edge_4 : decode cX1_edge 4 = .ok (.iload_n 1, 1) := by decide +kernel
theorem dX1_edge_5 : decode cX1_edge 5 = .ok (.baload, 1) := by decide +kernel
theorem dX1_edge_6 : decode cX1_edge 6 = .ok (.ifCond .eq 16, 3) := by decide +kernel
theorem dX1_edge_9 : decode cX1_edge 9 = .ok (.aload_n 0, 1) := by decide +kernel
theorem dX1_edge_10 : decode cX1_edge 10 = .ok (.getfield 15, 3) := by decide +kernel
theorem dX1_edge_13 : decode cX1_edge 13 = .ok (.iconst 4, 1) := by decide +kernel
theorem dX1_edge_14 : decode cX1_edge 14 = .ok (.iload_n 1, 1) := by decide +kernel
theorem dX1_edge_15 : decode cX1_edge 15 = .ok (.imul, 1) := by decide +kernel
theorem dX1_edge_16 : decode cX1_edge 16 = .ok (.iload_n 2, 1) := by decide +kernel
theorem dX1_edge_17 : decode cX1_edge 17 = .ok (.iadd, 1) := by decide +kernel
theorem dX1_edge_18 : decode cX1_edge 18 = .ok (.iaload, 1) := by decide +kernel
theorem dX1_edge_19 : decode cX1_edge 19 = .ok (.goto 9, 3) := by decide +kernel
theorem dX1_edge_22 : decode cX1_edge 22 = .ok (.aload_n 0, 1) := by decide +kernel
theorem dX1_edge_23 : decode cX1_edge 23 = .ok (.iload_n 1, 1) := by decide +kernel
theorem dX1_edge_24 : decode cX1_edge 24 = .ok (.iload_n 2, 1) := by decide +kernel
theorem dX1_edge_25 : decode cX1_edge 25 = .ok (.invokevirtual 36, 3) := by decide +kernel
theorem dX1_edge_28 : decode cX1_edge 28 = .ok (.ireturn, 1) := by decide +kernel
theorem dX1_bytesWithin_0 : decode cX1_bytesWithin 0 = .ok (.aload_n 0, 1) := by decide +kernel
theorem dX1_bytesWithin_1 : decode cX1_bytesWithin 1 = .ok (.getfield 32, 3) := by decide +kernel
theorem dX1_bytesWithin_4 : decode cX1_bytesWithin 4 = .ok (.aload_n 0, 1) := by decide +kernel
theorem dX1_bytesWithin_5 : decode cX1_bytesWithin 5 = .ok (.iload_n 1, 1) := by decide +kernel
theorem dX1_bytesWithin_6 : decode cX1_bytesWithin 6 = .ok (.iconst 0, 1) := by decide +kernel
theorem dX1_bytesWithin_7 : decode cX1_bytesWithin 7 = .ok (.invokevirtual 40, 3) := by decide +kernel
theorem dX1_bytesWithin_10 : decode cX1_bytesWithin 10 = .ok (.aload_n 0, 1) := by decide +kernel
theorem dX1_bytesWithin_11 : decode cX1_bytesWithin 11 = .ok (.iload_n 1, 1) := by decide +kernel
theorem dX1_bytesWithin_12 : decode cX1_bytesWithin 12 = .ok (.iconst 1, 1) := by decide +kernel
theorem dX1_bytesWithin_13 : decode cX1_bytesWithin 13 = .ok (.invokevirtual 40, 3) := by decide +kernel
theorem dX1_bytesWithin_16 : decode cX1_bytesWithin 16 = .ok (.invokevirtual 43, 3) := by decide +kernel
theorem dX1_bytesWithin_19 : decode cX1_bytesWithin 19 = .ok (.aload_n 0, 1) := by decide +kernel
theorem dX1_bytesWithin_20 : decode cX1_bytesWithin 20 = .ok (.getfield 32, 3) := by decide +kernel
theorem dX1_bytesWithin_23 : decode cX1_bytesWithin 23 = .ok (.aload_n 0, 1) := by decide +kernel
theorem dX1_bytesWithin_24 : decode cX1_bytesWithin 24 = .ok (.iload_n 1, 1) := by decide +kernel
theorem dX1_bytesWithin_25 : decode cX1_bytesWithin 25 = .ok (.iconst 2, 1) := by decide +kernel
theorem dX1_bytesWithin_26 : decode cX1_bytesWithin 26 = .ok (.invokevirtual 40, 3) := by decide +kernel
theorem dX1_bytesWithin_29 : decode cX1_bytesWithin 29 = .ok (.aload_n 0, 1) := by decide +kernel
theorem dX1_bytesWithin_30 : decode cX1_bytesWithin 30 = .ok (.iload_n 1, 1) := by decide +kernel
theorem dX1_bytesWithin_31 : decode cX1_bytesWithin 31 = .ok (.iconst 3, 1) := by decide +kernel
theorem dX1_bytesWithin_32 : decode cX1_bytesWithin 32 = .ok (.invokevirtual 40, 3) := by decide +kernel
theorem dX1_bytesWithin_35 : decode cX1_bytesWithin 35 = .ok (.invokevirtual 43, 3) := by decide +kernel
theorem dX1_bytesWithin_38 : decode cX1_bytesWithin 38 = .ok (.iadd, 1) := by decide +kernel
theorem dX1_bytesWithin_39 : decode cX1_bytesWithin 39 = .ok (.ireturn, 1) := by decide +kernel
theorem dX1_keepNumbers_0 : decode cX1_keepNumbers 0 = .ok (.aload_n 0, 1) := by decide +kernel
theorem dX1_keepNumbers_1 : decode cX1_keepNumbers 1 = .ok (.getfield 28, 3) := by decide +kernel
theorem dX1_keepNumbers_4 : decode cX1_keepNumbers 4 = .ok (.getfield 48, 3) := by decide +kernel
theorem dX1_keepNumbers_7 : decode cX1_keepNumbers 7 = .ok (.iload_n 1, 1) := by decide +kernel
theorem dX1_keepNumbers_8 : decode cX1_keepNumbers 8 = .ok (.iaload, 1) := by decide +kernel
theorem dX1_keepNumbers_9 : decode cX1_keepNumbers 9 = .ok (.istore_n 2, 1) := by decide +kernel
theorem dX1_keepNumbers_10 : decode cX1_keepNumbers 10 = .ok (.iload_n 2, 1) := by decide +kernel
theorem dX1_keepNumbers_11 : decode cX1_keepNumbers 11 = .ok (.aload_n 0, 1) := by decide +kernel
theorem dX1_keepNumbers_12 : decode cX1_keepNumbers 12 = .ok (.getfield 28, 3) := by decide +kernel
theorem dX1_keepNumbers_15 : decode cX1_keepNumbers 15 = .ok (.iload_n 1, 1) := by decide +kernel
theorem dX1_keepNumbers_16 : decode cX1_keepNumbers 16 = .ok (.invokevirtual 53, 3) := by decide +kernel
theorem dX1_keepNumbers_19 : decode cX1_keepNumbers 19 = .ok (.if_icmp .ge 31, 3) := by decide +kernel
theorem dX1_keepNumbers_22 : decode cX1_keepNumbers 22 = .ok (.aload_n 0, 1) := by decide +kernel
theorem dX1_keepNumbers_23 : decode cX1_keepNumbers 23 = .ok (.getfield 28, 3) := by decide +kernel
theorem dX1_keepNumbers_26 : decode cX1_keepNumbers 26 = .ok (.iload_n 2, 1) := by decide +kernel
theorem dX1_keepNumbers_27 : decode cX1_keepNumbers 27 = .ok (.invokevirtual 57, 3) := by decide +kernel
theorem dX1_keepNumbers_30 : decode cX1_keepNumbers 30 = .ok (.ifCond .eq 14, 3) := by decide +kernel
theorem dX1_keepNumbers_33 : decode cX1_keepNumbers 33 = .ok (.aload_n 0, 1) := by decide +kernel
theorem dX1_keepNumbers_34 : decode cX1_keepNumbers 34 = .ok (.getfield 19, 3) := by decide +kernel
theorem dX1_keepNumbers_37 : decode cX1_keepNumbers 37 = .ok (.iload_n 2, 1) := by decide +kernel
theorem dX1_keepNumbers_38 : decode cX1_keepNumbers 38 = .ok (.aload_n 0, 1) := by decide +kernel
theorem dX1_keepNumbers_39 : decode cX1_keepNumbers 39 = .ok (.iload_n 2, 1) := by decide +kernel
theorem dX1_keepNumbers_40 : decode cX1_keepNumbers 40 = .ok (.invokevirtual 61, 3) := by decide +kernel
theorem dX1_keepNumbers_43 : decode cX1_keepNumbers 43 = .ok (.iastore, 1) := by decide +kernel
theorem dX1_keepNumbers_44 : decode cX1_keepNumbers 44 = .ok (.iinc 2 1, 3) := by decide +kernel
theorem dX1_keepNumbers_47 : decode cX1_keepNumbers 47 = .ok (.goto (-37), 3) := by decide +kernel
theorem dX1_keepNumbers_50 : decode cX1_keepNumbers 50 = .ok (.return_, 1) := by decide +kernel
theorem dX1_reckonAll_0 : decode cX1_reckonAll 0 = .ok (.iconst 0, 1) := by decide +kernel
theorem dX1_reckonAll_1 : decode cX1_reckonAll 1 = .ok (.istore_n 1, 1) := by decide +kernel
theorem dX1_reckonAll_2 : decode cX1_reckonAll 2 = .ok (.iload_n 1, 1) := by decide +kernel
theorem dX1_reckonAll_3 : decode cX1_reckonAll 3 = .ok (.aload_n 0, 1) := by decide +kernel
theorem dX1_reckonAll_4 : decode cX1_reckonAll 4 = .ok (.getfield 28, 3) := by decide +kernel
theorem dX1_reckonAll_7 : decode cX1_reckonAll 7 = .ok (.getfield 64, 3) := by decide +kernel
theorem dX1_reckonAll_10 : decode cX1_reckonAll 10 = .ok (.if_icmp .ge 64, 3) := by decide +kernel
theorem dX1_reckonAll_13 : decode cX1_reckonAll 13 = .ok (.aload_n 0, 1) := by decide +kernel
theorem dX1_reckonAll_14 : decode cX1_reckonAll 14 = .ok (.getfield 28, 3) := by decide +kernel
theorem dX1_reckonAll_17 : decode cX1_reckonAll 17 = .ok (.iload_n 1, 1) := by decide +kernel
theorem dX1_reckonAll_18 : decode cX1_reckonAll 18 = .ok (.invokevirtual 68, 3) := by decide +kernel
theorem dX1_reckonAll_21 : decode cX1_reckonAll 21 = .ok (.ifCond .eq 47, 3) := by decide +kernel
theorem dX1_reckonAll_24 : decode cX1_reckonAll 24 = .ok (.aload_n 0, 1) := by decide +kernel
theorem dX1_reckonAll_25 : decode cX1_reckonAll 25 = .ok (.getfield 22, 3) := by decide +kernel
theorem dX1_reckonAll_28 : decode cX1_reckonAll 28 = .ok (.iload_n 1, 1) := by decide +kernel
theorem dX1_reckonAll_29 : decode cX1_reckonAll 29 = .ok (.aload_n 0, 1) := by decide +kernel
theorem dX1_reckonAll_30 : decode cX1_reckonAll 30 = .ok (.iload_n 1, 1) := by decide +kernel
theorem dX1_reckonAll_31 : decode cX1_reckonAll 31 = .ok (.invokevirtual 61, 3) := by decide +kernel
theorem dX1_reckonAll_34 : decode cX1_reckonAll 34 = .ok (.iastore, 1) := by decide +kernel
theorem dX1_reckonAll_35 : decode cX1_reckonAll 35 = .ok (.aload_n 0, 1) := by decide +kernel
theorem dX1_reckonAll_36 : decode cX1_reckonAll 36 = .ok (.getfield 25, 3) := by decide +kernel
theorem dX1_reckonAll_39 : decode cX1_reckonAll 39 = .ok (.iload_n 1, 1) := by decide +kernel
theorem dX1_reckonAll_40 : decode cX1_reckonAll 40 = .ok (.aload_n 0, 1) := by decide +kernel
theorem dX1_reckonAll_41 : decode cX1_reckonAll 41 = .ok (.iload_n 1, 1) := by decide +kernel
theorem dX1_reckonAll_42 : decode cX1_reckonAll 42 = .ok (.invokevirtual 71, 3) := by decide +kernel
theorem dX1_reckonAll_45 : decode cX1_reckonAll 45 = .ok (.aload_n 0, 1) := by decide +kernel
theorem dX1_reckonAll_46 : decode cX1_reckonAll 46 = .ok (.getfield 22, 3) := by decide +kernel
theorem dX1_reckonAll_49 : decode cX1_reckonAll 49 = .ok (.iload_n 1, 1) := by decide +kernel
theorem dX1_reckonAll_50 : decode cX1_reckonAll 50 = .ok (.iaload, 1) := by decide +kernel
theorem dX1_reckonAll_51 : decode cX1_reckonAll 51 = .ok (.aload_n 0, 1) := by decide +kernel
theorem dX1_reckonAll_52 : decode cX1_reckonAll 52 = .ok (.getfield 19, 3) := by decide +kernel
theorem dX1_reckonAll_55 : decode cX1_reckonAll 55 = .ok (.iload_n 1, 1) := by decide +kernel
theorem dX1_reckonAll_56 : decode cX1_reckonAll 56 = .ok (.iaload, 1) := by decide +kernel
theorem dX1_reckonAll_57 : decode cX1_reckonAll 57 = .ok (.if_icmp .ne 7, 3) := by decide +kernel
theorem dX1_reckonAll_60 : decode cX1_reckonAll 60 = .ok (.iconst 0, 1) := by decide +kernel
theorem dX1_reckonAll_61 : decode cX1_reckonAll 61 = .ok (.goto 5, 3) := by decide +kernel
theorem dX1_reckonAll_64 : decode cX1_reckonAll 64 = .ok (.bipush 8, 2) := by decide +kernel
theorem dX1_reckonAll_66 : decode cX1_reckonAll 66 = .ok (.ior, 1) := by decide +kernel
theorem dX1_reckonAll_67 : decode cX1_reckonAll 67 = .ok (.iastore, 1) := by decide +kernel
theorem dX1_reckonAll_68 : decode cX1_reckonAll 68 = .ok (.iinc 1 1, 3) := by decide +kernel
theorem dX1_reckonAll_71 : decode cX1_reckonAll 71 = .ok (.goto (-69), 3) := by decide +kernel
theorem dX1_reckonAll_74 : decode cX1_reckonAll 74 = .ok (.return_, 1) := by decide +kernel
theorem dX1_numberNow_0 : decode cX1_numberNow 0 = .ok (.aload_n 0, 1) := by decide +kernel
theorem dX1_numberNow_1 : decode cX1_numberNow 1 = .ok (.getfield 32, 3) := by decide +kernel
theorem dX1_numberNow_4 : decode cX1_numberNow 4 = .ok (.bipush 7, 2) := by decide +kernel
theorem dX1_numberNow_6 : decode cX1_numberNow 6 = .ok (.aload_n 0, 1) := by decide +kernel
theorem dX1_numberNow_7 : decode cX1_numberNow 7 = .ok (.iload_n 1, 1) := by decide +kernel
theorem dX1_numberNow_8 : decode cX1_numberNow 8 = .ok (.iconst 0, 1) := by decide +kernel
theorem dX1_numberNow_9 : decode cX1_numberNow 9 = .ok (.invokevirtual 40, 3) := by decide +kernel
theorem dX1_numberNow_12 : decode cX1_numberNow 12 = .ok (.aload_n 0, 1) := by decide +kernel
theorem dX1_numberNow_13 : decode cX1_numberNow 13 = .ok (.iload_n 1, 1) := by decide +kernel
theorem dX1_numberNow_14 : decode cX1_numberNow 14 = .ok (.iconst 1, 1) := by decide +kernel
theorem dX1_numberNow_15 : decode cX1_numberNow 15 = .ok (.invokevirtual 40, 3) := by decide +kernel
theorem dX1_numberNow_18 : decode cX1_numberNow 18 = .ok (.invokevirtual 74, 3) := by decide +kernel
theorem dX1_numberNow_21 : decode cX1_numberNow 21 = .ok (.istore_n 2, 1) := by decide +kernel
theorem dX1_numberNow_22 : decode cX1_numberNow 22 = .ok (.aload_n 0, 1) := by decide +kernel
theorem dX1_numberNow_23 : decode cX1_numberNow 23 = .ok (.getfield 32, 3) := by decide +kernel
theorem dX1_numberNow_26 : decode cX1_numberNow 26 = .ok (.iload_n 2, 1) := by decide +kernel
theorem dX1_numberNow_27 : decode cX1_numberNow 27 = .ok (.aload_n 0, 1) := by decide +kernel
theorem dX1_numberNow_28 : decode cX1_numberNow 28 = .ok (.iload_n 1, 1) := by decide +kernel
theorem dX1_numberNow_29 : decode cX1_numberNow 29 = .ok (.iconst 2, 1) := by decide +kernel
theorem dX1_numberNow_30 : decode cX1_numberNow 30 = .ok (.invokevirtual 40, 3) := by decide +kernel
theorem dX1_numberNow_33 : decode cX1_numberNow 33 = .ok (.aload_n 0, 1) := by decide +kernel
theorem dX1_numberNow_34 : decode cX1_numberNow 34 = .ok (.iload_n 1, 1) := by decide +kernel
theorem dX1_numberNow_35 : decode cX1_numberNow 35 = .ok (.iconst 3, 1) := by decide +kernel
theorem dX1_numberNow_36 : decode cX1_numberNow 36 = .ok (.invokevirtual 40, 3) := by decide +kernel
theorem dX1_numberNow_39 : decode cX1_numberNow 39 = .ok (.invokevirtual 74, 3) := by decide +kernel
theorem dX1_numberNow_42 : decode cX1_numberNow 42 = .ok (.ireturn, 1) := by decide +kernel
theorem dX1_flawsOfEdges_0 : decode cX1_flawsOfEdges 0 = .ok (.aload_n 0, 1) := by decide +kernel
theorem dX1_flawsOfEdges_1 : decode cX1_flawsOfEdges 1 = .ok (.iload_n 1, 1) := by decide +kernel
theorem dX1_flawsOfEdges_2 : decode cX1_flawsOfEdges 2 = .ok (.iconst 0, 1) := by decide +kernel
theorem dX1_flawsOfEdges_3 : decode cX1_flawsOfEdges 3 = .ok (.invokevirtual 40, 3) := by decide +kernel
theorem dX1_flawsOfEdges_6 : decode cX1_flawsOfEdges 6 = .ok (.aload_n 0, 1) := by decide +kernel
theorem dX1_flawsOfEdges_7 : decode cX1_flawsOfEdges 7 = .ok (.iload_n 1, 1) := by decide +kernel
theorem dX1_flawsOfEdges_8 : decode cX1_flawsOfEdges 8 = .ok (.iconst 0, 1) := by decide +kernel
theorem dX1_flawsOfEdges_9 : decode cX1_flawsOfEdges 9 = .ok (.invokevirtual 36, 3) := by decide +kernel
theorem dX1_flawsOfEdges_12 : decode cX1_flawsOfEdges 12 = .ok (.if_icmp .ne 7, 3) := by decide +kernel
theorem dX1_flawsOfEdges_15 : decode cX1_flawsOfEdges 15 = .ok (.iconst 0, 1) := by decide +kernel
theorem dX1_flawsOfEdges_16 : decode cX1_flawsOfEdges 16 = .ok (.goto 4, 3) := by decide +kernel
theorem dX1_flawsOfEdges_19 : decode cX1_flawsOfEdges 19 = .ok (.iconst 1, 1) := by decide +kernel
theorem dX1_flawsOfEdges_20 : decode cX1_flawsOfEdges 20 = .ok (.istore_n 2, 1) := by decide +kernel
theorem dX1_flawsOfEdges_21 : decode cX1_flawsOfEdges 21 = .ok (.aload_n 0, 1) := by decide +kernel
theorem dX1_flawsOfEdges_22 : decode cX1_flawsOfEdges 22 = .ok (.iload_n 1, 1) := by decide +kernel
theorem dX1_flawsOfEdges_23 : decode cX1_flawsOfEdges 23 = .ok (.iconst 1, 1) := by decide +kernel
theorem dX1_flawsOfEdges_24 : decode cX1_flawsOfEdges 24 = .ok (.invokevirtual 40, 3) := by decide +kernel
theorem dX1_flawsOfEdges_27 : decode cX1_flawsOfEdges 27 = .ok (.aload_n 0, 1) := by decide +kernel
theorem dX1_flawsOfEdges_28 : decode cX1_flawsOfEdges 28 = .ok (.iload_n 1, 1) := by decide +kernel
theorem dX1_flawsOfEdges_29 : decode cX1_flawsOfEdges 29 = .ok (.iconst 1, 1) := by decide +kernel
theorem dX1_flawsOfEdges_30 : decode cX1_flawsOfEdges 30 = .ok (.invokevirtual 36, 3) := by decide +kernel
theorem dX1_flawsOfEdges_33 : decode cX1_flawsOfEdges 33 = .ok (.if_icmp .ne 18, 3) := by decide +kernel
theorem dX1_flawsOfEdges_36 : decode cX1_flawsOfEdges 36 = .ok (.aload_n 0, 1) := by decide +kernel
theorem dX1_flawsOfEdges_37 : decode cX1_flawsOfEdges 37 = .ok (.iload_n 1, 1) := by decide +kernel
theorem dX1_flawsOfEdges_38 : decode cX1_flawsOfEdges 38 = .ok (.iconst 2, 1) := by decide +kernel
theorem dX1_flawsOfEdges_39 : decode cX1_flawsOfEdges 39 = .ok (.invokevirtual 40, 3) := by decide +kernel
theorem dX1_flawsOfEdges_42 : decode cX1_flawsOfEdges 42 = .ok (.aload_n 0, 1) := by decide +kernel
theorem dX1_flawsOfEdges_43 : decode cX1_flawsOfEdges 43 = .ok (.iload_n 1, 1) := by decide +kernel
theorem dX1_flawsOfEdges_44 : decode cX1_flawsOfEdges 44 = .ok (.iconst 2, 1) := by decide +kernel
theorem dX1_flawsOfEdges_45 : decode cX1_flawsOfEdges 45 = .ok (.invokevirtual 36, 3) := by decide +kernel
theorem dX1_flawsOfEdges_48 : decode cX1_flawsOfEdges 48 = .ok (.if_icmp .eq 7, 3) := by decide +kernel
theorem dX1_flawsOfEdges_51 : decode cX1_flawsOfEdges 51 = .ok (.iload_n 2, 1) := by decide +kernel
theorem dX1_flawsOfEdges_52 : decode cX1_flawsOfEdges 52 = .ok (.iconst 2, 1) := by decide +kernel
theorem dX1_flawsOfEdges_53 : decode cX1_flawsOfEdges 53 = .ok (.ior, 1) := by decide +kernel
theorem dX1_flawsOfEdges_54 : decode cX1_flawsOfEdges 54 = .ok (.istore_n 2, 1) := by decide +kernel
theorem dX1_flawsOfEdges_55 : decode cX1_flawsOfEdges 55 = .ok (.aload_n 0, 1) := by decide +kernel
theorem dX1_flawsOfEdges_56 : decode cX1_flawsOfEdges 56 = .ok (.iload_n 1, 1) := by decide +kernel
theorem dX1_flawsOfEdges_57 : decode cX1_flawsOfEdges 57 = .ok (.iconst 3, 1) := by decide +kernel
theorem dX1_flawsOfEdges_58 : decode cX1_flawsOfEdges 58 = .ok (.invokevirtual 40, 3) := by decide +kernel
theorem dX1_flawsOfEdges_61 : decode cX1_flawsOfEdges 61 = .ok (.aload_n 0, 1) := by decide +kernel
theorem dX1_flawsOfEdges_62 : decode cX1_flawsOfEdges 62 = .ok (.iload_n 1, 1) := by decide +kernel
theorem dX1_flawsOfEdges_63 : decode cX1_flawsOfEdges 63 = .ok (.iconst 3, 1) := by decide +kernel
theorem dX1_flawsOfEdges_64 : decode cX1_flawsOfEdges 64 = .ok (.invokevirtual 36, 3) := by decide +kernel
theorem dX1_flawsOfEdges_67 : decode cX1_flawsOfEdges 67 = .ok (.if_icmp .eq 7, 3) := by decide +kernel
theorem dX1_flawsOfEdges_70 : decode cX1_flawsOfEdges 70 = .ok (.iload_n 2, 1) := by decide +kernel
theorem dX1_flawsOfEdges_71 : decode cX1_flawsOfEdges 71 = .ok (.iconst 4, 1) := by decide +kernel
theorem dX1_flawsOfEdges_72 : decode cX1_flawsOfEdges 72 = .ok (.ior, 1) := by decide +kernel
theorem dX1_flawsOfEdges_73 : decode cX1_flawsOfEdges 73 = .ok (.istore_n 2, 1) := by decide +kernel
theorem dX1_flawsOfEdges_74 : decode cX1_flawsOfEdges 74 = .ok (.iload_n 2, 1) := by decide +kernel
theorem dX1_flawsOfEdges_75 : decode cX1_flawsOfEdges 75 = .ok (.ireturn, 1) := by decide +kernel
theorem dX1_edgeIfUntold_0 : decode cX1_edgeIfUntold 0 = .ok (.iload_n 2, 1) := by decide +kernel
theorem dX1_edgeIfUntold_1 : decode cX1_edgeIfUntold 1 = .ok (.tableswitch 49 0 2 #[27, 29, 38], 27) := by decide +kernel
theorem dX1_edgeIfUntold_28 : decode cX1_edgeIfUntold 28 = .ok (.iconst 0, 1) := by decide +kernel
theorem dX1_edgeIfUntold_29 : decode cX1_edgeIfUntold 29 = .ok (.ireturn, 1) := by decide +kernel
theorem dX1_edgeIfUntold_30 : decode cX1_edgeIfUntold 30 = .ok (.aload_n 0, 1) := by decide +kernel
theorem dX1_edgeIfUntold_31 : decode cX1_edgeIfUntold 31 = .ok (.getfield 28, 3) := by decide +kernel
theorem dX1_edgeIfUntold_34 : decode cX1_edgeIfUntold 34 = .ok (.iload_n 1, 1) := by decide +kernel
theorem dX1_edgeIfUntold_35 : decode cX1_edgeIfUntold 35 = .ok (.invokevirtual 78, 3) := by decide +kernel
theorem dX1_edgeIfUntold_38 : decode cX1_edgeIfUntold 38 = .ok (.ireturn, 1) := by decide +kernel
theorem dX1_edgeIfUntold_39 : decode cX1_edgeIfUntold 39 = .ok (.aload_n 0, 1) := by decide +kernel
theorem dX1_edgeIfUntold_40 : decode cX1_edgeIfUntold 40 = .ok (.getfield 28, 3) := by decide +kernel
theorem dX1_edgeIfUntold_43 : decode cX1_edgeIfUntold 43 = .ok (.iload_n 1, 1) := by decide +kernel
theorem dX1_edgeIfUntold_44 : decode cX1_edgeIfUntold 44 = .ok (.invokevirtual 78, 3) := by decide +kernel
theorem dX1_edgeIfUntold_47 : decode cX1_edgeIfUntold 47 = .ok (.iconst 5, 1) := by decide +kernel
theorem dX1_edgeIfUntold_48 : decode cX1_edgeIfUntold 48 = .ok (.iadd, 1) := by decide +kernel
theorem dX1_edgeIfUntold_49 : decode cX1_edgeIfUntold 49 = .ok (.ireturn, 1) := by decide +kernel
theorem dX1_edgeIfUntold_50 : decode cX1_edgeIfUntold 50 = .ok (.aload_n 0, 1) := by decide +kernel
theorem dX1_edgeIfUntold_51 : decode cX1_edgeIfUntold 51 = .ok (.getfield 28, 3) := by decide +kernel
theorem dX1_edgeIfUntold_54 : decode cX1_edgeIfUntold 54 = .ok (.aload_n 0, 1) := by decide +kernel
theorem dX1_edgeIfUntold_55 : decode cX1_edgeIfUntold 55 = .ok (.getfield 28, 3) := by decide +kernel
theorem dX1_edgeIfUntold_58 : decode cX1_edgeIfUntold 58 = .ok (.getfield 81, 3) := by decide +kernel
theorem dX1_edgeIfUntold_61 : decode cX1_edgeIfUntold 61 = .ok (.iload_n 1, 1) := by decide +kernel
theorem dX1_edgeIfUntold_62 : decode cX1_edgeIfUntold 62 = .ok (.iaload, 1) := by decide +kernel
theorem dX1_edgeIfUntold_63 : decode cX1_edgeIfUntold 63 = .ok (.invokevirtual 84, 3) := by decide +kernel
theorem dX1_edgeIfUntold_66 : decode cX1_edgeIfUntold 66 = .ok (.ireturn, 1) := by decide +kernel
theorem dX2_init_0 : decode cX2_init 0 = .ok (.aload_n 0, 1) := by decide +kernel
theorem dX2_init_1 : decode cX2_init 1 = .ok (.invokespecial 3, 3) := by decide +kernel
theorem dX2_init_4 : decode cX2_init 4 = .ok (.aload_n 0, 1) := by decide +kernel
theorem dX2_init_5 : decode cX2_init 5 = .ok (.sipush 128, 3) := by decide +kernel
theorem dX2_init_8 : decode cX2_init 8 = .ok (.newarray .int, 2) := by decide +kernel
theorem dX2_init_10 : decode cX2_init 10 = .ok (.putfield 9, 3) := by decide +kernel
theorem dX2_init_13 : decode cX2_init 13 = .ok (.aload_n 0, 1) := by decide +kernel
theorem dX2_init_14 : decode cX2_init 14 = .ok (.bipush 8, 2) := by decide +kernel
theorem dX2_init_16 : decode cX2_init 16 = .ok (.newarray .int, 2) := by decide +kernel
theorem dX2_init_18 : decode cX2_init 18 = .ok (.putfield 15, 3) := by decide +kernel
theorem dX2_init_21 : decode cX2_init 21 = .ok (.aload_n 0, 1) := by decide +kernel
theorem dX2_init_22 : decode cX2_init 22 = .ok (.bipush 8, 2) := by decide +kernel
theorem dX2_init_24 : decode cX2_init 24 = .ok (.newarray .int, 2) := by decide +kernel
theorem dX2_init_26 : decode cX2_init 26 = .ok (.putfield 18, 3) := by decide +kernel
theorem dX2_init_29 : decode cX2_init 29 = .ok (.aload_n 0, 1) := by decide +kernel
theorem dX2_init_30 : decode cX2_init 30 = .ok (.sipush 128, 3) := by decide +kernel
theorem dX2_init_33 : decode cX2_init 33 = .ok (.newarray .int, 2) := by decide +kernel
theorem dX2_init_35 : decode cX2_init 35 = .ok (.putfield 21, 3) := by decide +kernel
theorem dX2_init_38 : decode cX2_init 38 = .ok (.aload_n 0, 1) := by decide +kernel
theorem dX2_init_39 : decode cX2_init 39 = .ok (.sipush 128, 3) := by decide +kernel
theorem dX2_init_42 : decode cX2_init 42 = .ok (.newarray .int, 2) := by decide +kernel
theorem dX2_init_44 : decode cX2_init 44 = .ok (.putfield 24, 3) := by decide +kernel
theorem dX2_init_47 : decode cX2_init 47 = .ok (.aload_n 0, 1) := by decide +kernel
theorem dX2_init_48 : decode cX2_init 48 = .ok (.bipush 8, 2) := by decide +kernel
theorem dX2_init_50 : decode cX2_init 50 = .ok (.newarray .int, 2) := by decide +kernel
theorem dX2_init_52 : decode cX2_init 52 = .ok (.putfield 27, 3) := by decide +kernel
theorem dX2_init_55 : decode cX2_init 55 = .ok (.aload_n 0, 1) := by decide +kernel
theorem dX2_init_56 : decode cX2_init 56 = .ok (.bipush 8, 2) := by decide +kernel
theorem dX2_init_58 : decode cX2_init 58 = .ok (.newarray .int, 2) := by decide +kernel
theorem dX2_init_60 : decode cX2_init 60 = .ok (.putfield 30, 3) := by decide +kernel
theorem dX2_init_63 : decode cX2_init 63 = .ok (.aload_n 0, 1) := by decide +kernel
theorem dX2_init_64 : decode cX2_init 64 = .ok (.bipush 8, 2) := by decide +kernel
theorem dX2_init_66 : decode cX2_init 66 = .ok (.newarray .int, 2) := by decide +kernel
theorem dX2_init_68 : decode cX2_init 68 = .ok (.putfield 33, 3) := by decide +kernel
theorem dX2_init_71 : decode cX2_init 71 = .ok (.aload_n 0, 1) := by decide +kernel
theorem dX2_init_72 : decode cX2_init 72 = .ok (.iconst 0, 1) := by decide +kernel
theorem dX2_init_73 : decode cX2_init 73 = .ok (.putfield 36, 3) := by decide +kernel
theorem dX2_init_76 : decode cX2_init 76 = .ok (.aload_n 0, 1) := by decide +kernel
theorem dX2_init_77 : decode cX2_init 77 = .ok (.aload_n 1, 1) := by decide +kernel
theorem dX2_init_78 : decode cX2_init 78 = .ok (.putfield 40, 3) := by decide +kernel
theorem dX2_init_81 : decode cX2_init 81 = .ok (.return_, 1) := by decide +kernel
theorem dX2_retell_0 : decode cX2_retell 0 = .ok (.aload_n 0, 1) := by decide +kernel
theorem dX2_retell_1 : decode cX2_retell 1 = .ok (.iconst 0, 1) := by decide +kernel
theorem dX2_retell_2 : decode cX2_retell 2 = .ok (.putfield 36, 3) := by decide +kernel
theorem dX2_retell_5 : decode cX2_retell 5 = .ok (.iconst 0, 1) := by decide +kernel
theorem dX2_retell_6 : decode cX2_retell 6 = .ok (.istore_n 2, 1) := by decide +kernel
theorem dX2_retell_7 : decode cX2_retell 7 = .ok (.iload_n 2, 1) := by decide +kernel
theorem dX2_retell_8 : decode cX2_retell 8 = .ok (.aload_n 0, 1) := by decide +kernel
theorem dX2_retell_9 : decode cX2_retell 9 = .ok (.getfield 40, 3) := by decide +kernel
theorem dX2_retell_12 : decode cX2_retell 12 = .ok (.getfield 44, 3) := by decide +kernel
theorem dX2_retell_15 : decode cX2_retell 15 = .ok (.if_icmp .gt 46, 3) := by decide +kernel
theorem dX2_retell_18 : decode cX2_retell 18 = .ok (.aload_n 0, 1) := by decide +kernel
theorem dX2_retell_19 : decode cX2_retell 19 = .ok (.iload_n 2, 1) := by decide +kernel
theorem dX2_retell_20 : decode cX2_retell 20 = .ok (.invokevirtual 49, 3) := by decide +kernel
theorem dX2_retell_23 : decode cX2_retell 23 = .ok (.aload_n 0, 1) := by decide +kernel
theorem dX2_retell_24 : decode cX2_retell 24 = .ok (.iload_n 2, 1) := by decide +kernel
theorem dX2_retell_25 : decode cX2_retell 25 = .ok (.iload_n 1, 1) := by decide +kernel
theorem dX2_retell_26 : decode cX2_retell 26 = .ok (.invokevirtual 53, 3) := by decide +kernel
theorem dX2_retell_29 : decode cX2_retell 29 = .ok (.aload_n 0, 1) := by decide +kernel
theorem dX2_retell_30 : decode cX2_retell 30 = .ok (.getfield 15, 3) := by decide +kernel
theorem dX2_retell_33 : decode cX2_retell 33 = .ok (.iload_n 2, 1) := by decide +kernel
theorem dX2_retell_34 : decode cX2_retell 34 = .ok (.aload_n 0, 1) := by decide +kernel
theorem dX2_retell_35 : decode cX2_retell 35 = .ok (.iload_n 2, 1) := by decide +kernel
theorem dX2_retell_36 : decode cX2_retell 36 = .ok (.invokevirtual 57, 3) := by decide +kernel
theorem dX2_retell_39 : decode cX2_retell 39 = .ok (.iastore, 1) := by decide +kernel
theorem dX2_retell_40 : decode cX2_retell 40 = .ok (.aload_n 0, 1) := by decide +kernel
theorem dX2_retell_41 : decode cX2_retell 41 = .ok (.iload_n 2, 1) := by decide +kernel
theorem dX2_retell_42 : decode cX2_retell 42 = .ok (.invokevirtual 61, 3) := by decide +kernel
theorem dX2_retell_45 : decode cX2_retell 45 = .ok (.aload_n 0, 1) := by decide +kernel
theorem dX2_retell_46 : decode cX2_retell 46 = .ok (.getfield 27, 3) := by decide +kernel
theorem dX2_retell_49 : decode cX2_retell 49 = .ok (.iload_n 2, 1) := by decide +kernel
theorem dX2_retell_50 : decode cX2_retell 50 = .ok (.aload_n 0, 1) := by decide +kernel
theorem dX2_retell_51 : decode cX2_retell 51 = .ok (.getfield 36, 3) := by decide +kernel
theorem dX2_retell_54 : decode cX2_retell 54 = .ok (.iastore, 1) := by decide +kernel
theorem dX2_retell_55 : decode cX2_retell 55 = .ok (.iinc 2 1, 3) := by decide +kernel
theorem dX2_retell_58 : decode cX2_retell 58 = .ok (.goto (-51), 3) := by decide +kernel
theorem dX2_retell_61 : decode cX2_retell 61 = .ok (.iconst 0, 1) := by decide +kernel
theorem dX2_retell_62 : decode cX2_retell 62 = .ok (.istore_n 2, 1) := by decide +kernel
theorem dX2_retell_63 : decode cX2_retell 63 = .ok (.iload_n 2, 1) := by decide +kernel
theorem dX2_retell_64 : decode cX2_retell 64 = .ok (.aload_n 0, 1) := by decide +kernel
theorem dX2_retell_65 : decode cX2_retell 65 = .ok (.getfield 40, 3) := by decide +kernel
theorem dX2_retell_68 : decode cX2_retell 68 = .ok (.getfield 44, 3) := by decide +kernel

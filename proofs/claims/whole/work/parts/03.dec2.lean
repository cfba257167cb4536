theorem dX2_retell_71 : decode cX2_retell 71 = .ok (.if_icmp .ge 14, 3) := by decide +kernel
theorem dX2_retell_74 : decode cX2_retell 74 = .ok (.aload_n 0, 1) := by decide +kernel
theorem dX2_retell_75 : decode cX2_retell 75 = .ok (.iload_n 2, 1) := by decide +kernel
theorem dX2_retell_76 : decode cX2_retell 76 = .ok (.invokevirtual 64, 3) := by decide +kernel
theorem dX2_retell_79 : decode cX2_retell 79 = .ok (.iinc 2 1, 3) := by decide +kernel
theorem dX2_retell_82 : decode cX2_retell 82 = .ok (.goto (-19), 3) := by decide +kernel
theorem dX2_retell_85 : decode cX2_retell 85 = .ok (.return_, 1) := by decide +kernel
theorem dX2_latestOf_0 : decode cX2_latestOf 0 = .ok (.aload_n 0, 1) := by decide +kernel
theorem dX2_latestOf_1 : decode cX2_latestOf 1 = .ok (.getfield 9, 3) := by decide +kernel
theorem dX2_latestOf_4 : decode cX2_latestOf 4 = .ok (.iload_n 1, 1) := by decide +kernel
theorem dX2_latestOf_5 : decode cX2_latestOf 5 = .ok (.bipush 16, 2) := by decide +kernel
theorem dX2_latestOf_7 : decode cX2_latestOf 7 = .ok (.imul, 1) := by decide +kernel
theorem dX2_latestOf_8 : decode cX2_latestOf 8 = .ok (.iload_n 2, 1) := by decide +kernel
theorem dX2_latestOf_9 : decode cX2_latestOf 9 = .ok (.iadd, 1) := by decide +kernel
theorem dX2_latestOf_10 : decode cX2_latestOf 10 = .ok (.iaload, 1) := by decide +kernel
theorem dX2_latestOf_11 : decode cX2_latestOf 11 = .ok (.ireturn, 1) := by decide +kernel
theorem dX2_changesBehind_0 : decode cX2_changesBehind 0 = .ok (.aload_n 0, 1) := by decide +kernel
theorem dX2_changesBehind_1 : decode cX2_changesBehind 1 = .ok (.getfield 36, 3) := by decide +kernel
theorem dX2_changesBehind_4 : decode cX2_changesBehind 4 = .ok (.aload_n 0, 1) := by decide +kernel
theorem dX2_changesBehind_5 : decode cX2_changesBehind 5 = .ok (.getfield 27, 3) := by decide +kernel
theorem dX2_changesBehind_8 : decode cX2_changesBehind 8 = .ok (.iload_n 1, 1) := by decide +kernel
theorem dX2_changesBehind_9 : decode cX2_changesBehind 9 = .ok (.iaload, 1) := by decide +kernel
theorem dX2_changesBehind_10 : decode cX2_changesBehind 10 = .ok (.isub, 1) := by decide +kernel
theorem dX2_changesBehind_11 : decode cX2_changesBehind 11 = .ok (.ireturn, 1) := by decide +kernel
theorem dX2_sortOf_0 : decode cX2_sortOf 0 = .ok (.aload_n 0, 1) := by decide +kernel
theorem dX2_sortOf_1 : decode cX2_sortOf 1 = .ok (.getfield 21, 3) := by decide +kernel
theorem dX2_sortOf_4 : decode cX2_sortOf 4 = .ok (.iload_n 1, 1) := by decide +kernel
theorem dX2_sortOf_5 : decode cX2_sortOf 5 = .ok (.iaload, 1) := by decide +kernel
theorem dX2_sortOf_6 : decode cX2_sortOf 6 = .ok (.istore_n 3, 1) := by decide +kernel
theorem dX2_sortOf_7 : decode cX2_sortOf 7 = .ok (.aload_n 0, 1) := by decide +kernel
theorem dX2_sortOf_8 : decode cX2_sortOf 8 = .ok (.getfield 24, 3) := by decide +kernel
theorem dX2_sortOf_11 : decode cX2_sortOf 11 = .ok (.iload_n 1, 1) := by decide +kernel
theorem dX2_sortOf_12 : decode cX2_sortOf 12 = .ok (.iaload, 1) := by decide +kernel
theorem dX2_sortOf_13 : decode cX2_sortOf 13 = .ok (.istore 4, 2) := by decide +kernel
theorem dX2_sortOf_15 : decode cX2_sortOf 15 = .ok (.aload_n 0, 1) := by decide +kernel
theorem dX2_sortOf_16 : decode cX2_sortOf 16 = .ok (.getfield 18, 3) := by decide +kernel
theorem dX2_sortOf_19 : decode cX2_sortOf 19 = .ok (.iload_n 3, 1) := by decide +kernel
theorem dX2_sortOf_20 : decode cX2_sortOf 20 = .ok (.iaload, 1) := by decide +kernel
theorem dX2_sortOf_21 : decode cX2_sortOf 21 = .ok (.iload 4, 2) := by decide +kernel
theorem dX2_sortOf_23 : decode cX2_sortOf 23 = .ok (.invokestatic 67, 3) := by decide +kernel
theorem dX2_sortOf_26 : decode cX2_sortOf 26 = .ok (.ifCond .eq 5, 3) := by decide +kernel
theorem dX2_sortOf_29 : decode cX2_sortOf 29 = .ok (.iconst 3, 1) := by decide +kernel
theorem dX2_sortOf_30 : decode cX2_sortOf 30 = .ok (.ireturn, 1) := by decide +kernel
theorem dX2_sortOf_31 : decode cX2_sortOf 31 = .ok (.aload_n 0, 1) := by decide +kernel
theorem dX2_sortOf_32 : decode cX2_sortOf 32 = .ok (.iload_n 3, 1) := by decide +kernel
theorem dX2_sortOf_33 : decode cX2_sortOf 33 = .ok (.iconst 1, 1) := by decide +kernel
theorem dX2_sortOf_34 : decode cX2_sortOf 34 = .ok (.isub, 1) := by decide +kernel
theorem dX2_sortOf_35 : decode cX2_sortOf 35 = .ok (.iload 4, 2) := by decide +kernel
theorem dX2_sortOf_37 : decode cX2_sortOf 37 = .ok (.invokevirtual 71, 3) := by decide +kernel
theorem dX2_sortOf_40 : decode cX2_sortOf 40 = .ok (.istore 5, 2) := by decide +kernel
theorem dX2_sortOf_42 : decode cX2_sortOf 42 = .ok (.aload_n 0, 1) := by decide +kernel
theorem dX2_sortOf_43 : decode cX2_sortOf 43 = .ok (.iload_n 3, 1) := by decide +kernel
theorem dX2_sortOf_44 : decode cX2_sortOf 44 = .ok (.iload 4, 2) := by decide +kernel
theorem dX2_sortOf_46 : decode cX2_sortOf 46 = .ok (.invokevirtual 71, 3) := by decide +kernel
theorem dX2_sortOf_49 : decode cX2_sortOf 49 = .ok (.istore 6, 2) := by decide +kernel
theorem dX2_sortOf_51 : decode cX2_sortOf 51 = .ok (.aload_n 0, 1) := by decide +kernel
theorem dX2_sortOf_52 : decode cX2_sortOf 52 = .ok (.getfield 40, 3) := by decide +kernel
theorem dX2_sortOf_55 : decode cX2_sortOf 55 = .ok (.iload 5, 2) := by decide +kernel
theorem dX2_sortOf_57 : decode cX2_sortOf 57 = .ok (.invokevirtual 75, 3) := by decide +kernel
theorem dX2_sortOf_60 : decode cX2_sortOf 60 = .ok (.istore 7, 2) := by decide +kernel
theorem dX2_sortOf_62 : decode cX2_sortOf 62 = .ok (.aload_n 0, 1) := by decide +kernel
theorem dX2_sortOf_63 : decode cX2_sortOf 63 = .ok (.getfield 40, 3) := by decide +kernel
theorem dX2_sortOf_66 : decode cX2_sortOf 66 = .ok (.iload 6, 2) := by decide +kernel
theorem dX2_sortOf_68 : decode cX2_sortOf 68 = .ok (.invokevirtual 75, 3) := by decide +kernel
theorem dX2_sortOf_71 : decode cX2_sortOf 71 = .ok (.istore 8, 2) := by decide +kernel
theorem dX2_sortOf_73 : decode cX2_sortOf 73 = .ok (.iload 7, 2) := by decide +kernel
theorem dX2_sortOf_75 : decode cX2_sortOf 75 = .ok (.iload 8, 2) := by decide +kernel
theorem dX2_sortOf_77 : decode cX2_sortOf 77 = .ok (.invokestatic 78, 3) := by decide +kernel
theorem dX2_sortOf_80 : decode cX2_sortOf 80 = .ok (.ifCond .eq 5, 3) := by decide +kernel
theorem dX2_sortOf_83 : decode cX2_sortOf 83 = .ok (.iconst 1, 1) := by decide +kernel
theorem dX2_sortOf_84 : decode cX2_sortOf 84 = .ok (.ireturn, 1) := by decide +kernel
theorem dX2_sortOf_85 : decode cX2_sortOf 85 = .ok (.aload_n 0, 1) := by decide +kernel
theorem dX2_sortOf_86 : decode cX2_sortOf 86 = .ok (.getfield 15, 3) := by decide +kernel
theorem dX2_sortOf_89 : decode cX2_sortOf 89 = .ok (.iload_n 2, 1) := by decide +kernel
theorem dX2_sortOf_90 : decode cX2_sortOf 90 = .ok (.iaload, 1) := by decide +kernel
theorem dX2_sortOf_91 : decode cX2_sortOf 91 = .ok (.istore 9, 2) := by decide +kernel
theorem dX2_sortOf_93 : decode cX2_sortOf 93 = .ok (.iload 7, 2) := by decide +kernel
theorem dX2_sortOf_95 : decode cX2_sortOf 95 = .ok (.invokestatic 81, 3) := by decide +kernel
theorem dX2_sortOf_98 : decode cX2_sortOf 98 = .ok (.ifCond .eq 23, 3) := by decide +kernel
theorem dX2_sortOf_101 : decode cX2_sortOf 101 = .ok (.iload 8, 2) := by decide +kernel
theorem dX2_sortOf_103 : decode cX2_sortOf 103 = .ok (.invokestatic 81, 3) := by decide +kernel
theorem dX2_sortOf_106 : decode cX2_sortOf 106 = .ok (.ifCond .eq 15, 3) := by decide +kernel
theorem dX2_sortOf_109 : decode cX2_sortOf 109 = .ok (.iload 9, 2) := by decide +kernel
theorem dX2_sortOf_111 : decode cX2_sortOf 111 = .ok (.iload 4, 2) := by decide +kernel
theorem dX2_sortOf_113 : decode cX2_sortOf 113 = .ok (.invokestatic 67, 3) := by decide +kernel
theorem dX2_sortOf_116 : decode cX2_sortOf 116 = .ok (.ifCond .ne 5, 3) := by decide +kernel
theorem dX2_sortOf_119 : decode cX2_sortOf 119 = .ok (.iconst 2, 1) := by decide +kernel
theorem dX2_sortOf_120 : decode cX2_sortOf 120 = .ok (.ireturn, 1) := by decide +kernel
theorem dX2_sortOf_121 : decode cX2_sortOf 121 = .ok (.iload 7, 2) := by decide +kernel
theorem dX2_sortOf_123 : decode cX2_sortOf 123 = .ok (.iconst 3, 1) := by decide +kernel
theorem dX2_sortOf_124 : decode cX2_sortOf 124 = .ok (.if_icmp .ne 46, 3) := by decide +kernel
theorem dX2_sortOf_127 : decode cX2_sortOf 127 = .ok (.iload 8, 2) := by decide +kernel
theorem dX2_sortOf_129 : decode cX2_sortOf 129 = .ok (.iconst 3, 1) := by decide +kernel
theorem dX2_sortOf_130 : decode cX2_sortOf 130 = .ok (.if_icmp .ne 40, 3) := by decide +kernel
theorem dX2_sortOf_133 : decode cX2_sortOf 133 = .ok (.aload_n 0, 1) := by decide +kernel
theorem dX2_sortOf_134 : decode cX2_sortOf 134 = .ok (.getfield 40, 3) := by decide +kernel
theorem dX2_sortOf_137 : decode cX2_sortOf 137 = .ok (.getfield 85, 3) := by decide +kernel
theorem dX2_sortOf_140 : decode cX2_sortOf 140 = .ok (.iload 5, 2) := by decide +kernel
theorem dX2_sortOf_142 : decode cX2_sortOf 142 = .ok (.iaload, 1) := by decide +kernel
theorem dX2_sortOf_143 : decode cX2_sortOf 143 = .ok (.aload_n 0, 1) := by decide +kernel
theorem dX2_sortOf_144 : decode cX2_sortOf 144 = .ok (.getfield 40, 3) := by decide +kernel
theorem dX2_sortOf_147 : decode cX2_sortOf 147 = .ok (.getfield 85, 3) := by decide +kernel
theorem dX2_sortOf_150 : decode cX2_sortOf 150 = .ok (.iload 6, 2) := by decide +kernel
theorem dX2_sortOf_152 : decode cX2_sortOf 152 = .ok (.iaload, 1) := by decide +kernel
theorem dX2_sortOf_153 : decode cX2_sortOf 153 = .ok (.ixor, 1) := by decide +kernel
theorem dX2_sortOf_154 : decode cX2_sortOf 154 = .ok (.istore 10, 2) := by decide +kernel
theorem dX2_sortOf_156 : decode cX2_sortOf 156 = .ok (.iload 10, 2) := by decide +kernel
theorem dX2_sortOf_158 : decode cX2_sortOf 158 = .ok (.iload 9, 2) := by decide +kernel
theorem dX2_sortOf_160 : decode cX2_sortOf 160 = .ok (.iand, 1) := by decide +kernel
theorem dX2_sortOf_161 : decode cX2_sortOf 161 = .ok (.ifCond .ne 7, 3) := by decide +kernel
theorem dX2_sortOf_164 : decode cX2_sortOf 164 = .ok (.iconst 2, 1) := by decide +kernel
theorem dX2_sortOf_165 : decode cX2_sortOf 165 = .ok (.goto 4, 3) := by decide +kernel
theorem dX2_sortOf_168 : decode cX2_sortOf 168 = .ok (.iconst 3, 1) := by decide +kernel
theorem dX2_sortOf_169 : decode cX2_sortOf 169 = .ok (.ireturn, 1) := by decide +kernel
theorem dX2_sortOf_170 : decode cX2_sortOf 170 = .ok (.iconst 3, 1) := by decide +kernel
theorem dX2_sortOf_171 : decode cX2_sortOf 171 = .ok (.ireturn, 1) := by decide +kernel
theorem dX2_judgeBehind_0 : decode cX2_judgeBehind 0 = .ok (.aload_n 0, 1) := by decide +kernel
theorem dX2_judgeBehind_1 : decode cX2_judgeBehind 1 = .ok (.getfield 30, 3) := by decide +kernel
theorem dX2_judgeBehind_4 : decode cX2_judgeBehind 4 = .ok (.iload_n 1, 1) := by decide +kernel
theorem dX2_judgeBehind_5 : decode cX2_judgeBehind 5 = .ok (.iconst 0, 1) := by decide +kernel
theorem dX2_judgeBehind_6 : decode cX2_judgeBehind 6 = .ok (.iastore, 1) := by decide +kernel
theorem dX2_judgeBehind_7 : decode cX2_judgeBehind 7 = .ok (.aload_n 0, 1) := by decide +kernel
theorem dX2_judgeBehind_8 : decode cX2_judgeBehind 8 = .ok (.getfield 33, 3) := by decide +kernel
theorem dX2_judgeBehind_11 : decode cX2_judgeBehind 11 = .ok (.iload_n 1, 1) := by decide +kernel
theorem dX2_judgeBehind_12 : decode cX2_judgeBehind 12 = .ok (.iconst 0, 1) := by decide +kernel
theorem dX2_judgeBehind_13 : decode cX2_judgeBehind 13 = .ok (.iastore, 1) := by decide +kernel
theorem dX2_judgeBehind_14 : decode cX2_judgeBehind 14 = .ok (.aload_n 0, 1) := by decide +kernel
theorem dX2_judgeBehind_15 : decode cX2_judgeBehind 15 = .ok (.getfield 27, 3) := by decide +kernel
theorem dX2_judgeBehind_18 : decode cX2_judgeBehind 18 = .ok (.iload_n 1, 1) := by decide +kernel
theorem dX2_judgeBehind_19 : decode cX2_judgeBehind 19 = .ok (.iaload, 1) := by decide +kernel
theorem dX2_judgeBehind_20 : decode cX2_judgeBehind 20 = .ok (.istore_n 2, 1) := by decide +kernel
theorem dX2_judgeBehind_21 : decode cX2_judgeBehind 21 = .ok (.iload_n 2, 1) := by decide +kernel
theorem dX2_judgeBehind_22 : decode cX2_judgeBehind 22 = .ok (.aload_n 0, 1) := by decide +kernel
theorem dX2_judgeBehind_23 : decode cX2_judgeBehind 23 = .ok (.getfield 36, 3) := by decide +kernel
theorem dX2_judgeBehind_26 : decode cX2_judgeBehind 26 = .ok (.if_icmp .ge 47, 3) := by decide +kernel
theorem dX2_judgeBehind_29 : decode cX2_judgeBehind 29 = .ok (.aload_n 0, 1) := by decide +kernel
theorem dX2_judgeBehind_30 : decode cX2_judgeBehind 30 = .ok (.iload_n 2, 1) := by decide +kernel
theorem dX2_judgeBehind_31 : decode cX2_judgeBehind 31 = .ok (.iload_n 1, 1) := by decide +kernel
theorem dX2_judgeBehind_32 : decode cX2_judgeBehind 32 = .ok (.invokevirtual 88, 3) := by decide +kernel
theorem dX2_judgeBehind_35 : decode cX2_judgeBehind 35 = .ok (.istore_n 3, 1) := by decide +kernel
theorem dX2_judgeBehind_36 : decode cX2_judgeBehind 36 = .ok (.aload_n 0, 1) := by decide +kernel
theorem dX2_judgeBehind_37 : decode cX2_judgeBehind 37 = .ok (.getfield 30, 3) := by decide +kernel
theorem dX2_judgeBehind_40 : decode cX2_judgeBehind 40 = .ok (.iload_n 1, 1) := by decide +kernel
theorem dX2_judgeBehind_41 : decode cX2_judgeBehind 41 = .ok (.aload_n 0, 1) := by decide +kernel
theorem dX2_judgeBehind_42 : decode cX2_judgeBehind 42 = .ok (.getfield 30, 3) := by decide +kernel
theorem dX2_judgeBehind_45 : decode cX2_judgeBehind 45 = .ok (.iload_n 1, 1) := by decide +kernel
theorem dX2_judgeBehind_46 : decode cX2_judgeBehind 46 = .ok (.iaload, 1) := by decide +kernel
theorem dX2_judgeBehind_47 : decode cX2_judgeBehind 47 = .ok (.iload_n 3, 1) := by decide +kernel
theorem dX2_judgeBehind_48 : decode cX2_judgeBehind 48 = .ok (.invokestatic 91, 3) := by decide +kernel
theorem dX2_judgeBehind_51 : decode cX2_judgeBehind 51 = .ok (.iastore, 1) := by decide +kernel
theorem dX2_judgeBehind_52 : decode cX2_judgeBehind 52 = .ok (.iload_n 3, 1) := by decide +kernel
theorem dX2_judgeBehind_53 : decode cX2_judgeBehind 53 = .ok (.iconst 3, 1) := by decide +kernel
theorem dX2_judgeBehind_54 : decode cX2_judgeBehind 54 = .ok (.if_icmp .ne 13, 3) := by decide +kernel
theorem dX2_judgeBehind_57 : decode cX2_judgeBehind 57 = .ok (.aload_n 0, 1) := by decide +kernel
theorem dX2_judgeBehind_58 : decode cX2_judgeBehind 58 = .ok (.getfield 33, 3) := by decide +kernel
theorem dX2_judgeBehind_61 : decode cX2_judgeBehind 61 = .ok (.iload_n 1, 1) := by decide +kernel
theorem dX2_judgeBehind_62 : decode cX2_judgeBehind 62 = .ok (.dup2, 1) := by decide +kernel
theorem dX2_judgeBehind_63 : decode cX2_judgeBehind 63 = .ok (.iaload, 1) := by decide +kernel
theorem dX2_judgeBehind_64 : decode cX2_judgeBehind 64 = .ok (.iconst 1, 1) := by decide +kernel
theorem dX2_judgeBehind_65 : decode cX2_judgeBehind 65 = .ok (.iadd, 1) := by decide +kernel
theorem dX2_judgeBehind_66 : decode cX2_judgeBehind 66 = .ok (.iastore, 1) := by decide +kernel
theorem dX2_judgeBehind_67 : decode cX2_judgeBehind 67 = .ok (.iinc 2 1, 3) := by decide +kernel
theorem dX2_judgeBehind_70 : decode cX2_judgeBehind 70 = .ok (.goto (-49), 3) := by decide +kernel
theorem dX2_judgeBehind_73 : decode cX2_judgeBehind 73 = .ok (.return_, 1) := by decide +kernel
theorem dX2_startRow_0 : decode cX2_startRow 0 = .ok (.iload_n 1, 1) := by decide +kernel
theorem dX2_startRow_1 : decode cX2_startRow 1 = .ok (.bipush 16, 2) := by decide +kernel
theorem dX2_startRow_3 : decode cX2_startRow 3 = .ok (.imul, 1) := by decide +kernel
theorem dX2_startRow_4 : decode cX2_startRow 4 = .ok (.istore_n 2, 1) := by decide +kernel
theorem dX2_startRow_5 : decode cX2_startRow 5 = .ok (.iload_n 1, 1) := by decide +kernel
theorem dX2_startRow_6 : decode cX2_startRow 6 = .ok (.ifCond .ne 17, 3) := by decide +kernel
theorem dX2_startRow_9 : decode cX2_startRow 9 = .ok (.aload_n 0, 1) := by decide +kernel
theorem dX2_startRow_10 : decode cX2_startRow 10 = .ok (.getfield 9, 3) := by decide +kernel
theorem dX2_startRow_13 : decode cX2_startRow 13 = .ok (.iconst 0, 1) := by decide +kernel
theorem dX2_startRow_14 : decode cX2_startRow 14 = .ok (.bipush 16, 2) := by decide +kernel
theorem dX2_startRow_16 : decode cX2_startRow 16 = .ok (.iconst (-1), 1) := by decide +kernel
theorem dX2_startRow_17 : decode cX2_startRow 17 = .ok (.invokestatic 96, 3) := by decide +kernel
theorem dX2_startRow_20 : decode cX2_startRow 20 = .ok (.goto 21, 3) := by decide +kernel
theorem dX2_startRow_23 : decode cX2_startRow 23 = .ok (.aload_n 0, 1) := by decide +kernel
theorem dX2_startRow_24 : decode cX2_startRow 24 = .ok (.getfield 9, 3) := by decide +kernel
theorem dX2_startRow_27 : decode cX2_startRow 27 = .ok (.iload_n 2, 1) := by decide +kernel
theorem dX2_startRow_28 : decode cX2_startRow 28 = .ok (.bipush 16, 2) := by decide +kernel
theorem dX2_startRow_30 : decode cX2_startRow 30 = .ok (.isub, 1) := by decide +kernel
theorem dX2_startRow_31 : decode cX2_startRow 31 = .ok (.aload_n 0, 1) := by decide +kernel
theorem dX2_startRow_32 : decode cX2_startRow 32 = .ok (.getfield 9, 3) := by decide +kernel
theorem dX2_startRow_35 : decode cX2_startRow 35 = .ok (.iload_n 2, 1) := by decide +kernel
theorem dX2_startRow_36 : decode cX2_startRow 36 = .ok (.bipush 16, 2) := by decide +kernel
theorem dX2_startRow_38 : decode cX2_startRow 38 = .ok (.invokestatic 102, 3) := by decide +kernel
theorem dX2_startRow_41 : decode cX2_startRow 41 = .ok (.aload_n 0, 1) := by decide +kernel
theorem dX2_startRow_42 : decode cX2_startRow 42 = .ok (.getfield 18, 3) := by decide +kernel
theorem dX2_startRow_45 : decode cX2_startRow 45 = .ok (.iload_n 1, 1) := by decide +kernel
theorem dX2_startRow_46 : decode cX2_startRow 46 = .ok (.iconst 0, 1) := by decide +kernel
theorem dX2_startRow_47 : decode cX2_startRow 47 = .ok (.iastore, 1) := by decide +kernel
theorem dX2_startRow_48 : decode cX2_startRow 48 = .ok (.return_, 1) := by decide +kernel
theorem dX2_takeWrites_0 : decode cX2_takeWrites 0 = .ok (.aload_n 0, 1) := by decide +kernel
theorem dX2_takeWrites_1 : decode cX2_takeWrites 1 = .ok (.getfield 40, 3) := by decide +kernel
theorem dX2_takeWrites_4 : decode cX2_takeWrites 4 = .ok (.getfield 108, 3) := by decide +kernel
theorem dX2_takeWrites_7 : decode cX2_takeWrites 7 = .ok (.iload_n 1, 1) := by decide +kernel
theorem dX2_takeWrites_8 : decode cX2_takeWrites 8 = .ok (.iaload, 1) := by decide +kernel
theorem dX2_takeWrites_9 : decode cX2_takeWrites 9 = .ok (.istore_n 3, 1) := by decide +kernel
theorem dX2_takeWrites_10 : decode cX2_takeWrites 10 = .ok (.iload_n 3, 1) := by decide +kernel
theorem dX2_takeWrites_11 : decode cX2_takeWrites 11 = .ok (.aload_n 0, 1) := by decide +kernel
theorem dX2_takeWrites_12 : decode cX2_takeWrites 12 = .ok (.getfield 40, 3) := by decide +kernel
theorem dX2_takeWrites_15 : decode cX2_takeWrites 15 = .ok (.iload_n 1, 1) := by decide +kernel
theorem dX2_takeWrites_16 : decode cX2_takeWrites 16 = .ok (.invokevirtual 111, 3) := by decide +kernel
theorem dX2_takeWrites_19 : decode cX2_takeWrites 19 = .ok (.if_icmp .ge 90, 3) := by decide +kernel
theorem dX2_takeWrites_22 : decode cX2_takeWrites 22 = .ok (.iload_n 3, 1) := by decide +kernel
theorem dX2_takeWrites_23 : decode cX2_takeWrites 23 = .ok (.iload_n 2, 1) := by decide +kernel
theorem dX2_takeWrites_24 : decode cX2_takeWrites 24 = .ok (.if_icmp .ne 6, 3) := by decide +kernel
theorem dX2_takeWrites_27 : decode cX2_takeWrites 27 = .ok (.goto 76, 3) := by decide +kernel
theorem dX2_takeWrites_30 : decode cX2_takeWrites 30 = .ok (.aload_n 0, 1) := by decide +kernel
theorem dX2_takeWrites_31 : decode cX2_takeWrites 31 = .ok (.getfield 40, 3) := by decide +kernel
theorem dX2_takeWrites_34 : decode cX2_takeWrites 34 = .ok (.getfield 114, 3) := by decide +kernel
theorem dX2_takeWrites_37 : decode cX2_takeWrites 37 = .ok (.iload_n 3, 1) := by decide +kernel
theorem dX2_takeWrites_38 : decode cX2_takeWrites 38 = .ok (.iaload, 1) := by decide +kernel
theorem dX2_takeWrites_39 : decode cX2_takeWrites 39 = .ok (.istore 4, 2) := by decide +kernel
theorem dX2_takeWrites_41 : decode cX2_takeWrites 41 = .ok (.aload_n 0, 1) := by decide +kernel
theorem dX2_takeWrites_42 : decode cX2_takeWrites 42 = .ok (.iload_n 1, 1) := by decide +kernel
theorem dX2_takeWrites_43 : decode cX2_takeWrites 43 = .ok (.iload 4, 2) := by decide +kernel
theorem dX2_takeWrites_45 : decode cX2_takeWrites 45 = .ok (.invokevirtual 71, 3) := by decide +kernel
theorem dX2_takeWrites_48 : decode cX2_takeWrites 48 = .ok (.istore 5, 2) := by decide +kernel
theorem dX2_takeWrites_50 : decode cX2_takeWrites 50 = .ok (.iload 5, 2) := by decide +kernel
theorem dX2_takeWrites_52 : decode cX2_takeWrites 52 = .ok (.aload_n 0, 1) := by decide +kernel
theorem dX2_takeWrites_53 : decode cX2_takeWrites 53 = .ok (.getfield 40, 3) := by decide +kernel
theorem dX2_takeWrites_56 : decode cX2_takeWrites 56 = .ok (.getfield 108, 3) := by decide +kernel
theorem dX2_takeWrites_59 : decode cX2_takeWrites 59 = .ok (.iload_n 1, 1) := by decide +kernel
theorem dX2_takeWrites_60 : decode cX2_takeWrites 60 = .ok (.iaload, 1) := by decide +kernel
theorem dX2_takeWrites_61 : decode cX2_takeWrites 61 = .ok (.if_icmp .lt 29, 3) := by decide +kernel
theorem dX2_takeWrites_64 : decode cX2_takeWrites 64 = .ok (.aload_n 0, 1) := by decide +kernel
theorem dX2_takeWrites_65 : decode cX2_takeWrites 65 = .ok (.getfield 40, 3) := by decide +kernel
theorem dX2_takeWrites_68 : decode cX2_takeWrites 68 = .ok (.iload 5, 2) := by decide +kernel
theorem dX2_takeWrites_70 : decode cX2_takeWrites 70 = .ok (.iload_n 3, 1) := by decide +kernel
theorem dX2_takeWrites_71 : decode cX2_takeWrites 71 = .ok (.invokevirtual 117, 3) := by decide +kernel
theorem dX2_takeWrites_74 : decode cX2_takeWrites 74 = .ok (.ifCond .eq 16, 3) := by decide +kernel
theorem dX2_takeWrites_77 : decode cX2_takeWrites 77 = .ok (.aload_n 0, 1) := by decide +kernel
theorem dX2_takeWrites_78 : decode cX2_takeWrites 78 = .ok (.getfield 18, 3) := by decide +kernel
theorem dX2_takeWrites_81 : decode cX2_takeWrites 81 = .ok (.iload_n 1, 1) := by decide +kernel
theorem dX2_takeWrites_82 : decode cX2_takeWrites 82 = .ok (.dup2, 1) := by decide +kernel
theorem dX2_takeWrites_83 : decode cX2_takeWrites 83 = .ok (.iaload, 1) := by decide +kernel
theorem dX2_takeWrites_84 : decode cX2_takeWrites 84 = .ok (.iconst 1, 1) := by decide +kernel
theorem dX2_takeWrites_85 : decode cX2_takeWrites 85 = .ok (.iload 4, 2) := by decide +kernel
theorem dX2_takeWrites_87 : decode cX2_takeWrites 87 = .ok (.ishl, 1) := by decide +kernel
theorem dX2_takeWrites_88 : decode cX2_takeWrites 88 = .ok (.ior, 1) := by decide +kernel
theorem dX2_takeWrites_89 : decode cX2_takeWrites 89 = .ok (.iastore, 1) := by decide +kernel
theorem dX2_takeWrites_90 : decode cX2_takeWrites 90 = .ok (.aload_n 0, 1) := by decide +kernel
theorem dX2_takeWrites_91 : decode cX2_takeWrites 91 = .ok (.getfield 9, 3) := by decide +kernel
theorem dX2_takeWrites_94 : decode cX2_takeWrites 94 = .ok (.iload_n 1, 1) := by decide +kernel
theorem dX2_takeWrites_95 : decode cX2_takeWrites 95 = .ok (.bipush 16, 2) := by decide +kernel
theorem dX2_takeWrites_97 : decode cX2_takeWrites 97 = .ok (.imul, 1) := by decide +kernel
theorem dX2_takeWrites_98 : decode cX2_takeWrites 98 = .ok (.iload 4, 2) := by decide +kernel
theorem dX2_takeWrites_100 : decode cX2_takeWrites 100 = .ok (.iadd, 1) := by decide +kernel
theorem dX2_takeWrites_101 : decode cX2_takeWrites 101 = .ok (.iload_n 3, 1) := by decide +kernel
theorem dX2_takeWrites_102 : decode cX2_takeWrites 102 = .ok (.iastore, 1) := by decide +kernel
theorem dX2_takeWrites_103 : decode cX2_takeWrites 103 = .ok (.iinc 3 1, 3) := by decide +kernel
theorem dX2_takeWrites_106 : decode cX2_takeWrites 106 = .ok (.goto (-96), 3) := by decide +kernel
theorem dX2_takeWrites_109 : decode cX2_takeWrites 109 = .ok (.return_, 1) := by decide +kernel
theorem dX2_thingsThere_0 : decode cX2_thingsThere 0 = .ok (.iconst 0, 1) := by decide +kernel
theorem dX2_thingsThere_1 : decode cX2_thingsThere 1 = .ok (.istore_n 2, 1) := by decide +kernel
theorem dX2_thingsThere_2 : decode cX2_thingsThere 2 = .ok (.iconst 0, 1) := by decide +kernel
theorem dX2_thingsThere_3 : decode cX2_thingsThere 3 = .ok (.istore_n 3, 1) := by decide +kernel
theorem dX2_thingsThere_4 : decode cX2_thingsThere 4 = .ok (.iload_n 3, 1) := by decide +kernel
theorem dX2_thingsThere_5 : decode cX2_thingsThere 5 = .ok (.bipush 16, 2) := by decide +kernel
theorem dX2_thingsThere_7 : decode cX2_thingsThere 7 = .ok (.if_icmp .ge 32, 3) := by decide +kernel
theorem dX2_thingsThere_10 : decode cX2_thingsThere 10 = .ok (.aload_n 0, 1) := by decide +kernel
theorem dX2_thingsThere_11 : decode cX2_thingsThere 11 = .ok (.getfield 40, 3) := by decide +kernel
theorem dX2_thingsThere_14 : decode cX2_thingsThere 14 = .ok (.aload_n 0, 1) := by decide +kernel
theorem dX2_thingsThere_15 : decode cX2_thingsThere 15 = .ok (.iload_n 1, 1) := by decide +kernel
theorem dX2_thingsThere_16 : decode cX2_thingsThere 16 = .ok (.iload_n 3, 1) := by decide +kernel
theorem dX2_thingsThere_17 : decode cX2_thingsThere 17 = .ok (.invokevirtual 71, 3) := by decide +kernel
theorem dX2_thingsThere_20 : decode cX2_thingsThere 20 = .ok (.invokevirtual 75, 3) := by decide +kernel
theorem dX2_thingsThere_23 : decode cX2_thingsThere 23 = .ok (.iconst 5, 1) := by decide +kernel
theorem dX2_thingsThere_24 : decode cX2_thingsThere 24 = .ok (.if_icmp .eq 9, 3) := by decide +kernel
theorem dX2_thingsThere_27 : decode cX2_thingsThere 27 = .ok (.iload_n 2, 1) := by decide +kernel
theorem dX2_thingsThere_28 : decode cX2_thingsThere 28 = .ok (.iconst 1, 1) := by decide +kernel
theorem dX2_thingsThere_29 : decode cX2_thingsThere 29 = .ok (.iload_n 3, 1) := by decide +kernel
theorem dX2_thingsThere_30 : decode cX2_thingsThere 30 = .ok (.ishl, 1) := by decide +kernel
theorem dX2_thingsThere_31 : decode cX2_thingsThere 31 = .ok (.ior, 1) := by decide +kernel
theorem dX2_thingsThere_32 : decode cX2_thingsThere 32 = .ok (.istore_n 2, 1) := by decide +kernel
theorem dX2_thingsThere_33 : decode cX2_thingsThere 33 = .ok (.iinc 3 1, 3) := by decide +kernel
theorem dX2_thingsThere_36 : decode cX2_thingsThere 36 = .ok (.goto (-32), 3) := by decide +kernel
theorem dX2_thingsThere_39 : decode cX2_thingsThere 39 = .ok (.iload_n 2, 1) := by decide +kernel
theorem dX2_thingsThere_40 : decode cX2_thingsThere 40 = .ok (.ireturn, 1) := by decide +kernel
theorem dX2_noteChanges_0 : decode cX2_noteChanges 0 = .ok (.iconst 0, 1) := by decide +kernel
theorem dX2_noteChanges_1 : decode cX2_noteChanges 1 = .ok (.istore_n 2, 1) := by decide +kernel
theorem dX2_noteChanges_2 : decode cX2_noteChanges 2 = .ok (.iload_n 1, 1) := by decide +kernel
theorem dX2_noteChanges_3 : decode cX2_noteChanges 3 = .ok (.ifCond .le 67, 3) := by decide +kernel
theorem dX2_noteChanges_6 : decode cX2_noteChanges 6 = .ok (.iload_n 2, 1) := by decide +kernel
theorem dX2_noteChanges_7 : decode cX2_noteChanges 7 = .ok (.bipush 16, 2) := by decide +kernel
theorem dX2_noteChanges_9 : decode cX2_noteChanges 9 = .ok (.if_icmp .ge 61, 3) := by decide +kernel
theorem dX2_noteChanges_12 : decode cX2_noteChanges 12 = .ok (.aload_n 0, 1) := by decide +kernel
theorem dX2_noteChanges_13 : decode cX2_noteChanges 13 = .ok (.getfield 18, 3) := by decide +kernel
theorem dX2_noteChanges_16 : decode cX2_noteChanges 16 = .ok (.iload_n 1, 1) := by decide +kernel
theorem dX2_noteChanges_17 : decode cX2_noteChanges 17 = .ok (.iaload, 1) := by decide +kernel
theorem dX2_noteChanges_18 : decode cX2_noteChanges 18 = .ok (.iload_n 2, 1) := by decide +kernel
theorem dX2_noteChanges_19 : decode cX2_noteChanges 19 = .ok (.invokestatic 67, 3) := by decide +kernel
theorem dX2_noteChanges_22 : decode cX2_noteChanges 22 = .ok (.ifCond .ne 12, 3) := by decide +kernel
theorem dX2_noteChanges_25 : decode cX2_noteChanges 25 = .ok (.aload_n 0, 1) := by decide +kernel
theorem dX2_noteChanges_26 : decode cX2_noteChanges 26 = .ok (.iload_n 1, 1) := by decide +kernel
theorem dX2_noteChanges_27 : decode cX2_noteChanges 27 = .ok (.iload_n 2, 1) := by decide +kernel
theorem dX2_noteChanges_28 : decode cX2_noteChanges 28 = .ok (.invokevirtual 120, 3) := by decide +kernel
theorem dX2_noteChanges_31 : decode cX2_noteChanges 31 = .ok (.ifCond .eq 33, 3) := by decide +kernel
theorem dX2_noteChanges_34 : decode cX2_noteChanges 34 = .ok (.aload_n 0, 1) := by decide +kernel
theorem dX2_noteChanges_35 : decode cX2_noteChanges 35 = .ok (.getfield 21, 3) := by decide +kernel
theorem dX2_noteChanges_38 : decode cX2_noteChanges 38 = .ok (.aload_n 0, 1) := by decide +kernel
theorem dX2_noteChanges_39 : decode cX2_noteChanges 39 = .ok (.getfield 36, 3) := by decide +kernel
theorem dX2_noteChanges_42 : decode cX2_noteChanges 42 = .ok (.iload_n 1, 1) := by decide +kernel
theorem dX2_noteChanges_43 : decode cX2_noteChanges 43 = .ok (.iastore, 1) := by decide +kernel
theorem dX2_noteChanges_44 : decode cX2_noteChanges 44 = .ok (.aload_n 0, 1) := by decide +kernel
theorem dX2_noteChanges_45 : decode cX2_noteChanges 45 = .ok (.getfield 24, 3) := by decide +kernel
theorem dX2_noteChanges_48 : decode cX2_noteChanges 48 = .ok (.aload_n 0, 1) := by decide +kernel
theorem dX2_noteChanges_49 : decode cX2_noteChanges 49 = .ok (.getfield 36, 3) := by decide +kernel
theorem dX2_noteChanges_52 : decode cX2_noteChanges 52 = .ok (.iload_n 2, 1) := by decide +kernel
theorem dX2_noteChanges_53 : decode cX2_noteChanges 53 = .ok (.iastore, 1) := by decide +kernel
theorem dX2_noteChanges_54 : decode cX2_noteChanges 54 = .ok (.aload_n 0, 1) := by decide +kernel
theorem dX2_noteChanges_55 : decode cX2_noteChanges 55 = .ok (.dup, 1) := by decide +kernel
theorem dX2_noteChanges_56 : decode cX2_noteChanges 56 = .ok (.getfield 36, 3) := by decide +kernel
theorem dX2_noteChanges_59 : decode cX2_noteChanges 59 = .ok (.iconst 1, 1) := by decide +kernel
theorem dX2_noteChanges_60 : decode cX2_noteChanges 60 = .ok (.iadd, 1) := by decide +kernel
theorem dX2_noteChanges_61 : decode cX2_noteChanges 61 = .ok (.putfield 36, 3) := by decide +kernel
theorem dX2_noteChanges_64 : decode cX2_noteChanges 64 = .ok (.iinc 2 1, 3) := by decide +kernel
theorem dX2_noteChanges_67 : decode cX2_noteChanges 67 = .ok (.goto (-65), 3) := by decide +kernel
theorem dX2_noteChanges_70 : decode cX2_noteChanges 70 = .ok (.return_, 1) := by decide +kernel
theorem dX2_isOther_0 : decode cX2_isOther 0 = .ok (.aload_n 0, 1) := by decide +kernel
theorem dX2_isOther_1 : decode cX2_isOther 1 = .ok (.getfield 15, 3) := by decide +kernel
theorem dX2_isOther_4 : decode cX2_isOther 4 = .ok (.iload_n 1, 1) := by decide +kernel
theorem dX2_isOther_5 : decode cX2_isOther 5 = .ok (.iconst 1, 1) := by decide +kernel
theorem dX2_isOther_6 : decode cX2_isOther 6 = .ok (.isub, 1) := by decide +kernel
theorem dX2_isOther_7 : decode cX2_isOther 7 = .ok (.iaload, 1) := by decide +kernel
theorem dX2_isOther_8 : decode cX2_isOther 8 = .ok (.iload_n 2, 1) := by decide +kernel
theorem dX2_isOther_9 : decode cX2_isOther 9 = .ok (.invokestatic 67, 3) := by decide +kernel
theorem dX2_isOther_12 : decode cX2_isOther 12 = .ok (.istore_n 3, 1) := by decide +kernel
theorem dX2_isOther_13 : decode cX2_isOther 13 = .ok (.aload_n 0, 1) := by decide +kernel
theorem dX2_isOther_14 : decode cX2_isOther 14 = .ok (.getfield 15, 3) := by decide +kernel
theorem dX2_isOther_17 : decode cX2_isOther 17 = .ok (.iload_n 1, 1) := by decide +kernel
theorem dX2_isOther_18 : decode cX2_isOther 18 = .ok (.iaload, 1) := by decide +kernel
theorem dX2_isOther_19 : decode cX2_isOther 19 = .ok (.iload_n 2, 1) := by decide +kernel
theorem dX2_isOther_20 : decode cX2_isOther 20 = .ok (.invokestatic 67, 3) := by decide +kernel
theorem dX2_isOther_23 : decode cX2_isOther 23 = .ok (.istore 4, 2) := by decide +kernel
theorem dX2_isOther_25 : decode cX2_isOther 25 = .ok (.iload_n 3, 1) := by decide +kernel
theorem dX2_isOther_26 : decode cX2_isOther 26 = .ok (.iload 4, 2) := by decide +kernel
theorem dX2_isOther_28 : decode cX2_isOther 28 = .ok (.if_icmp .ne 32, 3) := by decide +kernel
theorem dX2_isOther_31 : decode cX2_isOther 31 = .ok (.iload 4, 2) := by decide +kernel
theorem dX2_isOther_33 : decode cX2_isOther 33 = .ok (.ifCond .eq 31, 3) := by decide +kernel
theorem dX2_isOther_36 : decode cX2_isOther 36 = .ok (.aload_n 0, 1) := by decide +kernel
theorem dX2_isOther_37 : decode cX2_isOther 37 = .ok (.getfield 40, 3) := by decide +kernel
theorem dX2_isOther_40 : decode cX2_isOther 40 = .ok (.aload_n 0, 1) := by decide +kernel
theorem dX2_isOther_41 : decode cX2_isOther 41 = .ok (.iload_n 1, 1) := by decide +kernel
theorem dX2_isOther_42 : decode cX2_isOther 42 = .ok (.iconst 1, 1) := by decide +kernel
theorem dX2_isOther_43 : decode cX2_isOther 43 = .ok (.isub, 1) := by decide +kernel
theorem dX2_isOther_44 : decode cX2_isOther 44 = .ok (.iload_n 2, 1) := by decide +kernel
theorem dX2_isOther_45 : decode cX2_isOther 45 = .ok (.invokevirtual 71, 3) := by decide +kernel
theorem dX2_isOther_48 : decode cX2_isOther 48 = .ok (.aload_n 0, 1) := by decide +kernel
theorem dX2_isOther_49 : decode cX2_isOther 49 = .ok (.iload_n 1, 1) := by decide +kernel
theorem dX2_isOther_50 : decode cX2_isOther 50 = .ok (.iload_n 2, 1) := by decide +kernel
theorem dX2_isOther_51 : decode cX2_isOther 51 = .ok (.invokevirtual 71, 3) := by decide +kernel
theorem dX2_isOther_54 : decode cX2_isOther 54 = .ok (.invokevirtual 117, 3) := by decide +kernel
theorem dX2_isOther_57 : decode cX2_isOther 57 = .ok (.ifCond .eq 7, 3) := by decide +kernel
theorem dX2_isOther_60 : decode cX2_isOther 60 = .ok (.iconst 1, 1) := by decide +kernel
theorem dX2_isOther_61 : decode cX2_isOther 61 = .ok (.goto 4, 3) := by decide +kernel
theorem dX2_isOther_64 : decode cX2_isOther 64 = .ok (.iconst 0, 1) := by decide +kernel
theorem dX2_isOther_65 : decode cX2_isOther 65 = .ok (.ireturn, 1) := by decide +kernel
theorem dX2_isIn_0 : decode cX2_isIn 0 = .ok (.iload_n 0, 1) := by decide +kernel
theorem dX2_isIn_1 : decode cX2_isIn 1 = .ok (.iload_n 1, 1) := by decide +kernel
theorem dX2_isIn_2 : decode cX2_isIn 2 = .ok (.ishr, 1) := by decide +kernel
theorem dX2_isIn_3 : decode cX2_isIn 3 = .ok (.iconst 1, 1) := by decide +kernel
theorem dX2_isIn_4 : decode cX2_isIn 4 = .ok (.iand, 1) := by decide +kernel
theorem dX2_isIn_5 : decode cX2_isIn 5 = .ok (.ifCond .eq 7, 3) := by decide +kernel
theorem dX2_isIn_8 : decode cX2_isIn 8 = .ok (.iconst 1, 1) := by decide +kernel
theorem dX2_isIn_9 : decode cX2_isIn 9 = .ok (.goto 4, 3) := by decide +kernel
theorem dX2_isIn_12 : decode cX2_isIn 12 = .ok (.iconst 0, 1) := by decide +kernel
theorem dX2_isIn_13 : decode cX2_isIn 13 = .ok (.ireturn, 1) := by decide +kernel
theorem dX2_isFilling_0 : decode cX2_isFilling 0 = .ok (.iload_n 0, 1) := by decide +kernel
theorem dX2_isFilling_1 : decode cX2_isFilling 1 = .ok (.iconst 1, 1) := by decide +kernel
theorem dX2_isFilling_2 : decode cX2_isFilling 2 = .ok (.if_icmp .ne 8, 3) := by decide +kernel
theorem dX2_isFilling_5 : decode cX2_isFilling 5 = .ok (.iload_n 1, 1) := by decide +kernel
theorem dX2_isFilling_6 : decode cX2_isFilling 6 = .ok (.iconst 1, 1) := by decide +kernel
theorem dX2_isFilling_7 : decode cX2_isFilling 7 = .ok (.if_icmp .eq 13, 3) := by decide +kernel
theorem dX2_isFilling_10 : decode cX2_isFilling 10 = .ok (.iload_n 0, 1) := by decide +kernel
theorem dX2_isFilling_11 : decode cX2_isFilling 11 = .ok (.iconst 5, 1) := by decide +kernel
theorem dX2_isFilling_12 : decode cX2_isFilling 12 = .ok (.if_icmp .ne 12, 3) := by decide +kernel
theorem dX2_isFilling_15 : decode cX2_isFilling 15 = .ok (.iload_n 1, 1) := by decide +kernel
theorem dX2_isFilling_16 : decode cX2_isFilling 16 = .ok (.iconst 4, 1) := by decide +kernel
theorem dX2_isFilling_17 : decode cX2_isFilling 17 = .ok (.if_icmp .ne 7, 3) := by decide +kernel
theorem dX2_isFilling_20 : decode cX2_isFilling 20 = .ok (.iconst 1, 1) := by decide +kernel
theorem dX2_isFilling_21 : decode cX2_isFilling 21 = .ok (.goto 4, 3) := by decide +kernel
theorem dX2_isFilling_24 : decode cX2_isFilling 24 = .ok (.iconst 0, 1) := by decide +kernel
theorem dX2_isFilling_25 : decode cX2_isFilling 25 = .ok (.ireturn, 1) := by decide +kernel
theorem dX2_isNoteOrGone_0 : decode cX2_isNoteOrGone 0 = .ok (.iload_n 0, 1) := by decide +kernel
theorem dX2_isNoteOrGone_1 : decode cX2_isNoteOrGone 1 = .ok (.iconst 2, 1) := by decide +kernel
theorem dX2_isNoteOrGone_2 : decode cX2_isNoteOrGone 2 = .ok (.if_icmp .eq 8, 3) := by decide +kernel
theorem dX2_isNoteOrGone_5 : decode cX2_isNoteOrGone 5 = .ok (.iload_n 0, 1) := by decide +kernel
theorem dX2_isNoteOrGone_6 : decode cX2_isNoteOrGone 6 = .ok (.iconst 5, 1) := by decide +kernel
theorem dX2_isNoteOrGone_7 : decode cX2_isNoteOrGone 7 = .ok (.if_icmp .ne 7, 3) := by decide +kernel
theorem dX2_isNoteOrGone_10 : decode cX2_isNoteOrGone 10 = .ok (.iconst 1, 1) := by decide +kernel
theorem dX2_isNoteOrGone_11 : decode cX2_isNoteOrGone 11 = .ok (.goto 4, 3) := by decide +kernel
theorem dX2_isNoteOrGone_14 : decode cX2_isNoteOrGone 14 = .ok (.iconst 0, 1) := by decide +kernel
theorem dX2_isNoteOrGone_15 : decode cX2_isNoteOrGone 15 = .ok (.ireturn, 1) := by decide +kernel
theorem dX3_init_0 : decode cX3_init 0 = .ok (.aload_n 0, 1) := by decide +kernel
theorem dX3_init_1 : decode cX3_init 1 = .ok (.invokespecial 3, 3) := by decide +kernel
theorem dX3_init_4 : decode cX3_init 4 = .ok (.aload_n 0, 1) := by decide +kernel
theorem dX3_init_5 : decode cX3_init 5 = .ok (.bipush 60, 2) := by decide +kernel
theorem dX3_init_7 : decode cX3_init 7 = .ok (.newarray .int, 2) := by decide +kernel
theorem dX3_init_9 : decode cX3_init 9 = .ok (.putfield 9, 3) := by decide +kernel
theorem dX3_init_12 : decode cX3_init 12 = .ok (.aload_n 0, 1) := by decide +kernel
theorem dX3_init_13 : decode cX3_init 13 = .ok (.iconst 1, 1) := by decide +kernel
theorem dX3_init_14 : decode cX3_init 14 = .ok (.putfield 15, 3) := by decide +kernel
theorem dX3_init_17 : decode cX3_init 17 = .ok (.aload_n 0, 1) := by decide +kernel
theorem dX3_init_18 : decode cX3_init 18 = .ok (.iconst 0, 1) := by decide +kernel
theorem dX3_init_19 : decode cX3_init 19 = .ok (.putfield 19, 3) := by decide +kernel
theorem dX3_init_22 : decode cX3_init 22 = .ok (.aload_n 0, 1) := by decide +kernel
theorem dX3_init_23 : decode cX3_init 23 = .ok (.iconst 0, 1) := by decide +kernel
theorem dX3_init_24 : decode cX3_init 24 = .ok (.putfield 23, 3) := by decide +kernel
theorem dX3_init_27 : decode cX3_init 27 = .ok (.return_, 1) := by decide +kernel
theorem dX3_renew_0 : decode cX3_renew 0 = .ok (.aload_n 0, 1) := by decide +kernel
theorem dX3_renew_1 : decode cX3_renew 1 = .ok (.iconst 0, 1) := by decide +kernel
theorem dX3_renew_2 : decode cX3_renew 2 = .ok (.putfield 15, 3) := by decide +kernel
theorem dX3_renew_5 : decode cX3_renew 5 = .ok (.aload_n 0, 1) := by decide +kernel
theorem dX3_renew_6 : decode cX3_renew 6 = .ok (.iload_n 1, 1) := by decide +kernel
theorem dX3_renew_7 : decode cX3_renew 7 = .ok (.putfield 19, 3) := by decide +kernel
theorem dX3_renew_10 : decode cX3_renew 10 = .ok (.aload_n 0, 1) := by decide +kernel
theorem dX3_renew_11 : decode cX3_renew 11 = .ok (.iload_n 2, 1) := by decide +kernel
theorem dX3_renew_12 : decode cX3_renew 12 = .ok (.putfield 23, 3) := by decide +kernel
theorem dX3_renew_15 : decode cX3_renew 15 = .ok (.aload_n 0, 1) := by decide +kernel
theorem dX3_renew_16 : decode cX3_renew 16 = .ok (.getfield 9, 3) := by decide +kernel
theorem dX3_renew_19 : decode cX3_renew 19 = .ok (.iconst 0, 1) := by decide +kernel
theorem dX3_renew_20 : decode cX3_renew 20 = .ok (.invokestatic 26, 3) := by decide +kernel
theorem dX3_renew_23 : decode cX3_renew 23 = .ok (.return_, 1) := by decide +kernel
theorem dX3_findingAt_0 : decode cX3_findingAt 0 = .ok (.aload_n 0, 1) := by decide +kernel
theorem dX3_findingAt_1 : decode cX3_findingAt 1 = .ok (.getfield 15, 3) := by decide +kernel
theorem dX3_findingAt_4 : decode cX3_findingAt 4 = .ok (.ifCond .eq 5, 3) := by decide +kernel
theorem dX3_findingAt_7 : decode cX3_findingAt 7 = .ok (.iconst 1, 1) := by decide +kernel
theorem dX3_findingAt_8 : decode cX3_findingAt 8 = .ok (.ireturn, 1) := by decide +kernel
theorem dX3_findingAt_9 : decode cX3_findingAt 9 = .ok (.aload_n 0, 1) := by decide +kernel
theorem dX3_findingAt_10 : decode cX3_findingAt 10 = .ok (.getfield 19, 3) := by decide +kernel
theorem dX3_findingAt_13 : decode cX3_findingAt 13 = .ok (.iload_n 1, 1) := by decide +kernel
theorem dX3_findingAt_14 : decode cX3_findingAt 14 = .ok (.if_icmp .eq 5, 3) := by decide +kernel
theorem dX3_findingAt_17 : decode cX3_findingAt 17 = .ok (.iconst 3, 1) := by decide +kernel
theorem dX3_findingAt_18 : decode cX3_findingAt 18 = .ok (.ireturn, 1) := by decide +kernel
theorem dX3_findingAt_19 : decode cX3_findingAt 19 = .ok (.iload_n 2, 1) := by decide +kernel
theorem dX3_findingAt_20 : decode cX3_findingAt 20 = .ok (.ifCond .lt 11, 3) := by decide +kernel
theorem dX3_findingAt_23 : decode cX3_findingAt 23 = .ok (.iload_n 2, 1) := by decide +kernel
theorem dX3_findingAt_24 : decode cX3_findingAt 24 = .ok (.aload_n 0, 1) := by decide +kernel
theorem dX3_findingAt_25 : decode cX3_findingAt 25 = .ok (.getfield 23, 3) := by decide +kernel
theorem dX3_findingAt_28 : decode cX3_findingAt 28 = .ok (.if_icmp .lt 7, 3) := by decide +kernel
theorem dX3_findingAt_31 : decode cX3_findingAt 31 = .ok (.iconst 2, 1) := by decide +kernel
theorem dX3_findingAt_32 : decode cX3_findingAt 32 = .ok (.goto 4, 3) := by decide +kernel
theorem dX3_findingAt_35 : decode cX3_findingAt 35 = .ok (.iconst 0, 1) := by decide +kernel
theorem dX3_findingAt_36 : decode cX3_findingAt 36 = .ok (.ireturn, 1) := by decide +kernel
theorem dX3_hasItems_0 : decode cX3_hasItems 0 = .ok (.iload_n 1, 1) := by decide +kernel
theorem dX3_hasItems_1 : decode cX3_hasItems 1 = .ok (.ifCond .lt 21, 3) := by decide +kernel
theorem dX3_hasItems_4 : decode cX3_hasItems 4 = .ok (.iload_n 2, 1) := by decide +kernel
theorem dX3_hasItems_5 : decode cX3_hasItems 5 = .ok (.ifCond .lt 17, 3) := by decide +kernel
theorem dX3_hasItems_8 : decode cX3_hasItems 8 = .ok (.iload_n 2, 1) := by decide +kernel
theorem dX3_hasItems_9 : decode cX3_hasItems 9 = .ok (.aload_n 0, 1) := by decide +kernel
theorem dX3_hasItems_10 : decode cX3_hasItems 10 = .ok (.getfield 23, 3) := by decide +kernel
theorem dX3_hasItems_13 : decode cX3_hasItems 13 = .ok (.iload_n 1, 1) := by decide +kernel
theorem dX3_hasItems_14 : decode cX3_hasItems 14 = .ok (.isub, 1) := by decide +kernel
theorem dX3_hasItems_15 : decode cX3_hasItems 15 = .ok (.if_icmp .gt 7, 3) := by decide +kernel
theorem dX3_hasItems_18 : decode cX3_hasItems 18 = .ok (.iconst 1, 1) := by decide +kernel
theorem dX3_hasItems_19 : decode cX3_hasItems 19 = .ok (.goto 4, 3) := by decide +kernel
theorem dX3_hasItems_22 : decode cX3_hasItems 22 = .ok (.iconst 0, 1) := by decide +kernel
theorem dX3_hasItems_23 : decode cX3_hasItems 23 = .ok (.ireturn, 1) := by decide +kernel
theorem dX3_layItem_0 : decode cX3_layItem 0 = .ok (.aload_n 0, 1) := by decide +kernel
theorem dX3_layItem_1 : decode cX3_layItem 1 = .ok (.getfield 19, 3) := by decide +kernel
theorem dX3_layItem_4 : decode cX3_layItem 4 = .ok (.lookupswitch 50 #[(0, 28), (1, 39)], 28) := by decide +kernel
theorem dX3_layItem_32 : decode cX3_layItem 32 = .ok (.aload_n 0, 1) := by decide +kernel
theorem dX3_layItem_33 : decode cX3_layItem 33 = .ok (.getfield 9, 3) := by decide +kernel
theorem dX3_layItem_36 : decode cX3_layItem 36 = .ok (.iload_n 1, 1) := by decide +kernel
theorem dX3_layItem_37 : decode cX3_layItem 37 = .ok (.iload_n 2, 1) := by decide +kernel
theorem dX3_layItem_38 : decode cX3_layItem 38 = .ok (.i2b, 1) := by decide +kernel
theorem dX3_layItem_39 : decode cX3_layItem 39 = .ok (.iastore, 1) := by decide +kernel
theorem dX3_layItem_40 : decode cX3_layItem 40 = .ok (.goto 21, 3) := by decide +kernel
theorem dX3_layItem_43 : decode cX3_layItem 43 = .ok (.aload_n 0, 1) := by decide +kernel
theorem dX3_layItem_44 : decode cX3_layItem 44 = .ok (.getfield 9, 3) := by decide +kernel
theorem dX3_layItem_47 : decode cX3_layItem 47 = .ok (.iload_n 1, 1) := by decide +kernel
theorem dX3_layItem_48 : decode cX3_layItem 48 = .ok (.iload_n 2, 1) := by decide +kernel
theorem dX3_layItem_49 : decode cX3_layItem 49 = .ok (.i2s, 1) := by decide +kernel
theorem dX3_layItem_50 : decode cX3_layItem 50 = .ok (.iastore, 1) := by decide +kernel
theorem dX3_layItem_51 : decode cX3_layItem 51 = .ok (.goto 10, 3) := by decide +kernel
theorem dX3_layItem_54 : decode cX3_layItem 54 = .ok (.aload_n 0, 1) := by decide +kernel
theorem dX3_layItem_55 : decode cX3_layItem 55 = .ok (.getfield 9, 3) := by decide +kernel
theorem dX3_layItem_58 : decode cX3_layItem 58 = .ok (.iload_n 1, 1) := by decide +kernel
theorem dX3_layItem_59 : decode cX3_layItem 59 = .ok (.iload_n 2, 1) := by decide +kernel
theorem dX3_layItem_60 : decode cX3_layItem 60 = .ok (.iastore, 1) := by decide +kernel
theorem dX3_layItem_61 : decode cX3_layItem 61 = .ok (.return_, 1) := by decide +kernel
theorem dX4_init_0 : decode cX4_init 0 = .ok (.aload_n 0, 1) := by decide +kernel
theorem dX4_init_1 : decode cX4_init 1 = .ok (.invokespecial 3, 3) := by decide +kernel
theorem dX4_init_4 : decode cX4_init 4 = .ok (.aload_n 0, 1) := by decide +kernel
theorem dX4_init_5 : decode cX4_init 5 = .ok (.bipush 40, 2) := by decide +kernel
theorem dX4_init_7 : decode cX4_init 7 = .ok (.newarray .int, 2) := by decide +kernel
theorem dX4_init_9 : decode cX4_init 9 = .ok (.putfield 9, 3) := by decide +kernel
theorem dX4_init_12 : decode cX4_init 12 = .ok (.aload_n 0, 1) := by decide +kernel
theorem dX4_init_13 : decode cX4_init 13 = .ok (.bipush 40, 2) := by decide +kernel
theorem dX4_init_15 : decode cX4_init 15 = .ok (.newarray .int, 2) := by decide +kernel
theorem dX4_init_17 : decode cX4_init 17 = .ok (.putfield 15, 3) := by decide +kernel
theorem dX4_init_20 : decode cX4_init 20 = .ok (.aload_n 0, 1) := by decide +kernel
theorem dX4_init_21 : decode cX4_init 21 = .ok (.bipush 40, 2) := by decide +kernel
theorem dX4_init_23 : decode cX4_init 23 = .ok (.newarray .int, 2) := by decide +kernel
theorem dX4_init_25 : decode cX4_init 25 = .ok (.putfield 18, 3) := by decide +kernel
theorem dX4_init_28 : decode cX4_init 28 = .ok (.aload_n 0, 1) := by decide +kernel
theorem dX4_init_29 : decode cX4_init 29 = .ok (.bipush 40, 2) := by decide +kernel
theorem dX4_init_31 : decode cX4_init 31 = .ok (.newarray .int, 2) := by decide +kernel
theorem dX4_init_33 : decode cX4_init 33 = .ok (.putfield 21, 3) := by decide +kernel
theorem dX4_init_36 : decode cX4_init 36 = .ok (.aload_n 0, 1) := by decide +kernel
theorem dX4_init_37 : decode cX4_init 37 = .ok (.bipush 8, 2) := by decide +kernel
theorem dX4_init_39 : decode cX4_init 39 = .ok (.newarray .int, 2) := by decide +kernel
theorem dX4_init_41 : decode cX4_init 41 = .ok (.putfield 24, 3) := by decide +kernel
theorem dX4_init_44 : decode cX4_init 44 = .ok (.aload_n 0, 1) := by decide +kernel
theorem dX4_init_45 : decode cX4_init 45 = .ok (.iconst 0, 1) := by decide +kernel
theorem dX4_init_46 : decode cX4_init 46 = .ok (.putfield 27, 3) := by decide +kernel
theorem dX4_init_49 : decode cX4_init 49 = .ok (.aload_n 0, 1) := by decide +kernel
theorem dX4_init_50 : decode cX4_init 50 = .ok (.iconst 0, 1) := by decide +kernel
theorem dX4_init_51 : decode cX4_init 51 = .ok (.putfield 31, 3) := by decide +kernel
theorem dX4_init_54 : decode cX4_init 54 = .ok (.return_, 1) := by decide +kernel
theorem dX4_append_0 : decode cX4_append 0 = .ok (.aload_n 0, 1) := by decide +kernel
theorem dX4_append_1 : decode cX4_append 1 = .ok (.getfield 9, 3) := by decide +kernel
theorem dX4_append_4 : decode cX4_append 4 = .ok (.aload_n 0, 1) := by decide +kernel
theorem dX4_append_5 : decode cX4_append 5 = .ok (.getfield 27, 3) := by decide +kernel
theorem dX4_append_8 : decode cX4_append 8 = .ok (.iload_n 1, 1) := by decide +kernel
theorem dX4_append_9 : decode cX4_append 9 = .ok (.iastore, 1) := by decide +kernel
theorem dX4_append_10 : decode cX4_append 10 = .ok (.aload_n 0, 1) := by decide +kernel
theorem dX4_append_11 : decode cX4_append 11 = .ok (.getfield 15, 3) := by decide +kernel
theorem dX4_append_14 : decode cX4_append 14 = .ok (.aload_n 0, 1) := by decide +kernel
theorem dX4_append_15 : decode cX4_append 15 = .ok (.getfield 27, 3) := by decide +kernel
theorem dX4_append_18 : decode cX4_append 18 = .ok (.iload_n 2, 1) := by decide +kernel
theorem dX4_append_19 : decode cX4_append 19 = .ok (.iastore, 1) := by decide +kernel
theorem dX4_append_20 : decode cX4_append 20 = .ok (.aload_n 0, 1) := by decide +kernel
theorem dX4_append_21 : decode cX4_append 21 = .ok (.getfield 18, 3) := by decide +kernel
theorem dX4_append_24 : decode cX4_append 24 = .ok (.aload_n 0, 1) := by decide +kernel
theorem dX4_append_25 : decode cX4_append 25 = .ok (.getfield 27, 3) := by decide +kernel
theorem dX4_append_28 : decode cX4_append 28 = .ok (.iload_n 3, 1) := by decide +kernel
theorem dX4_append_29 : decode cX4_append 29 = .ok (.iastore, 1) := by decide +kernel
theorem dX4_append_30 : decode cX4_append 30 = .ok (.aload_n 0, 1) := by decide +kernel
theorem dX4_append_31 : decode cX4_append 31 = .ok (.getfield 21, 3) := by decide +kernel
theorem dX4_append_34 : decode cX4_append 34 = .ok (.aload_n 0, 1) := by decide +kernel
theorem dX4_append_35 : decode cX4_append 35 = .ok (.getfield 27, 3) := by decide +kernel
theorem dX4_append_38 : decode cX4_append 38 = .ok (.aload_n 0, 1) := by decide +kernel
theorem dX4_append_39 : decode cX4_append 39 = .ok (.getfield 31, 3) := by decide +kernel
theorem dX4_append_42 : decode cX4_append 42 = .ok (.iastore, 1) := by decide +kernel
theorem dX4_append_43 : decode cX4_append 43 = .ok (.aload_n 0, 1) := by decide +kernel
theorem dX4_append_44 : decode cX4_append 44 = .ok (.dup, 1) := by decide +kernel
theorem dX4_append_45 : decode cX4_append 45 = .ok (.getfield 27, 3) := by decide +kernel
theorem dX4_append_48 : decode cX4_append 48 = .ok (.iconst 1, 1) := by decide +kernel
theorem dX4_append_49 : decode cX4_append 49 = .ok (.iadd, 1) := by decide +kernel
theorem dX4_append_50 : decode cX4_append 50 = .ok (.putfield 27, 3) := by decide +kernel
theorem dX4_append_53 : decode cX4_append 53 = .ok (.return_, 1) := by decide +kernel
theorem dX4_openNext_0 : decode cX4_openNext 0 = .ok (.aload_n 0, 1) := by decide +kernel
theorem dX4_openNext_1 : decode cX4_openNext 1 = .ok (.dup, 1) := by decide +kernel
theorem dX4_openNext_2 : decode cX4_openNext 2 = .ok (.getfield 31, 3) := by decide +kernel
theorem dX4_openNext_5 : decode cX4_openNext 5 = .ok (.iconst 1, 1) := by decide +kernel
theorem dX4_openNext_6 : decode cX4_openNext 6 = .ok (.iadd, 1) := by decide +kernel
theorem dX4_openNext_7 : decode cX4_openNext 7 = .ok (.putfield 31, 3) := by decide +kernel
theorem dX4_openNext_10 : decode cX4_openNext 10 = .ok (.aload_n 0, 1) := by decide +kernel
theorem dX4_openNext_11 : decode cX4_openNext 11 = .ok (.getfield 24, 3) := by decide +kernel
theorem dX4_openNext_14 : decode cX4_openNext 14 = .ok (.aload_n 0, 1) := by decide +kernel
theorem dX4_openNext_15 : decode cX4_openNext 15 = .ok (.getfield 31, 3) := by decide +kernel
theorem dX4_openNext_18 : decode cX4_openNext 18 = .ok (.aload_n 0, 1) := by decide +kernel
theorem dX4_openNext_19 : decode cX4_openNext 19 = .ok (.getfield 27, 3) := by decide +kernel
theorem dX4_openNext_22 : decode cX4_openNext 22 = .ok (.iastore, 1) := by decide +kernel
theorem dX4_openNext_23 : decode cX4_openNext 23 = .ok (.return_, 1) := by decide +kernel
theorem dX4_has_0 : decode cX4_has 0 = .ok (.iload_n 1, 1) := by decide +kernel
theorem dX4_has_1 : decode cX4_has 1 = .ok (.ifCond .lt 15, 3) := by decide +kernel
theorem dX4_has_4 : decode cX4_has 4 = .ok (.iload_n 1, 1) := by decide +kernel
theorem dX4_has_5 : decode cX4_has 5 = .ok (.aload_n 0, 1) := by decide +kernel
theorem dX4_has_6 : decode cX4_has 6 = .ok (.getfield 27, 3) := by decide +kernel
theorem dX4_has_9 : decode cX4_has 9 = .ok (.if_icmp .ge 7, 3) := by decide +kernel
theorem dX4_has_12 : decode cX4_has 12 = .ok (.iconst 1, 1) := by decide +kernel
theorem dX4_has_13 : decode cX4_has 13 = .ok (.goto 4, 3) := by decide +kernel
theorem dX4_has_16 : decode cX4_has 16 = .ok (.iconst 0, 1) := by decide +kernel
theorem dX4_has_17 : decode cX4_has 17 = .ok (.ireturn, 1) := by decide +kernel
theorem dX4_hasRevision_0 : decode cX4_hasRevision 0 = .ok (.iload_n 1, 1) := by decide +kernel
theorem dX4_hasRevision_1 : decode cX4_hasRevision 1 = .ok (.ifCond .lt 15, 3) := by decide +kernel
theorem dX4_hasRevision_4 : decode cX4_hasRevision 4 = .ok (.iload_n 1, 1) := by decide +kernel
theorem dX4_hasRevision_5 : decode cX4_hasRevision 5 = .ok (.aload_n 0, 1) := by decide +kernel
theorem dX4_hasRevision_6 : decode cX4_hasRevision 6 = .ok (.getfield 31, 3) := by decide +kernel
theorem dX4_hasRevision_9 : decode cX4_hasRevision 9 = .ok (.if_icmp .gt 7, 3) := by decide +kernel
theorem dX4_hasRevision_12 : decode cX4_hasRevision 12 = .ok (.iconst 1, 1) := by decide +kernel
theorem dX4_hasRevision_13 : decode cX4_hasRevision 13 = .ok (.goto 4, 3) := by decide +kernel
theorem dX4_hasRevision_16 : decode cX4_hasRevision 16 = .ok (.iconst 0, 1) := by decide +kernel
theorem dX4_hasRevision_17 : decode cX4_hasRevision 17 = .ok (.ireturn, 1) := by decide +kernel
theorem dX4_openIsEmpty_0 : decode cX4_openIsEmpty 0 = .ok (.aload_n 0, 1) := by decide +kernel
theorem dX4_openIsEmpty_1 : decode cX4_openIsEmpty 1 = .ok (.getfield 24, 3) := by decide +kernel
theorem dX4_openIsEmpty_4 : decode cX4_openIsEmpty 4 = .ok (.aload_n 0, 1) := by decide +kernel
theorem dX4_openIsEmpty_5 : decode cX4_openIsEmpty 5 = .ok (.getfield 31, 3) := by decide +kernel
theorem dX4_openIsEmpty_8 : decode cX4_openIsEmpty 8 = .ok (.iaload, 1) := by decide +kernel
theorem dX4_openIsEmpty_9 : decode cX4_openIsEmpty 9 = .ok (.aload_n 0, 1) := by decide +kernel
theorem dX4_openIsEmpty_10 : decode cX4_openIsEmpty 10 = .ok (.getfield 27, 3) := by decide +kernel
theorem dX4_openIsEmpty_13 : decode cX4_openIsEmpty 13 = .ok (.if_icmp .lt 7, 3) := by decide +kernel
theorem dX4_openIsEmpty_16 : decode cX4_openIsEmpty 16 = .ok (.iconst 1, 1) := by decide +kernel
theorem dX4_openIsEmpty_17 : decode cX4_openIsEmpty 17 = .ok (.goto 4, 3) := by decide +kernel
theorem dX4_openIsEmpty_20 : decode cX4_openIsEmpty 20 = .ok (.iconst 0, 1) := by decide +kernel
theorem dX4_openIsEmpty_21 : decode cX4_openIsEmpty 21 = .ok (.ireturn, 1) := by decide +kernel
theorem dX4_isSeal_0 : decode cX4_isSeal 0 = .ok (.aload_n 0, 1) := by decide +kernel
theorem dX4_isSeal_1 : decode cX4_isSeal 1 = .ok (.getfield 15, 3) := by decide +kernel
theorem dX4_isSeal_4 : decode cX4_isSeal 4 = .ok (.iload_n 1, 1) := by decide +kernel
theorem dX4_isSeal_5 : decode cX4_isSeal 5 = .ok (.iaload, 1) := by decide +kernel
theorem dX4_isSeal_6 : decode cX4_isSeal 6 = .ok (.iconst 4, 1) := by decide +kernel
theorem dX4_isSeal_7 : decode cX4_isSeal 7 = .ok (.if_icmp .ne 7, 3) := by decide +kernel
theorem dX4_isSeal_10 : decode cX4_isSeal 10 = .ok (.iconst 1, 1) := by decide +kernel
theorem dX4_isSeal_11 : decode cX4_isSeal 11 = .ok (.goto 4, 3) := by decide +kernel
theorem dX4_isSeal_14 : decode cX4_isSeal 14 = .ok (.iconst 0, 1) := by decide +kernel
theorem dX4_isSeal_15 : decode cX4_isSeal 15 = .ok (.ireturn, 1) := by decide +kernel
theorem dX4_isClosed_0 : decode cX4_isClosed 0 = .ok (.aload_n 0, 1) := by decide +kernel
theorem dX4_isClosed_1 : decode cX4_isClosed 1 = .ok (.getfield 21, 3) := by decide +kernel
theorem dX4_isClosed_4 : decode cX4_isClosed 4 = .ok (.iload_n 1, 1) := by decide +kernel
theorem dX4_isClosed_5 : decode cX4_isClosed 5 = .ok (.iaload, 1) := by decide +kernel
theorem dX4_isClosed_6 : decode cX4_isClosed 6 = .ok (.aload_n 0, 1) := by decide +kernel
theorem dX4_isClosed_7 : decode cX4_isClosed 7 = .ok (.getfield 31, 3) := by decide +kernel
theorem dX4_isClosed_10 : decode cX4_isClosed 10 = .ok (.if_icmp .ge 7, 3) := by decide +kernel
theorem dX4_isClosed_13 : decode cX4_isClosed 13 = .ok (.iconst 1, 1) := by decide +kernel
theorem dX4_isClosed_14 : decode cX4_isClosed 14 = .ok (.goto 4, 3) := by decide +kernel
theorem dX4_isClosed_17 : decode cX4_isClosed 17 = .ok (.iconst 0, 1) := by decide +kernel
theorem dX4_isClosed_18 : decode cX4_isClosed 18 = .ok (.ireturn, 1) := by decide +kernel
theorem dX4_isClosedSeal_0 : decode cX4_isClosedSeal 0 = .ok (.aload_n 0, 1) := by decide +kernel
theorem dX4_isClosedSeal_1 : decode cX4_isClosedSeal 1 = .ok (.iload_n 1, 1) := by decide +kernel
theorem dX4_isClosedSeal_2 : decode cX4_isClosedSeal 2 = .ok (.invokevirtual 34, 3) := by decide +kernel
theorem dX4_isClosedSeal_5 : decode cX4_isClosedSeal 5 = .ok (.ifCond .eq 15, 3) := by decide +kernel
theorem dX4_isClosedSeal_8 : decode cX4_isClosedSeal 8 = .ok (.aload_n 0, 1) := by decide +kernel
theorem dX4_isClosedSeal_9 : decode cX4_isClosedSeal 9 = .ok (.iload_n 1, 1) := by decide +kernel
theorem dX4_isClosedSeal_10 : decode cX4_isClosedSeal 10 = .ok (.invokevirtual 38, 3) := by decide +kernel
theorem dX4_isClosedSeal_13 : decode cX4_isClosedSeal 13 = .ok (.ifCond .eq 7, 3) := by decide +kernel
theorem dX4_isClosedSeal_16 : decode cX4_isClosedSeal 16 = .ok (.iconst 1, 1) := by decide +kernel
theorem dX4_isClosedSeal_17 : decode cX4_isClosedSeal 17 = .ok (.goto 4, 3) := by decide +kernel
theorem dX4_isClosedSeal_20 : decode cX4_isClosedSeal 20 = .ok (.iconst 0, 1) := by decide +kernel
theorem dX4_isClosedSeal_21 : decode cX4_isClosedSeal 21 = .ok (.ireturn, 1) := by decide +kernel
theorem dX4_unlike_0 : decode cX4_unlike 0 = .ok (.aload_n 0, 1) := by decide +kernel
theorem dX4_unlike_1 : decode cX4_unlike 1 = .ok (.getfield 15, 3) := by decide +kernel
theorem dX4_unlike_4 : decode cX4_unlike 4 = .ok (.iload_n 1, 1) := by decide +kernel
theorem dX4_unlike_5 : decode cX4_unlike 5 = .ok (.iaload, 1) := by decide +kernel
theorem dX4_unlike_6 : decode cX4_unlike 6 = .ok (.aload_n 0, 1) := by decide +kernel
theorem dX4_unlike_7 : decode cX4_unlike 7 = .ok (.getfield 15, 3) := by decide +kernel
theorem dX4_unlike_10 : decode cX4_unlike 10 = .ok (.iload_n 2, 1) := by decide +kernel
theorem dX4_unlike_11 : decode cX4_unlike 11 = .ok (.iaload, 1) := by decide +kernel
theorem dX4_unlike_12 : decode cX4_unlike 12 = .ok (.if_icmp .ne 18, 3) := by decide +kernel
theorem dX4_unlike_15 : decode cX4_unlike 15 = .ok (.aload_n 0, 1) := by decide +kernel
theorem dX4_unlike_16 : decode cX4_unlike 16 = .ok (.getfield 18, 3) := by decide +kernel
theorem dX4_unlike_19 : decode cX4_unlike 19 = .ok (.iload_n 1, 1) := by decide +kernel
theorem dX4_unlike_20 : decode cX4_unlike 20 = .ok (.iaload, 1) := by decide +kernel
theorem dX4_unlike_21 : decode cX4_unlike 21 = .ok (.aload_n 0, 1) := by decide +kernel
theorem dX4_unlike_22 : decode cX4_unlike 22 = .ok (.getfield 18, 3) := by decide +kernel
theorem dX4_unlike_25 : decode cX4_unlike 25 = .ok (.iload_n 2, 1) := by decide +kernel
theorem dX4_unlike_26 : decode cX4_unlike 26 = .ok (.iaload, 1) := by decide +kernel
theorem dX4_unlike_27 : decode cX4_unlike 27 = .ok (.if_icmp .eq 7, 3) := by decide +kernel
theorem dX4_unlike_30 : decode cX4_unlike 30 = .ok (.iconst 1, 1) := by decide +kernel
theorem dX4_unlike_31 : decode cX4_unlike 31 = .ok (.goto 4, 3) := by decide +kernel
theorem dX4_unlike_34 : decode cX4_unlike 34 = .ok (.iconst 0, 1) := by decide +kernel
theorem dX4_unlike_35 : decode cX4_unlike 35 = .ok (.ireturn, 1) := by decide +kernel
theorem dX4_kindOrGone_0 : decode cX4_kindOrGone 0 = .ok (.iload_n 1, 1) := by decide +kernel
theorem dX4_kindOrGone_1 : decode cX4_kindOrGone 1 = .ok (.ifCond .lt 20, 3) := by decide +kernel
theorem dX4_kindOrGone_4 : decode cX4_kindOrGone 4 = .ok (.iload_n 1, 1) := by decide +kernel
theorem dX4_kindOrGone_5 : decode cX4_kindOrGone 5 = .ok (.aload_n 0, 1) := by decide +kernel
theorem dX4_kindOrGone_6 : decode cX4_kindOrGone 6 = .ok (.getfield 27, 3) := by decide +kernel
theorem dX4_kindOrGone_9 : decode cX4_kindOrGone 9 = .ok (.if_icmp .ge 12, 3) := by decide +kernel
theorem dX4_kindOrGone_12 : decode cX4_kindOrGone 12 = .ok (.aload_n 0, 1) := by decide +kernel
theorem dX4_kindOrGone_13 : decode cX4_kindOrGone 13 = .ok (.getfield 15, 3) := by decide +kernel
theorem dX4_kindOrGone_16 : decode cX4_kindOrGone 16 = .ok (.iload_n 1, 1) := by decide +kernel
theorem dX4_kindOrGone_17 : decode cX4_kindOrGone 17 = .ok (.iaload, 1) := by decide +kernel
theorem dX4_kindOrGone_18 : decode cX4_kindOrGone 18 = .ok (.goto 4, 3) := by decide +kernel
theorem dX4_kindOrGone_21 : decode cX4_kindOrGone 21 = .ok (.iconst 5, 1) := by decide +kernel
theorem dX4_kindOrGone_22 : decode cX4_kindOrGone 22 = .ok (.ireturn, 1) := by decide +kernel
theorem dX4_behind_0 : decode cX4_behind 0 = .ok (.iload_n 1, 1) := by decide +kernel
theorem dX4_behind_1 : decode cX4_behind 1 = .ok (.aload_n 0, 1) := by decide +kernel
theorem dX4_behind_2 : decode cX4_behind 2 = .ok (.getfield 31, 3) := by decide +kernel
theorem dX4_behind_5 : decode cX4_behind 5 = .ok (.if_icmp .ge 14, 3) := by decide +kernel
theorem dX4_behind_8 : decode cX4_behind 8 = .ok (.aload_n 0, 1) := by decide +kernel
theorem dX4_behind_9 : decode cX4_behind 9 = .ok (.getfield 24, 3) := by decide +kernel
theorem dX4_behind_12 : decode cX4_behind 12 = .ok (.iload_n 1, 1) := by decide +kernel
theorem dX4_behind_13 : decode cX4_behind 13 = .ok (.iconst 1, 1) := by decide +kernel
theorem dX4_behind_14 : decode cX4_behind 14 = .ok (.iadd, 1) := by decide +kernel
theorem dX4_behind_15 : decode cX4_behind 15 = .ok (.iaload, 1) := by decide +kernel
theorem dX4_behind_16 : decode cX4_behind 16 = .ok (.goto 7, 3) := by decide +kernel
theorem dX4_behind_19 : decode cX4_behind 19 = .ok (.aload_n 0, 1) := by decide +kernel
theorem dX4_behind_20 : decode cX4_behind 20 = .ok (.getfield 27, 3) := by decide +kernel
theorem dX4_behind_23 : decode cX4_behind 23 = .ok (.ireturn, 1) := by decide +kernel
theorem dX4_firstByte_0 : decode cX4_firstByte 0 = .ok (.iconst 5, 1) := by decide +kernel
theorem dX4_firstByte_1 : decode cX4_firstByte 1 = .ok (.iload_n 1, 1) := by decide +kernel
theorem dX4_firstByte_2 : decode cX4_firstByte 2 = .ok (.imul, 1) := by decide +kernel
theorem dX4_firstByte_3 : decode cX4_firstByte 3 = .ok (.iconst 2, 1) := by decide +kernel
theorem dX4_firstByte_4 : decode cX4_firstByte 4 = .ok (.aload_n 0, 1) := by decide +kernel
theorem dX4_firstByte_5 : decode cX4_firstByte 5 = .ok (.getfield 21, 3) := by decide +kernel
theorem dX4_firstByte_8 : decode cX4_firstByte 8 = .ok (.iload_n 1, 1) := by decide +kernel
theorem dX4_firstByte_9 : decode cX4_firstByte 9 = .ok (.iaload, 1) := by decide +kernel
theorem dX4_firstByte_10 : decode cX4_firstByte 10 = .ok (.imul, 1) := by decide +kernel
theorem dX4_firstByte_11 : decode cX4_firstByte 11 = .ok (.iadd, 1) := by decide +kernel
theorem dX4_firstByte_12 : decode cX4_firstByte 12 = .ok (.ireturn, 1) := by decide +kernel
theorem dX4_firstByteOf_0 : decode cX4_firstByteOf 0 = .ok (.iconst 5, 1) := by decide +kernel
theorem dX4_firstByteOf_1 : decode cX4_firstByteOf 1 = .ok (.aload_n 0, 1) := by decide +kernel
theorem dX4_firstByteOf_2 : decode cX4_firstByteOf 2 = .ok (.getfield 24, 3) := by decide +kernel
theorem dX4_firstByteOf_5 : decode cX4_firstByteOf 5 = .ok (.iload_n 1, 1) := by decide +kernel
theorem dX4_firstByteOf_6 : decode cX4_firstByteOf 6 = .ok (.iaload, 1) := by decide +kernel
theorem dX4_firstByteOf_7 : decode cX4_firstByteOf 7 = .ok (.imul, 1) := by decide +kernel
theorem dX4_firstByteOf_8 : decode cX4_firstByteOf 8 = .ok (.iconst 2, 1) := by decide +kernel
theorem dX4_firstByteOf_9 : decode cX4_firstByteOf 9 = .ok (.iload_n 1, 1) := by decide +kernel
theorem dX4_firstByteOf_10 : decode cX4_firstByteOf 10 = .ok (.imul, 1) := by decide +kernel
theorem dX4_firstByteOf_11 : decode cX4_firstByteOf 11 = .ok (.iadd, 1) := by decide +kernel
theorem dX4_firstByteOf_12 : decode cX4_firstByteOf 12 = .ok (.ireturn, 1) := by decide +kernel
theorem dX4_behindBytesOf_0 : decode cX4_behindBytesOf 0 = .ok (.iload_n 1, 1) := by decide +kernel
theorem dX4_behindBytesOf_1 : decode cX4_behindBytesOf 1 = .ok (.aload_n 0, 1) := by decide +kernel
theorem dX4_behindBytesOf_2 : decode cX4_behindBytesOf 2 = .ok (.getfield 31, 3) := by decide +kernel
theorem dX4_behindBytesOf_5 : decode cX4_behindBytesOf 5 = .ok (.if_icmp .ge 22, 3) := by decide +kernel
theorem dX4_behindBytesOf_8 : decode cX4_behindBytesOf 8 = .ok (.iconst 5, 1) := by decide +kernel
theorem dX4_behindBytesOf_9 : decode cX4_behindBytesOf 9 = .ok (.aload_n 0, 1) := by decide +kernel
theorem dX4_behindBytesOf_10 : decode cX4_behindBytesOf 10 = .ok (.getfield 24, 3) := by decide +kernel
theorem dX4_behindBytesOf_13 : decode cX4_behindBytesOf 13 = .ok (.iload_n 1, 1) := by decide +kernel
theorem dX4_behindBytesOf_14 : decode cX4_behindBytesOf 14 = .ok (.iconst 1, 1) := by decide +kernel
theorem dX4_behindBytesOf_15 : decode cX4_behindBytesOf 15 = .ok (.iadd, 1) := by decide +kernel
theorem dX4_behindBytesOf_16 : decode cX4_behindBytesOf 16 = .ok (.iaload, 1) := by decide +kernel
theorem dX4_behindBytesOf_17 : decode cX4_behindBytesOf 17 = .ok (.imul, 1) := by decide +kernel
theorem dX4_behindBytesOf_18 : decode cX4_behindBytesOf 18 = .ok (.iconst 2, 1) := by decide +kernel
theorem dX4_behindBytesOf_19 : decode cX4_behindBytesOf 19 = .ok (.iload_n 1, 1) := by decide +kernel
theorem dX4_behindBytesOf_20 : decode cX4_behindBytesOf 20 = .ok (.iconst 1, 1) := by decide +kernel
theorem dX4_behindBytesOf_21 : decode cX4_behindBytesOf 21 = .ok (.iadd, 1) := by decide +kernel
theorem dX4_behindBytesOf_22 : decode cX4_behindBytesOf 22 = .ok (.imul, 1) := by decide +kernel
theorem dX4_behindBytesOf_23 : decode cX4_behindBytesOf 23 = .ok (.iadd, 1) := by decide +kernel
theorem dX4_behindBytesOf_24 : decode cX4_behindBytesOf 24 = .ok (.goto 13, 3) := by decide +kernel
theorem dX4_behindBytesOf_27 : decode cX4_behindBytesOf 27 = .ok (.iconst 5, 1) := by decide +kernel
theorem dX4_behindBytesOf_28 : decode cX4_behindBytesOf 28 = .ok (.aload_n 0, 1) := by decide +kernel
theorem dX4_behindBytesOf_29 : decode cX4_behindBytesOf 29 = .ok (.getfield 27, 3) := by decide +kernel
theorem dX4_behindBytesOf_32 : decode cX4_behindBytesOf 32 = .ok (.imul, 1) := by decide +kernel
theorem dX4_behindBytesOf_33 : decode cX4_behindBytesOf 33 = .ok (.iconst 2, 1) := by decide +kernel
theorem dX4_behindBytesOf_34 : decode cX4_behindBytesOf 34 = .ok (.iload_n 1, 1) := by decide +kernel
theorem dX4_behindBytesOf_35 : decode cX4_behindBytesOf 35 = .ok (.imul, 1) := by decide +kernel
theorem dX4_behindBytesOf_36 : decode cX4_behindBytesOf 36 = .ok (.iadd, 1) := by decide +kernel
theorem dX4_behindBytesOf_37 : decode cX4_behindBytesOf 37 = .ok (.ireturn, 1) := by decide +kernel
theorem dX5_init_0 : decode cX5_init 0 = .ok (.aload_n 0, 1) := by decide +kernel
theorem dX5_init_1 : decode cX5_init 1 = .ok (.invokespecial 3, 3) := by decide +kernel
theorem dX5_init_4 : decode cX5_init 4 = .ok (.aload_n 0, 1) := by decide +kernel
theorem dX5_init_5 : decode cX5_init 5 = .ok (.new 9, 3) := by decide +kernel
theorem dX5_init_8 : decode cX5_init 8 = .ok (.dup, 1) := by decide +kernel
theorem dX5_init_9 : decode cX5_init 9 = .ok (.invokespecial 11, 3) := by decide +kernel
theorem dX5_init_12 : decode cX5_init 12 = .ok (.putfield 12, 3) := by decide +kernel
theorem dX5_init_15 : decode cX5_init 15 = .ok (.aload_n 0, 1) := by decide +kernel
theorem dX5_init_16 : decode cX5_init 16 = .ok (.new 16, 3) := by decide +kernel
theorem dX5_init_19 : decode cX5_init 19 = .ok (.dup, 1) := by decide +kernel
theorem dX5_init_20 : decode cX5_init 20 = .ok (.invokespecial 18, 3) := by decide +kernel
theorem dX5_init_23 : decode cX5_init 23 = .ok (.putfield 19, 3) := by decide +kernel
theorem dX5_init_26 : decode cX5_init 26 = .ok (.aload_n 0, 1) := by decide +kernel
theorem dX5_init_27 : decode cX5_init 27 = .ok (.new 23, 3) := by decide +kernel
theorem dX5_init_30 : decode cX5_init 30 = .ok (.dup, 1) := by decide +kernel
theorem dX5_init_31 : decode cX5_init 31 = .ok (.aload_n 0, 1) := by decide +kernel
theorem dX5_init_32 : decode cX5_init 32 = .ok (.getfield 12, 3) := by decide +kernel
theorem dX5_init_35 : decode cX5_init 35 = .ok (.aload_n 0, 1) := by decide +kernel
theorem dX5_init_36 : decode cX5_init 36 = .ok (.getfield 19, 3) := by decide +kernel
theorem dX5_init_39 : decode cX5_init 39 = .ok (.invokespecial 25, 3) := by decide +kernel
theorem dX5_init_42 : decode cX5_init 42 = .ok (.putfield 28, 3) := by decide +kernel
theorem dX5_init_45 : decode cX5_init 45 = .ok (.aload_n 0, 1) := by decide +kernel
theorem dX5_init_46 : decode cX5_init 46 = .ok (.new 32, 3) := by decide +kernel
theorem dX5_init_49 : decode cX5_init 49 = .ok (.dup, 1) := by decide +kernel
theorem dX5_init_50 : decode cX5_init 50 = .ok (.aload_n 0, 1) := by decide +kernel
theorem dX5_init_51 : decode cX5_init 51 = .ok (.getfield 12, 3) := by decide +kernel
theorem dX5_init_54 : decode cX5_init 54 = .ok (.invokespecial 34, 3) := by decide +kernel
theorem dX5_init_57 : decode cX5_init 57 = .ok (.putfield 37, 3) := by decide +kernel
theorem dX5_init_60 : decode cX5_init 60 = .ok (.aload_n 0, 1) := by decide +kernel
theorem dX5_init_61 : decode cX5_init 61 = .ok (.new 32, 3) := by decide +kernel
theorem dX5_init_64 : decode cX5_init 64 = .ok (.dup, 1) := by decide +kernel
theorem dX5_init_65 : decode cX5_init 65 = .ok (.aload_n 0, 1) := by decide +kernel
theorem dX5_init_66 : decode cX5_init 66 = .ok (.getfield 12, 3) := by decide +kernel
theorem dX5_init_69 : decode cX5_init 69 = .ok (.invokespecial 34, 3) := by decide +kernel
theorem dX5_init_72 : decode cX5_init 72 = .ok (.putfield 41, 3) := by decide +kernel
theorem dX5_init_75 : decode cX5_init 75 = .ok (.aload_n 0, 1) := by decide +kernel
theorem dX5_init_76 : decode cX5_init 76 = .ok (.iconst 4, 1) := by decide +kernel
theorem dX5_init_77 : decode cX5_init 77 = .ok (.anewarray 44, 3) := by decide +kernel
theorem dX5_init_80 : decode cX5_init 80 = .ok (.putfield 46, 3) := by decide +kernel
theorem dX5_init_83 : decode cX5_init 83 = .ok (.aload_n 0, 1) := by decide +kernel
theorem dX5_init_84 : decode cX5_init 84 = .ok (.iconst 0, 1) := by decide +kernel
theorem dX5_init_85 : decode cX5_init 85 = .ok (.putfield 50, 3) := by decide +kernel
theorem dX5_init_88 : decode cX5_init 88 = .ok (.iconst 0, 1) := by decide +kernel
theorem dX5_init_89 : decode cX5_init 89 = .ok (.istore_n 1, 1) := by decide +kernel
theorem dX5_init_90 : decode cX5_init 90 = .ok (.iload_n 1, 1) := by decide +kernel
theorem dX5_init_91 : decode cX5_init 91 = .ok (.iconst 4, 1) := by decide +kernel
theorem dX5_init_92 : decode cX5_init 92 = .ok (.if_icmp .ge 22, 3) := by decide +kernel
theorem dX5_init_95 : decode cX5_init 95 = .ok (.aload_n 0, 1) := by decide +kernel
theorem dX5_init_96 : decode cX5_init 96 = .ok (.getfield 46, 3) := by decide +kernel
theorem dX5_init_99 : decode cX5_init 99 = .ok (.iload_n 1, 1) := by decide +kernel
theorem dX5_init_100 : decode cX5_init 100 = .ok (.new 44, 3) := by decide +kernel
theorem dX5_init_103 : decode cX5_init 103 = .ok (.dup, 1) := by decide +kernel
theorem dX5_init_104 : decode cX5_init 104 = .ok (.invokespecial 54, 3) := by decide +kernel
theorem dX5_init_107 : decode cX5_init 107 = .ok (.aastore, 1) := by decide +kernel
theorem dX5_init_108 : decode cX5_init 108 = .ok (.iinc 1 1, 3) := by decide +kernel
theorem dX5_init_111 : decode cX5_init 111 = .ok (.goto (-21), 3) := by decide +kernel
theorem dX5_init_114 : decode cX5_init 114 = .ok (.aload_n 0, 1) := by decide +kernel
theorem dX5_init_115 : decode cX5_init 115 = .ok (.getfield 37, 3) := by decide +kernel
theorem dX5_init_118 : decode cX5_init 118 = .ok (.iconst (-1), 1) := by decide +kernel
theorem dX5_init_119 : decode cX5_init 119 = .ok (.invokevirtual 55, 3) := by decide +kernel
theorem dX5_init_122 : decode cX5_init 122 = .ok (.return_, 1) := by decide +kernel
theorem dX5_put_0 : decode cX5_put 0 = .ok (.aload_n 0, 1) := by decide +kernel
theorem dX5_put_1 : decode cX5_put 1 = .ok (.iload_n 1, 1) := by decide +kernel
theorem dX5_put_2 : decode cX5_put 2 = .ok (.iload_n 2, 1) := by decide +kernel
theorem dX5_put_3 : decode cX5_put 3 = .ok (.iload_n 3, 1) := by decide +kernel
theorem dX5_put_4 : decode cX5_put 4 = .ok (.invokevirtual 59, 3) := by decide +kernel
theorem dX5_put_7 : decode cX5_put 7 = .ok (.istore 4, 2) := by decide +kernel
theorem dX5_put_9 : decode cX5_put 9 = .ok (.aload_n 0, 1) := by decide +kernel
theorem dX5_put_10 : decode cX5_put 10 = .ok (.invokevirtual 63, 3) := by decide +kernel
theorem dX5_put_13 : decode cX5_put 13 = .ok (.iload 4, 2) := by decide +kernel
theorem dX5_put_15 : decode cX5_put 15 = .ok (.ireturn, 1) := by decide +kernel
theorem dX5_close_0 : decode cX5_close 0 = .ok (.aload_n 0, 1) := by decide +kernel
theorem dX5_close_1 : decode cX5_close 1 = .ok (.getfield 12, 3) := by decide +kernel
theorem dX5_close_4 : decode cX5_close 4 = .ok (.invokevirtual 66, 3) := by decide +kernel
theorem dX5_close_7 : decode cX5_close 7 = .ok (.ifCond .eq 6, 3) := by decide +kernel
theorem dX5_close_10 : decode cX5_close 10 = .ok (.bipush (-3), 2) := by decide +kernel
theorem dX5_close_12 : decode cX5_close 12 = .ok (.ireturn, 1) := by decide +kernel
theorem dX5_close_13 : decode cX5_close 13 = .ok (.aload_n 0, 1) := by decide +kernel
theorem dX5_close_14 : decode cX5_close 14 = .ok (.getfield 12, 3) := by decide +kernel
theorem dX5_close_17 : decode cX5_close 17 = .ok (.getfield 70, 3) := by decide +kernel
theorem dX5_close_20 : decode cX5_close 20 = .ok (.bipush 7, 2) := by decide +kernel
theorem dX5_close_22 : decode cX5_close 22 = .ok (.if_icmp .lt 6, 3) := by decide +kernel
theorem dX5_close_25 : decode cX5_close 25 = .ok (.bipush (-4), 2) := by decide +kernel
theorem dX5_close_27 : decode cX5_close 27 = .ok (.ireturn, 1) := by decide +kernel
theorem dX5_close_28 : decode cX5_close 28 = .ok (.aload_n 0, 1) := by decide +kernel
theorem dX5_close_29 : decode cX5_close 29 = .ok (.getfield 19, 3) := by decide +kernel
theorem dX5_close_32 : decode cX5_close 32 = .ok (.aload_n 0, 1) := by decide +kernel
theorem dX5_close_33 : decode cX5_close 33 = .ok (.getfield 12, 3) := by decide +kernel
theorem dX5_close_36 : decode cX5_close 36 = .ok (.getfield 70, 3) := by decide +kernel
theorem dX5_close_39 : decode cX5_close 39 = .ok (.invokevirtual 73, 3) := by decide +kernel
theorem dX5_close_42 : decode cX5_close 42 = .ok (.aload_n 0, 1) := by decide +kernel
theorem dX5_close_43 : decode cX5_close 43 = .ok (.getfield 12, 3) := by decide +kernel
theorem dX5_close_46 : decode cX5_close 46 = .ok (.invokevirtual 76, 3) := by decide +kernel
theorem dX5_close_49 : decode cX5_close 49 = .ok (.aload_n 0, 1) := by decide +kernel
theorem dX5_close_50 : decode cX5_close 50 = .ok (.getfield 28, 3) := by decide +kernel
theorem dX5_close_53 : decode cX5_close 53 = .ok (.aload_n 0, 1) := by decide +kernel
theorem dX5_close_54 : decode cX5_close 54 = .ok (.getfield 12, 3) := by decide +kernel
theorem dX5_close_57 : decode cX5_close 57 = .ok (.getfield 70, 3) := by decide +kernel
theorem dX5_close_60 : decode cX5_close 60 = .ok (.iconst 1, 1) := by decide +kernel
theorem dX5_close_61 : decode cX5_close 61 = .ok (.isub, 1) := by decide +kernel
theorem dX5_close_62 : decode cX5_close 62 = .ok (.invokevirtual 79, 3) := by decide +kernel
theorem dX5_close_65 : decode cX5_close 65 = .ok (.aload_n 0, 1) := by decide +kernel
theorem dX5_close_66 : decode cX5_close 66 = .ok (.invokevirtual 63, 3) := by decide +kernel
theorem dX5_close_69 : decode cX5_close 69 = .ok (.aload_n 0, 1) := by decide +kernel
theorem dX5_close_70 : decode cX5_close 70 = .ok (.getfield 12, 3) := by decide +kernel
theorem dX5_close_73 : decode cX5_close 73 = .ok (.getfield 70, 3) := by decide +kernel
theorem dX5_close_76 : decode cX5_close 76 = .ok (.ireturn, 1) := by decide +kernel
theorem dX5_undo_0 : decode cX5_undo 0 = .ok (.aload_n 0, 1) := by decide +kernel
theorem dX5_undo_1 : decode cX5_undo 1 = .ok (.getfield 12, 3) := by decide +kernel
theorem dX5_undo_4 : decode cX5_undo 4 = .ok (.invokevirtual 66, 3) := by decide +kernel
theorem dX5_undo_7 : decode cX5_undo 7 = .ok (.ifCond .eq 6, 3) := by decide +kernel
theorem dX5_undo_10 : decode cX5_undo 10 = .ok (.bipush (-3), 2) := by decide +kernel
theorem dX5_undo_12 : decode cX5_undo 12 = .ok (.ireturn, 1) := by decide +kernel
theorem dX5_undo_13 : decode cX5_undo 13 = .ok (.aload_n 0, 1) := by decide +kernel
theorem dX5_undo_14 : decode cX5_undo 14 = .ok (.getfield 12, 3) := by decide +kernel
theorem dX5_undo_17 : decode cX5_undo 17 = .ok (.dup, 1) := by decide +kernel
theorem dX5_undo_18 : decode cX5_undo 18 = .ok (.getfield 82, 3) := by decide +kernel
theorem dX5_undo_21 : decode cX5_undo 21 = .ok (.iconst 1, 1) := by decide +kernel
theorem dX5_undo_22 : decode cX5_undo 22 = .ok (.isub, 1) := by decide +kernel
theorem dX5_undo_23 : decode cX5_undo 23 = .ok (.putfield 82, 3) := by decide +kernel
theorem dX5_undo_26 : decode cX5_undo 26 = .ok (.aload_n 0, 1) := by decide +kernel
theorem dX5_undo_27 : decode cX5_undo 27 = .ok (.getfield 19, 3) := by decide +kernel
theorem dX5_undo_30 : decode cX5_undo 30 = .ok (.invokevirtual 85, 3) := by decide +kernel
theorem dX5_undo_33 : decode cX5_undo 33 = .ok (.aload_n 0, 1) := by decide +kernel
theorem dX5_undo_34 : decode cX5_undo 34 = .ok (.invokevirtual 63, 3) := by decide +kernel
theorem dX5_undo_37 : decode cX5_undo 37 = .ok (.aload_n 0, 1) := by decide +kernel
theorem dX5_undo_38 : decode cX5_undo 38 = .ok (.getfield 12, 3) := by decide +kernel
theorem dX5_undo_41 : decode cX5_undo 41 = .ok (.getfield 82, 3) := by decide +kernel
theorem dX5_undo_44 : decode cX5_undo 44 = .ok (.ireturn, 1) := by decide +kernel
theorem dX5_cover_0 : decode cX5_cover 0 = .ok (.iconst 0, 1) := by decide +kernel
theorem dX5_cover_1 : decode cX5_cover 1 = .ok (.iload_n 2, 1) := by decide +kernel
theorem dX5_cover_2 : decode cX5_cover 2 = .ok (.if_icmp .gt 33, 3) := by decide +kernel
theorem dX5_cover_5 : decode cX5_cover 5 = .ok (.iload_n 2, 1) := by decide +kernel
theorem dX5_cover_6 : decode cX5_cover 6 = .ok (.iload_n 3, 1) := by decide +kernel
theorem dX5_cover_7 : decode cX5_cover 7 = .ok (.if_icmp .gt 28, 3) := by decide +kernel
theorem dX5_cover_10 : decode cX5_cover 10 = .ok (.iload_n 3, 1) := by decide +kernel
theorem dX5_cover_11 : decode cX5_cover 11 = .ok (.iload 4, 2) := by decide +kernel
theorem dX5_cover_13 : decode cX5_cover 13 = .ok (.if_icmp .gt 22, 3) := by decide +kernel
theorem dX5_cover_16 : decode cX5_cover 16 = .ok (.iload 4, 2) := by decide +kernel
theorem dX5_cover_18 : decode cX5_cover 18 = .ok (.iload 5, 2) := by decide +kernel
theorem dX5_cover_20 : decode cX5_cover 20 = .ok (.if_icmp .gt 15, 3) := by decide +kernel
theorem dX5_cover_23 : decode cX5_cover 23 = .ok (.iload 5, 2) := by decide +kernel
theorem dX5_cover_25 : decode cX5_cover 25 = .ok (.sipush 400, 3) := by decide +kernel
theorem dX5_cover_28 : decode cX5_cover 28 = .ok (.if_icmp .gt 7, 3) := by decide +kernel
theorem dX5_cover_31 : decode cX5_cover 31 = .ok (.iconst 1, 1) := by decide +kernel
theorem dX5_cover_32 : decode cX5_cover 32 = .ok (.goto 4, 3) := by decide +kernel
theorem dX5_cover_35 : decode cX5_cover 35 = .ok (.iconst 0, 1) := by decide +kernel
theorem dX5_cover_36 : decode cX5_cover 36 = .ok (.istore 6, 2) := by decide +kernel
theorem dX5_cover_38 : decode cX5_cover 38 = .ok (.aload_n 0, 1) := by decide +kernel
theorem dX5_cover_39 : decode cX5_cover 39 = .ok (.getfield 12, 3) := by decide +kernel
theorem dX5_cover_42 : decode cX5_cover 42 = .ok (.iload_n 1, 1) := by decide +kernel
theorem dX5_cover_43 : decode cX5_cover 43 = .ok (.invokevirtual 88, 3) := by decide +kernel
theorem dX5_cover_46 : decode cX5_cover 46 = .ok (.ifCond .eq 8, 3) := by decide +kernel
theorem dX5_cover_49 : decode cX5_cover 49 = .ok (.iload 6, 2) := by decide +kernel
theorem dX5_cover_51 : decode cX5_cover 51 = .ok (.ifCond .ne 6, 3) := by decide +kernel
theorem dX5_cover_54 : decode cX5_cover 54 = .ok (.bipush (-2), 2) := by decide +kernel
theorem dX5_cover_56 : decode cX5_cover 56 = .ok (.ireturn, 1) := by decide +kernel
theorem dX5_cover_57 : decode cX5_cover 57 = .ok (.aload_n 0, 1) := by decide +kernel
theorem dX5_cover_58 : decode cX5_cover 58 = .ok (.getfield 12, 3) := by decide +kernel
theorem dX5_cover_61 : decode cX5_cover 61 = .ok (.iload_n 1, 1) := by decide +kernel
theorem dX5_cover_62 : decode cX5_cover 62 = .ok (.invokevirtual 92, 3) := by decide +kernel
theorem dX5_cover_65 : decode cX5_cover 65 = .ok (.ifCond .eq 14, 3) := by decide +kernel
theorem dX5_cover_68 : decode cX5_cover 68 = .ok (.aload_n 0, 1) := by decide +kernel
theorem dX5_cover_69 : decode cX5_cover 69 = .ok (.getfield 12, 3) := by decide +kernel
theorem dX5_cover_72 : decode cX5_cover 72 = .ok (.iload_n 1, 1) := by decide +kernel
theorem dX5_cover_73 : decode cX5_cover 73 = .ok (.invokevirtual 95, 3) := by decide +kernel
theorem dX5_cover_76 : decode cX5_cover 76 = .ok (.ifCond .eq 6, 3) := by decide +kernel
theorem dX5_cover_79 : decode cX5_cover 79 = .ok (.bipush (-3), 2) := by decide +kernel
theorem dX5_cover_81 : decode cX5_cover 81 = .ok (.ireturn, 1) := by decide +kernel
theorem dX5_cover_82 : decode cX5_cover 82 = .ok (.aload_n 0, 1) := by decide +kernel
theorem dX5_cover_83 : decode cX5_cover 83 = .ok (.getfield 28, 3) := by decide +kernel
theorem dX5_cover_86 : decode cX5_cover 86 = .ok (.iload_n 1, 1) := by decide +kernel
theorem dX5_cover_87 : decode cX5_cover 87 = .ok (.iload_n 2, 1) := by decide +kernel
theorem dX5_cover_88 : decode cX5_cover 88 = .ok (.iload_n 3, 1) := by decide +kernel
theorem dX5_cover_89 : decode cX5_cover 89 = .ok (.iload 4, 2) := by decide +kernel
theorem dX5_cover_91 : decode cX5_cover 91 = .ok (.iload 5, 2) := by decide +kernel
theorem dX5_cover_93 : decode cX5_cover 93 = .ok (.invokevirtual 98, 3) := by decide +kernel
theorem dX5_cover_96 : decode cX5_cover 96 = .ok (.iconst 1, 1) := by decide +kernel
theorem dX5_cover_97 : decode cX5_cover 97 = .ok (.ireturn, 1) := by decide +kernel
theorem dX5_alter_0 : decode cX5_alter 0 = .ok (.aload_n 0, 1) := by decide +kernel
theorem dX5_alter_1 : decode cX5_alter 1 = .ok (.getfield 12, 3) := by decide +kernel
theorem dX5_alter_4 : decode cX5_alter 4 = .ok (.iload_n 1, 1) := by decide +kernel
theorem dX5_alter_5 : decode cX5_alter 5 = .ok (.invokevirtual 88, 3) := by decide +kernel
theorem dX5_alter_8 : decode cX5_alter 8 = .ok (.ifCond .eq 19, 3) := by decide +kernel
theorem dX5_alter_11 : decode cX5_alter 11 = .ok (.aload_n 0, 1) := by decide +kernel
theorem dX5_alter_12 : decode cX5_alter 12 = .ok (.getfield 12, 3) := by decide +kernel
theorem dX5_alter_15 : decode cX5_alter 15 = .ok (.getfield 102, 3) := by decide +kernel
theorem dX5_alter_18 : decode cX5_alter 18 = .ok (.iload_n 1, 1) := by decide +kernel
theorem dX5_alter_19 : decode cX5_alter 19 = .ok (.iaload, 1) := by decide +kernel
theorem dX5_alter_20 : decode cX5_alter 20 = .ok (.iload_n 2, 1) := by decide +kernel
theorem dX5_alter_21 : decode cX5_alter 21 = .ok (.invokestatic 106, 3) := by decide +kernel
theorem dX5_alter_24 : decode cX5_alter 24 = .ok (.ifCond .ne 6, 3) := by decide +kernel
theorem dX5_alter_27 : decode cX5_alter 27 = .ok (.bipush (-2), 2) := by decide +kernel
theorem dX5_alter_29 : decode cX5_alter 29 = .ok (.ireturn, 1) := by decide +kernel
theorem dX5_alter_30 : decode cX5_alter 30 = .ok (.aload_n 0, 1) := by decide +kernel
theorem dX5_alter_31 : decode cX5_alter 31 = .ok (.getfield 12, 3) := by decide +kernel
theorem dX5_alter_34 : decode cX5_alter 34 = .ok (.getfield 110, 3) := by decide +kernel
theorem dX5_alter_37 : decode cX5_alter 37 = .ok (.iload_n 1, 1) := by decide +kernel
theorem dX5_alter_38 : decode cX5_alter 38 = .ok (.iaload, 1) := by decide +kernel
theorem dX5_alter_39 : decode cX5_alter 39 = .ok (.istore_n 3, 1) := by decide +kernel
theorem dX5_alter_40 : decode cX5_alter 40 = .ok (.aload_n 0, 1) := by decide +kernel
theorem dX5_alter_41 : decode cX5_alter 41 = .ok (.getfield 12, 3) := by decide +kernel
theorem dX5_alter_44 : decode cX5_alter 44 = .ok (.getfield 110, 3) := by decide +kernel
theorem dX5_alter_47 : decode cX5_alter 47 = .ok (.iload_n 1, 1) := by decide +kernel
theorem dX5_alter_48 : decode cX5_alter 48 = .ok (.iload_n 2, 1) := by decide +kernel
theorem dX5_alter_49 : decode cX5_alter 49 = .ok (.iastore, 1) := by decide +kernel
theorem dX5_alter_50 : decode cX5_alter 50 = .ok (.aload_n 0, 1) := by decide +kernel
theorem dX5_alter_51 : decode cX5_alter 51 = .ok (.getfield 19, 3) := by decide +kernel
theorem dX5_alter_54 : decode cX5_alter 54 = .ok (.aload_n 0, 1) := by decide +kernel
theorem dX5_alter_55 : decode cX5_alter 55 = .ok (.getfield 12, 3) := by decide +kernel
theorem dX5_alter_58 : decode cX5_alter 58 = .ok (.iload_n 1, 1) := by decide +kernel
theorem dX5_alter_59 : decode cX5_alter 59 = .ok (.invokevirtual 113, 3) := by decide +kernel
theorem dX5_alter_62 : decode cX5_alter 62 = .ok (.iconst 3, 1) := by decide +kernel
theorem dX5_alter_63 : decode cX5_alter 63 = .ok (.iadd, 1) := by decide +kernel
theorem dX5_alter_64 : decode cX5_alter 64 = .ok (.iload_n 2, 1) := by decide +kernel
theorem dX5_alter_65 : decode cX5_alter 65 = .ok (.invokevirtual 117, 3) := by decide +kernel
theorem dX5_alter_68 : decode cX5_alter 68 = .ok (.aload_n 0, 1) := by decide +kernel
theorem dX5_alter_69 : decode cX5_alter 69 = .ok (.invokevirtual 63, 3) := by decide +kernel
theorem dX5_alter_72 : decode cX5_alter 72 = .ok (.iload_n 3, 1) := by decide +kernel
theorem dX5_alter_73 : decode cX5_alter 73 = .ok (.ireturn, 1) := by decide +kernel
theorem dX5_read_0 : decode cX5_read 0 = .ok (.iload_n 1, 1) := by decide +kernel
theorem dX5_read_1 : decode cX5_read 1 = .ok (.invokestatic 121, 3) := by decide +kernel
theorem dX5_read_4 : decode cX5_read 4 = .ok (.ifCond .ne 6, 3) := by decide +kernel
theorem dX5_read_7 : decode cX5_read 7 = .ok (.bipush (-2), 2) := by decide +kernel
theorem dX5_read_9 : decode cX5_read 9 = .ok (.ireturn, 1) := by decide +kernel
theorem dX5_read_10 : decode cX5_read 10 = .ok (.aload_n 0, 1) := by decide +kernel
theorem dX5_read_11 : decode cX5_read 11 = .ok (.getfield 46, 3) := by decide +kernel
theorem dX5_read_14 : decode cX5_read 14 = .ok (.iload_n 1, 1) := by decide +kernel
theorem dX5_read_15 : decode cX5_read 15 = .ok (.aaload, 1) := by decide +kernel
theorem dX5_read_16 : decode cX5_read 16 = .ok (.astore_n 2, 1) := by decide +kernel
theorem dX5_read_17 : decode cX5_read 17 = .ok (.aload_n 2, 1) := by decide +kernel
theorem dX5_read_18 : decode cX5_read 18 = .ok (.getfield 124, 3) := by decide +kernel
theorem dX5_read_21 : decode cX5_read 21 = .ok (.ifCond .eq 9, 3) := by decide +kernel
theorem dX5_read_24 : decode cX5_read 24 = .ok (.aload_n 0, 1) := by decide +kernel
theorem dX5_read_25 : decode cX5_read 25 = .ok (.iconst 1, 1) := by decide +kernel
theorem dX5_read_26 : decode cX5_read 26 = .ok (.invokevirtual 128, 3) := by decide +kernel
theorem dX5_read_29 : decode cX5_read 29 = .ok (.ireturn, 1) := by decide +kernel
theorem dX5_read_30 : decode cX5_read 30 = .ok (.iconst 0, 1) := by decide +kernel
theorem dX5_read_31 : decode cX5_read 31 = .ok (.istore_n 3, 1) := by decide +kernel
theorem dX5_read_32 : decode cX5_read 32 = .ok (.iconst 0, 1) := by decide +kernel
theorem dX5_read_33 : decode cX5_read 33 = .ok (.istore 4, 2) := by decide +kernel
theorem dX5_read_35 : decode cX5_read 35 = .ok (.iload 4, 2) := by decide +kernel
theorem dX5_read_37 : decode cX5_read 37 = .ok (.iconst 3, 1) := by decide +kernel
theorem dX5_read_38 : decode cX5_read 38 = .ok (.iadd, 1) := by decide +kernel
theorem dX5_read_39 : decode cX5_read 39 = .ok (.aload_n 2, 1) := by decide +kernel
theorem dX5_read_40 : decode cX5_read 40 = .ok (.getfield 131, 3) := by decide +kernel
theorem dX5_read_43 : decode cX5_read 43 = .ok (.if_icmp .gt 47, 3) := by decide +kernel
theorem dX5_read_46 : decode cX5_read 46 = .ok (.aload_n 0, 1) := by decide +kernel
theorem dX5_read_47 : decode cX5_read 47 = .ok (.aload_n 2, 1) := by decide +kernel
theorem dX5_read_48 : decode cX5_read 48 = .ok (.getfield 132, 3) := by decide +kernel
theorem dX5_read_51 : decode cX5_read 51 = .ok (.iload 4, 2) := by decide +kernel
theorem dX5_read_53 : decode cX5_read 53 = .ok (.iaload, 1) := by decide +kernel
theorem dX5_read_54 : decode cX5_read 54 = .ok (.aload_n 2, 1) := by decide +kernel
theorem dX5_read_55 : decode cX5_read 55 = .ok (.getfield 132, 3) := by decide +kernel
theorem dX5_read_58 : decode cX5_read 58 = .ok (.iload 4, 2) := by decide +kernel
theorem dX5_read_60 : decode cX5_read 60 = .ok (.iconst 1, 1) := by decide +kernel
theorem dX5_read_61 : decode cX5_read 61 = .ok (.iadd, 1) := by decide +kernel
theorem dX5_read_62 : decode cX5_read 62 = .ok (.iaload, 1) := by decide +kernel
theorem dX5_read_63 : decode cX5_read 63 = .ok (.aload_n 2, 1) := by decide +kernel
theorem dX5_read_64 : decode cX5_read 64 = .ok (.getfield 132, 3) := by decide +kernel
theorem dX5_read_67 : decode cX5_read 67 = .ok (.iload 4, 2) := by decide +kernel
theorem dX5_read_69 : decode cX5_read 69 = .ok (.iconst 2, 1) := by decide +kernel
theorem dX5_read_70 : decode cX5_read 70 = .ok (.iadd, 1) := by decide +kernel
theorem dX5_read_71 : decode cX5_read 71 = .ok (.iaload, 1) := by decide +kernel
theorem dX5_read_72 : decode cX5_read 72 = .ok (.invokevirtual 59, 3) := by decide +kernel
theorem dX5_read_75 : decode cX5_read 75 = .ok (.ifCond .ge 6, 3) := by decide +kernel
theorem dX5_read_78 : decode cX5_read 78 = .ok (.goto 12, 3) := by decide +kernel
theorem dX5_read_81 : decode cX5_read 81 = .ok (.iinc 3 1, 3) := by decide +kernel
theorem dX5_read_84 : decode cX5_read 84 = .ok (.iinc 4 3, 3) := by decide +kernel
theorem dX5_read_87 : decode cX5_read 87 = .ok (.goto (-52), 3) := by decide +kernel
theorem dX5_read_90 : decode cX5_read 90 = .ok (.aload_n 0, 1) := by decide +kernel
theorem dX5_read_91 : decode cX5_read 91 = .ok (.invokevirtual 63, 3) := by decide +kernel
theorem dX5_read_94 : decode cX5_read 94 = .ok (.iload_n 3, 1) := by decide +kernel
theorem dX5_read_95 : decode cX5_read 95 = .ok (.ireturn, 1) := by decide +kernel
theorem dX5_write_0 : decode cX5_write 0 = .ok (.aload_n 0, 1) := by decide +kernel
theorem dX5_write_1 : decode cX5_write 1 = .ok (.getfield 12, 3) := by decide +kernel
theorem dX5_write_4 : decode cX5_write 4 = .ok (.iload_n 1, 1) := by decide +kernel
theorem dX5_write_5 : decode cX5_write 5 = .ok (.invokevirtual 88, 3) := by decide +kernel
theorem dX5_write_8 : decode cX5_write 8 = .ok (.ifCond .ne 6, 3) := by decide +kernel
theorem dX5_write_11 : decode cX5_write 11 = .ok (.bipush (-2), 2) := by decide +kernel
theorem dX5_write_13 : decode cX5_write 13 = .ok (.ireturn, 1) := by decide +kernel
theorem dX5_write_14 : decode cX5_write 14 = .ok (.iload_n 2, 1) := by decide +kernel
theorem dX5_write_15 : decode cX5_write 15 = .ok (.tableswitch 82 0 4 #[33, 43, 53, 63, 73], 33) := by decide +kernel
theorem dX5_write_48 : decode cX5_write 48 = .ok (.aload_n 0, 1) := by decide +kernel
theorem dX5_write_49 : decode cX5_write 49 = .ok (.getfield 12, 3) := by decide +kernel
theorem dX5_write_52 : decode cX5_write 52 = .ok (.getfield 135, 3) := by decide +kernel
theorem dX5_write_55 : decode cX5_write 55 = .ok (.iload_n 1, 1) := by decide +kernel
theorem dX5_write_56 : decode cX5_write 56 = .ok (.iaload, 1) := by decide +kernel
theorem dX5_write_57 : decode cX5_write 57 = .ok (.ireturn, 1) := by decide +kernel
theorem dX5_write_58 : decode cX5_write 58 = .ok (.aload_n 0, 1) := by decide +kernel
theorem dX5_write_59 : decode cX5_write 59 = .ok (.getfield 12, 3) := by decide +kernel
theorem dX5_write_62 : decode cX5_write 62 = .ok (.getfield 102, 3) := by decide +kernel
theorem dX5_write_65 : decode cX5_write 65 = .ok (.iload_n 1, 1) := by decide +kernel
theorem dX5_write_66 : decode cX5_write 66 = .ok (.iaload, 1) := by decide +kernel
theorem dX5_write_67 : decode cX5_write 67 = .ok (.ireturn, 1) := by decide +kernel
theorem dX5_write_68 : decode cX5_write 68 = .ok (.aload_n 0, 1) := by decide +kernel
theorem dX5_write_69 : decode cX5_write 69 = .ok (.getfield 12, 3) := by decide +kernel
theorem dX5_write_72 : decode cX5_write 72 = .ok (.getfield 110, 3) := by decide +kernel
theorem dX5_write_75 : decode cX5_write 75 = .ok (.iload_n 1, 1) := by decide +kernel
theorem dX5_write_76 : decode cX5_write 76 = .ok (.iaload, 1) := by decide +kernel
theorem dX5_write_77 : decode cX5_write 77 = .ok (.ireturn, 1) := by decide +kernel
theorem dX5_write_78 : decode cX5_write 78 = .ok (.aload_n 0, 1) := by decide +kernel
theorem dX5_write_79 : decode cX5_write 79 = .ok (.getfield 12, 3) := by decide +kernel
theorem dX5_write_82 : decode cX5_write 82 = .ok (.getfield 138, 3) := by decide +kernel
theorem dX5_write_85 : decode cX5_write 85 = .ok (.iload_n 1, 1) := by decide +kernel
theorem dX5_write_86 : decode cX5_write 86 = .ok (.iaload, 1) := by decide +kernel
theorem dX5_write_87 : decode cX5_write 87 = .ok (.ireturn, 1) := by decide +kernel
theorem dX5_write_88 : decode cX5_write 88 = .ok (.aload_n 0, 1) := by decide +kernel
theorem dX5_write_89 : decode cX5_write 89 = .ok (.getfield 12, 3) := by decide +kernel
theorem dX5_write_92 : decode cX5_write 92 = .ok (.iload_n 1, 1) := by decide +kernel
theorem dX5_write_93 : decode cX5_write 93 = .ok (.invokevirtual 113, 3) := by decide +kernel
theorem dX5_write_96 : decode cX5_write 96 = .ok (.ireturn, 1) := by decide +kernel
theorem dX5_write_97 : decode cX5_write 97 = .ok (.bipush (-2), 2) := by decide +kernel
theorem dX5_write_99 : decode cX5_write 99 = .ok (.ireturn, 1) := by decide +kernel
theorem dX5_revision_0 : decode cX5_revision 0 = .ok (.aload_n 0, 1) := by decide +kernel
theorem dX5_revision_1 : decode cX5_revision 1 = .ok (.getfield 12, 3) := by decide +kernel
theorem dX5_revision_4 : decode cX5_revision 4 = .ok (.iload_n 1, 1) := by decide +kernel
theorem dX5_revision_5 : decode cX5_revision 5 = .ok (.invokevirtual 141, 3) := by decide +kernel
theorem dX5_revision_8 : decode cX5_revision 8 = .ok (.ifCond .ne 6, 3) := by decide +kernel
theorem dX5_revision_11 : decode cX5_revision 11 = .ok (.bipush (-2), 2) := by decide +kernel
theorem dX5_revision_13 : decode cX5_revision 13 = .ok (.ireturn, 1) := by decide +kernel
theorem dX5_revision_14 : decode cX5_revision 14 = .ok (.iload_n 2, 1) := by decide +kernel
theorem dX5_revision_15 : decode cX5_revision 15 = .ok (.tableswitch 76 0 3 #[29, 39, 58, 67], 29) := by decide +kernel
theorem dX5_revision_44 : decode cX5_revision 44 = .ok (.aload_n 0, 1) := by decide +kernel
theorem dX5_revision_45 : decode cX5_revision 45 = .ok (.getfield 12, 3) := by decide +kernel
theorem dX5_revision_48 : decode cX5_revision 48 = .ok (.getfield 144, 3) := by decide +kernel
theorem dX5_revision_51 : decode cX5_revision 51 = .ok (.iload_n 1, 1) := by decide +kernel
theorem dX5_revision_52 : decode cX5_revision 52 = .ok (.iaload, 1) := by decide +kernel
theorem dX5_revision_53 : decode cX5_revision 53 = .ok (.ireturn, 1) := by decide +kernel
theorem dX5_revision_54 : decode cX5_revision 54 = .ok (.aload_n 0, 1) := by decide +kernel
theorem dX5_revision_55 : decode cX5_revision 55 = .ok (.getfield 12, 3) := by decide +kernel
theorem dX5_revision_58 : decode cX5_revision 58 = .ok (.iload_n 1, 1) := by decide +kernel
theorem dX5_revision_59 : decode cX5_revision 59 = .ok (.invokevirtual 147, 3) := by decide +kernel
theorem dX5_revision_62 : decode cX5_revision 62 = .ok (.aload_n 0, 1) := by decide +kernel
theorem dX5_revision_63 : decode cX5_revision 63 = .ok (.getfield 12, 3) := by decide +kernel
theorem dX5_revision_66 : decode cX5_revision 66 = .ok (.getfield 144, 3) := by decide +kernel
theorem dX5_revision_69 : decode cX5_revision 69 = .ok (.iload_n 1, 1) := by decide +kernel
theorem dX5_revision_70 : decode cX5_revision 70 = .ok (.iaload, 1) := by decide +kernel
theorem dX5_revision_71 : decode cX5_revision 71 = .ok (.isub, 1) := by decide +kernel
theorem dX5_revision_72 : decode cX5_revision 72 = .ok (.ireturn, 1) := by decide +kernel
theorem dX5_revision_73 : decode cX5_revision 73 = .ok (.aload_n 0, 1) := by decide +kernel
theorem dX5_revision_74 : decode cX5_revision 74 = .ok (.getfield 12, 3) := by decide +kernel
theorem dX5_revision_77 : decode cX5_revision 77 = .ok (.iload_n 1, 1) := by decide +kernel
theorem dX5_revision_78 : decode cX5_revision 78 = .ok (.invokevirtual 150, 3) := by decide +kernel
theorem dX5_revision_81 : decode cX5_revision 81 = .ok (.ireturn, 1) := by decide +kernel
theorem dX5_revision_82 : decode cX5_revision 82 = .ok (.aload_n 0, 1) := by decide +kernel
theorem dX5_revision_83 : decode cX5_revision 83 = .ok (.getfield 12, 3) := by decide +kernel
theorem dX5_revision_86 : decode cX5_revision 86 = .ok (.iload_n 1, 1) := by decide +kernel
theorem dX5_revision_87 : decode cX5_revision 87 = .ok (.invokevirtual 153, 3) := by decide +kernel
theorem dX5_revision_90 : decode cX5_revision 90 = .ok (.ireturn, 1) := by decide +kernel
theorem dX5_revision_91 : decode cX5_revision 91 = .ok (.bipush (-2), 2) := by decide +kernel
theorem dX5_revision_93 : decode cX5_revision 93 = .ok (.ireturn, 1) := by decide +kernel
theorem dX5_bytes_0 : decode cX5_bytes 0 = .ok (.iload_n 1, 1) := by decide +kernel
theorem dX5_bytes_1 : decode cX5_bytes 1 = .ok (.iconst (-1), 1) := by decide +kernel
theorem dX5_bytes_2 : decode cX5_bytes 2 = .ok (.if_icmp .ne 11, 3) := by decide +kernel
theorem dX5_bytes_5 : decode cX5_bytes 5 = .ok (.aload_n 0, 1) := by decide +kernel
theorem dX5_bytes_6 : decode cX5_bytes 6 = .ok (.getfield 19, 3) := by decide +kernel
theorem dX5_bytes_9 : decode cX5_bytes 9 = .ok (.getfield 156, 3) := by decide +kernel
theorem dX5_bytes_12 : decode cX5_bytes 12 = .ok (.ireturn, 1) := by decide +kernel
theorem dX5_bytes_13 : decode cX5_bytes 13 = .ok (.aload_n 0, 1) := by decide +kernel
theorem dX5_bytes_14 : decode cX5_bytes 14 = .ok (.getfield 19, 3) := by decide +kernel
theorem dX5_bytes_17 : decode cX5_bytes 17 = .ok (.iload_n 1, 1) := by decide +kernel
theorem dX5_bytes_18 : decode cX5_bytes 18 = .ok (.invokevirtual 157, 3) := by decide +kernel
theorem dX5_bytes_21 : decode cX5_bytes 21 = .ok (.ifCond .eq 15, 3) := by decide +kernel
theorem dX5_bytes_24 : decode cX5_bytes 24 = .ok (.aload_n 0, 1) := by decide +kernel
theorem dX5_bytes_25 : decode cX5_bytes 25 = .ok (.getfield 19, 3) := by decide +kernel
theorem dX5_bytes_28 : decode cX5_bytes 28 = .ok (.getfield 158, 3) := by decide +kernel
theorem dX5_bytes_31 : decode cX5_bytes 31 = .ok (.iload_n 1, 1) := by decide +kernel
theorem dX5_bytes_32 : decode cX5_bytes 32 = .ok (.iaload, 1) := by decide +kernel
theorem dX5_bytes_33 : decode cX5_bytes 33 = .ok (.goto 5, 3) := by decide +kernel
theorem dX5_bytes_36 : decode cX5_bytes 36 = .ok (.bipush (-2), 2) := by decide +kernel
theorem dX5_bytes_38 : decode cX5_bytes 38 = .ok (.ireturn, 1) := by decide +kernel
theorem dX5_thing_0 : decode cX5_thing 0 = .ok (.iload_n 1, 1) := by decide +kernel
theorem dX5_thing_1 : decode cX5_thing 1 = .ok (.invokestatic 159, 3) := by decide +kernel
theorem dX5_thing_4 : decode cX5_thing 4 = .ok (.ifCond .eq 23, 3) := by decide +kernel
theorem dX5_thing_7 : decode cX5_thing 7 = .ok (.aload_n 0, 1) := by decide +kernel
theorem dX5_thing_8 : decode cX5_thing 8 = .ok (.getfield 12, 3) := by decide +kernel
theorem dX5_thing_11 : decode cX5_thing 11 = .ok (.iload_n 2, 1) := by decide +kernel
theorem dX5_thing_12 : decode cX5_thing 12 = .ok (.invokevirtual 141, 3) := by decide +kernel
theorem dX5_thing_15 : decode cX5_thing 15 = .ok (.ifCond .eq 12, 3) := by decide +kernel
theorem dX5_thing_18 : decode cX5_thing 18 = .ok (.iload_n 3, 1) := by decide +kernel
theorem dX5_thing_19 : decode cX5_thing 19 = .ok (.ifCond .lt 8, 3) := by decide +kernel
theorem dX5_thing_22 : decode cX5_thing 22 = .ok (.iload_n 3, 1) := by decide +kernel
theorem dX5_thing_23 : decode cX5_thing 23 = .ok (.iconst 2, 1) := by decide +kernel
theorem dX5_thing_24 : decode cX5_thing 24 = .ok (.if_icmp .le 6, 3) := by decide +kernel
theorem dX5_thing_27 : decode cX5_thing 27 = .ok (.bipush (-2), 2) := by decide +kernel
theorem dX5_thing_29 : decode cX5_thing 29 = .ok (.ireturn, 1) := by decide +kernel
theorem dX5_thing_30 : decode cX5_thing 30 = .ok (.aload_n 0, 1) := by decide +kernel
theorem dX5_thing_31 : decode cX5_thing 31 = .ok (.getfield 37, 3) := by decide +kernel
theorem dX5_thing_34 : decode cX5_thing 34 = .ok (.iload_n 2, 1) := by decide +kernel
theorem dX5_thing_35 : decode cX5_thing 35 = .ok (.iload_n 1, 1) := by decide +kernel
theorem dX5_thing_36 : decode cX5_thing 36 = .ok (.invokevirtual 162, 3) := by decide +kernel
theorem dX5_thing_39 : decode cX5_thing 39 = .ok (.istore 4, 2) := by decide +kernel
theorem dX5_thing_41 : decode cX5_thing 41 = .ok (.aload_n 0, 1) := by decide +kernel
theorem dX5_thing_42 : decode cX5_thing 42 = .ok (.getfield 12, 3) := by decide +kernel
theorem dX5_thing_45 : decode cX5_thing 45 = .ok (.iload 4, 2) := by decide +kernel
theorem dX5_thing_47 : decode cX5_thing 47 = .ok (.invokevirtual 166, 3) := by decide +kernel
theorem dX5_thing_50 : decode cX5_thing 50 = .ok (.iconst 5, 1) := by decide +kernel
theorem dX5_thing_51 : decode cX5_thing 51 = .ok (.if_icmp .ne 5, 3) := by decide +kernel
theorem dX5_thing_54 : decode cX5_thing 54 = .ok (.iconst (-1), 1) := by decide +kernel
theorem dX5_thing_55 : decode cX5_thing 55 = .ok (.ireturn, 1) := by decide +kernel
theorem dX5_thing_56 : decode cX5_thing 56 = .ok (.iload_n 3, 1) := by decide +kernel
theorem dX5_thing_57 : decode cX5_thing 57 = .ok (.lookupswitch 49 #[(0, 27), (1, 38)], 27) := by decide +kernel
theorem dX5_thing_84 : decode cX5_thing 84 = .ok (.aload_n 0, 1) := by decide +kernel
theorem dX5_thing_85 : decode cX5_thing 85 = .ok (.getfield 12, 3) := by decide +kernel
theorem dX5_thing_88 : decode cX5_thing 88 = .ok (.getfield 102, 3) := by decide +kernel
theorem dX5_thing_91 : decode cX5_thing 91 = .ok (.iload 4, 2) := by decide +kernel
theorem dX5_thing_93 : decode cX5_thing 93 = .ok (.iaload, 1) := by decide +kernel
theorem dX5_thing_94 : decode cX5_thing 94 = .ok (.ireturn, 1) := by decide +kernel
theorem dX5_thing_95 : decode cX5_thing 95 = .ok (.aload_n 0, 1) := by decide +kernel
theorem dX5_thing_96 : decode cX5_thing 96 = .ok (.getfield 12, 3) := by decide +kernel
theorem dX5_thing_99 : decode cX5_thing 99 = .ok (.getfield 110, 3) := by decide +kernel
theorem dX5_thing_102 : decode cX5_thing 102 = .ok (.iload 4, 2) := by decide +kernel
theorem dX5_thing_104 : decode cX5_thing 104 = .ok (.iaload, 1) := by decide +kernel
theorem dX5_thing_105 : decode cX5_thing 105 = .ok (.ireturn, 1) := by decide +kernel
theorem dX5_thing_106 : decode cX5_thing 106 = .ok (.iload 4, 2) := by decide +kernel
theorem dX5_thing_108 : decode cX5_thing 108 = .ok (.ireturn, 1) := by decide +kernel
theorem dX5_shadows_0 : decode cX5_shadows 0 = .ok (.aload_n 0, 1) := by decide +kernel
theorem dX5_shadows_1 : decode cX5_shadows 1 = .ok (.getfield 12, 3) := by decide +kernel
theorem dX5_shadows_4 : decode cX5_shadows 4 = .ok (.iload_n 1, 1) := by decide +kernel
theorem dX5_shadows_5 : decode cX5_shadows 5 = .ok (.invokevirtual 141, 3) := by decide +kernel
theorem dX5_shadows_8 : decode cX5_shadows 8 = .ok (.ifCond .eq 15, 3) := by decide +kernel
theorem dX5_shadows_11 : decode cX5_shadows 11 = .ok (.aload_n 0, 1) := by decide +kernel
theorem dX5_shadows_12 : decode cX5_shadows 12 = .ok (.getfield 37, 3) := by decide +kernel
theorem dX5_shadows_15 : decode cX5_shadows 15 = .ok (.getfield 169, 3) := by decide +kernel
theorem dX5_shadows_18 : decode cX5_shadows 18 = .ok (.iload_n 1, 1) := by decide +kernel
theorem dX5_shadows_19 : decode cX5_shadows 19 = .ok (.iaload, 1) := by decide +kernel
theorem dX5_shadows_20 : decode cX5_shadows 20 = .ok (.goto 5, 3) := by decide +kernel
theorem dX5_shadows_23 : decode cX5_shadows 23 = .ok (.bipush (-2), 2) := by decide +kernel
theorem dX5_shadows_25 : decode cX5_shadows 25 = .ok (.ireturn, 1) := by decide +kernel
theorem dX5_covers_0 : decode cX5_covers 0 = .ok (.aload_n 0, 1) := by decide +kernel
theorem dX5_covers_1 : decode cX5_covers 1 = .ok (.getfield 12, 3) := by decide +kernel
theorem dX5_covers_4 : decode cX5_covers 4 = .ok (.iload_n 1, 1) := by decide +kernel
theorem dX5_covers_5 : decode cX5_covers 5 = .ok (.invokevirtual 88, 3) := by decide +kernel
theorem dX5_covers_8 : decode cX5_covers 8 = .ok (.ifCond .eq 12, 3) := by decide +kernel
theorem dX5_covers_11 : decode cX5_covers 11 = .ok (.iload_n 2, 1) := by decide +kernel
theorem dX5_covers_12 : decode cX5_covers 12 = .ok (.ifCond .lt 8, 3) := by decide +kernel
theorem dX5_covers_15 : decode cX5_covers 15 = .ok (.iload_n 2, 1) := by decide +kernel
theorem dX5_covers_16 : decode cX5_covers 16 = .ok (.iconst 4, 1) := by decide +kernel
theorem dX5_covers_17 : decode cX5_covers 17 = .ok (.if_icmp .lt 6, 3) := by decide +kernel
theorem dX5_covers_20 : decode cX5_covers 20 = .ok (.bipush (-2), 2) := by decide +kernel
theorem dX5_covers_22 : decode cX5_covers 22 = .ok (.ireturn, 1) := by decide +kernel
theorem dX5_covers_23 : decode cX5_covers 23 = .ok (.aload_n 0, 1) := by decide +kernel
theorem dX5_covers_24 : decode cX5_covers 24 = .ok (.getfield 12, 3) := by decide +kernel
theorem dX5_covers_27 : decode cX5_covers 27 = .ok (.iload_n 1, 1) := by decide +kernel
theorem dX5_covers_28 : decode cX5_covers 28 = .ok (.invokevirtual 92, 3) := by decide +kernel
theorem dX5_covers_31 : decode cX5_covers 31 = .ok (.ifCond .eq 15, 3) := by decide +kernel
theorem dX5_covers_34 : decode cX5_covers 34 = .ok (.aload_n 0, 1) := by decide +kernel
theorem dX5_covers_35 : decode cX5_covers 35 = .ok (.getfield 28, 3) := by decide +kernel
theorem dX5_covers_38 : decode cX5_covers 38 = .ok (.iload_n 1, 1) := by decide +kernel
theorem dX5_covers_39 : decode cX5_covers 39 = .ok (.iload_n 2, 1) := by decide +kernel
theorem dX5_covers_40 : decode cX5_covers 40 = .ok (.invokevirtual 172, 3) := by decide +kernel
theorem dX5_covers_43 : decode cX5_covers 43 = .ok (.goto 5, 3) := by decide +kernel
theorem dX5_covers_46 : decode cX5_covers 46 = .ok (.bipush (-3), 2) := by decide +kernel
theorem dX5_covers_48 : decode cX5_covers 48 = .ok (.ireturn, 1) := by decide +kernel
theorem dX5_covered_0 : decode cX5_covered 0 = .ok (.aload_n 0, 1) := by decide +kernel
theorem dX5_covered_1 : decode cX5_covered 1 = .ok (.getfield 12, 3) := by decide +kernel
theorem dX5_covered_4 : decode cX5_covered 4 = .ok (.iload_n 1, 1) := by decide +kernel
theorem dX5_covered_5 : decode cX5_covered 5 = .ok (.invokevirtual 88, 3) := by decide +kernel
theorem dX5_covered_8 : decode cX5_covered 8 = .ok (.ifCond .ne 6, 3) := by decide +kernel
theorem dX5_covered_11 : decode cX5_covered 11 = .ok (.bipush (-2), 2) := by decide +kernel
theorem dX5_covered_13 : decode cX5_covered 13 = .ok (.ireturn, 1) := by decide +kernel
theorem dX5_covered_14 : decode cX5_covered 14 = .ok (.aload_n 0, 1) := by decide +kernel
theorem dX5_covered_15 : decode cX5_covered 15 = .ok (.getfield 12, 3) := by decide +kernel
theorem dX5_covered_18 : decode cX5_covered 18 = .ok (.iload_n 1, 1) := by decide +kernel
theorem dX5_covered_19 : decode cX5_covered 19 = .ok (.invokevirtual 92, 3) := by decide +kernel
theorem dX5_covered_22 : decode cX5_covered 22 = .ok (.ifCond .eq 14, 3) := by decide +kernel
theorem dX5_covered_25 : decode cX5_covered 25 = .ok (.aload_n 0, 1) := by decide +kernel
theorem dX5_covered_26 : decode cX5_covered 26 = .ok (.getfield 28, 3) := by decide +kernel
theorem dX5_covered_29 : decode cX5_covered 29 = .ok (.iload_n 1, 1) := by decide +kernel
theorem dX5_covered_30 : decode cX5_covered 30 = .ok (.invokevirtual 175, 3) := by decide +kernel
theorem dX5_covered_33 : decode cX5_covered 33 = .ok (.goto 5, 3) := by decide +kernel
theorem dX5_covered_36 : decode cX5_covered 36 = .ok (.bipush (-3), 2) := by decide +kernel
theorem dX5_covered_38 : decode cX5_covered 38 = .ok (.ireturn, 1) := by decide +kernel
theorem dX5_number_0 : decode cX5_number 0 = .ok (.aload_n 0, 1) := by decide +kernel
theorem dX5_number_1 : decode cX5_number 1 = .ok (.getfield 12, 3) := by decide +kernel
theorem dX5_number_4 : decode cX5_number 4 = .ok (.iload_n 1, 1) := by decide +kernel
theorem dX5_number_5 : decode cX5_number 5 = .ok (.invokevirtual 88, 3) := by decide +kernel
theorem dX5_number_8 : decode cX5_number 8 = .ok (.ifCond .eq 23, 3) := by decide +kernel
theorem dX5_number_11 : decode cX5_number 11 = .ok (.iload_n 2, 1) := by decide +kernel
theorem dX5_number_12 : decode cX5_number 12 = .ok (.ifCond .lt 19, 3) := by decide +kernel
theorem dX5_number_15 : decode cX5_number 15 = .ok (.iload_n 2, 1) := by decide +kernel
theorem dX5_number_16 : decode cX5_number 16 = .ok (.iconst 1, 1) := by decide +kernel
theorem dX5_number_17 : decode cX5_number 17 = .ok (.if_icmp .gt 14, 3) := by decide +kernel
theorem dX5_number_20 : decode cX5_number 20 = .ok (.aload_n 0, 1) := by decide +kernel
theorem dX5_number_21 : decode cX5_number 21 = .ok (.getfield 12, 3) := by decide +kernel
theorem dX5_number_24 : decode cX5_number 24 = .ok (.iload_n 1, 1) := by decide +kernel
theorem dX5_number_25 : decode cX5_number 25 = .ok (.invokevirtual 178, 3) := by decide +kernel
theorem dX5_number_28 : decode cX5_number 28 = .ok (.ifCond .ne 6, 3) := by decide +kernel
theorem dX5_number_31 : decode cX5_number 31 = .ok (.ldc 181, 2) := by decide +kernel
theorem dX5_number_33 : decode cX5_number 33 = .ok (.ireturn, 1) := by decide +kernel
theorem dX5_number_34 : decode cX5_number 34 = .ok (.iload_n 2, 1) := by decide +kernel
theorem dX5_number_35 : decode cX5_number 35 = .ok (.ifCond .ne 15, 3) := by decide +kernel
theorem dX5_number_38 : decode cX5_number 38 = .ok (.aload_n 0, 1) := by decide +kernel
theorem dX5_number_39 : decode cX5_number 39 = .ok (.getfield 28, 3) := by decide +kernel
theorem dX5_number_42 : decode cX5_number 42 = .ok (.getfield 182, 3) := by decide +kernel
theorem dX5_number_45 : decode cX5_number 45 = .ok (.iload_n 1, 1) := by decide +kernel
theorem dX5_number_46 : decode cX5_number 46 = .ok (.iaload, 1) := by decide +kernel
theorem dX5_number_47 : decode cX5_number 47 = .ok (.goto 12, 3) := by decide +kernel
theorem dX5_number_50 : decode cX5_number 50 = .ok (.aload_n 0, 1) := by decide +kernel
theorem dX5_number_51 : decode cX5_number 51 = .ok (.getfield 28, 3) := by decide +kernel
theorem dX5_number_54 : decode cX5_number 54 = .ok (.getfield 185, 3) := by decide +kernel
theorem dX5_number_57 : decode cX5_number 57 = .ok (.iload_n 1, 1) := by decide +kernel
theorem dX5_number_58 : decode cX5_number 58 = .ok (.iaload, 1) := by decide +kernel
theorem dX5_number_59 : decode cX5_number 59 = .ok (.ireturn, 1) := by decide +kernel
theorem dX5_flaws_0 : decode cX5_flaws 0 = .ok (.aload_n 0, 1) := by decide +kernel
theorem dX5_flaws_1 : decode cX5_flaws 1 = .ok (.getfield 12, 3) := by decide +kernel
theorem dX5_flaws_4 : decode cX5_flaws 4 = .ok (.iload_n 1, 1) := by decide +kernel
theorem dX5_flaws_5 : decode cX5_flaws 5 = .ok (.invokevirtual 88, 3) := by decide +kernel
theorem dX5_flaws_8 : decode cX5_flaws 8 = .ok (.ifCond .ne 6, 3) := by decide +kernel
theorem dX5_flaws_11 : decode cX5_flaws 11 = .ok (.bipush (-2), 2) := by decide +kernel
theorem dX5_flaws_13 : decode cX5_flaws 13 = .ok (.ireturn, 1) := by decide +kernel
theorem dX5_flaws_14 : decode cX5_flaws 14 = .ok (.aload_n 0, 1) := by decide +kernel
theorem dX5_flaws_15 : decode cX5_flaws 15 = .ok (.getfield 12, 3) := by decide +kernel
theorem dX5_flaws_18 : decode cX5_flaws 18 = .ok (.iload_n 1, 1) := by decide +kernel
theorem dX5_flaws_19 : decode cX5_flaws 19 = .ok (.invokevirtual 178, 3) := by decide +kernel
theorem dX5_flaws_22 : decode cX5_flaws 22 = .ok (.ifCond .eq 15, 3) := by decide +kernel
theorem dX5_flaws_25 : decode cX5_flaws 25 = .ok (.aload_n 0, 1) := by decide +kernel
theorem dX5_flaws_26 : decode cX5_flaws 26 = .ok (.getfield 28, 3) := by decide +kernel
theorem dX5_flaws_29 : decode cX5_flaws 29 = .ok (.getfield 188, 3) := by decide +kernel
theorem dX5_flaws_32 : decode cX5_flaws 32 = .ok (.iload_n 1, 1) := by decide +kernel
theorem dX5_flaws_33 : decode cX5_flaws 33 = .ok (.iaload, 1) := by decide +kernel
theorem dX5_flaws_34 : decode cX5_flaws 34 = .ok (.goto 5, 3) := by decide +kernel
theorem dX5_flaws_37 : decode cX5_flaws 37 = .ok (.bipush (-3), 2) := by decide +kernel
theorem dX5_flaws_39 : decode cX5_flaws 39 = .ok (.ireturn, 1) := by decide +kernel
theorem dX5_judge_0 : decode cX5_judge 0 = .ok (.aload_n 0, 1) := by decide +kernel
theorem dX5_judge_1 : decode cX5_judge 1 = .ok (.getfield 12, 3) := by decide +kernel
theorem dX5_judge_4 : decode cX5_judge 4 = .ok (.iload_n 1, 1) := by decide +kernel
theorem dX5_judge_5 : decode cX5_judge 5 = .ok (.invokevirtual 88, 3) := by decide +kernel
theorem dX5_judge_8 : decode cX5_judge 8 = .ok (.ifCond .eq 12, 3) := by decide +kernel
theorem dX5_judge_11 : decode cX5_judge 11 = .ok (.iload_n 2, 1) := by decide +kernel
theorem dX5_judge_12 : decode cX5_judge 12 = .ok (.ifCond .lt 8, 3) := by decide +kernel
theorem dX5_judge_15 : decode cX5_judge 15 = .ok (.iload_n 2, 1) := by decide +kernel
theorem dX5_judge_16 : decode cX5_judge 16 = .ok (.iconst 3, 1) := by decide +kernel
theorem dX5_judge_17 : decode cX5_judge 17 = .ok (.if_icmp .le 6, 3) := by decide +kernel
theorem dX5_judge_20 : decode cX5_judge 20 = .ok (.bipush (-2), 2) := by decide +kernel
theorem dX5_judge_22 : decode cX5_judge 22 = .ok (.ireturn, 1) := by decide +kernel
theorem dX5_judge_23 : decode cX5_judge 23 = .ok (.aload_n 0, 1) := by decide +kernel
theorem dX5_judge_24 : decode cX5_judge 24 = .ok (.getfield 12, 3) := by decide +kernel
theorem dX5_judge_27 : decode cX5_judge 27 = .ok (.iload_n 1, 1) := by decide +kernel
theorem dX5_judge_28 : decode cX5_judge 28 = .ok (.invokevirtual 178, 3) := by decide +kernel
theorem dX5_judge_31 : decode cX5_judge 31 = .ok (.ifCond .ne 6, 3) := by decide +kernel
theorem dX5_judge_34 : decode cX5_judge 34 = .ok (.bipush (-3), 2) := by decide +kernel
theorem dX5_judge_36 : decode cX5_judge 36 = .ok (.ireturn, 1) := by decide +kernel
theorem dX5_judge_37 : decode cX5_judge 37 = .ok (.aload_n 0, 1) := by decide +kernel
theorem dX5_judge_38 : decode cX5_judge 38 = .ok (.getfield 12, 3) := by decide +kernel
theorem dX5_judge_41 : decode cX5_judge 41 = .ok (.getfield 138, 3) := by decide +kernel
theorem dX5_judge_44 : decode cX5_judge 44 = .ok (.iload_n 1, 1) := by decide +kernel
theorem dX5_judge_45 : decode cX5_judge 45 = .ok (.iaload, 1) := by decide +kernel
theorem dX5_judge_46 : decode cX5_judge 46 = .ok (.istore_n 3, 1) := by decide +kernel
theorem dX5_judge_47 : decode cX5_judge 47 = .ok (.iload_n 2, 1) := by decide +kernel
theorem dX5_judge_48 : decode cX5_judge 48 = .ok (.tableswitch 57 0 2 #[28, 38, 47], 28) := by decide +kernel
theorem dX5_judge_76 : decode cX5_judge 76 = .ok (.aload_n 0, 1) := by decide +kernel
theorem dX5_judge_77 : decode cX5_judge 77 = .ok (.getfield 37, 3) := by decide +kernel
theorem dX5_judge_80 : decode cX5_judge 80 = .ok (.getfield 191, 3) := by decide +kernel
theorem dX5_judge_83 : decode cX5_judge 83 = .ok (.iload_n 3, 1) := by decide +kernel
theorem dX5_judge_84 : decode cX5_judge 84 = .ok (.iaload, 1) := by decide +kernel
theorem dX5_judge_85 : decode cX5_judge 85 = .ok (.ireturn, 1) := by decide +kernel
theorem dX5_judge_86 : decode cX5_judge 86 = .ok (.aload_n 0, 1) := by decide +kernel
theorem dX5_judge_87 : decode cX5_judge 87 = .ok (.getfield 37, 3) := by decide +kernel
theorem dX5_judge_90 : decode cX5_judge 90 = .ok (.iload_n 3, 1) := by decide +kernel
theorem dX5_judge_91 : decode cX5_judge 91 = .ok (.invokevirtual 194, 3) := by decide +kernel
theorem dX5_judge_94 : decode cX5_judge 94 = .ok (.ireturn, 1) := by decide +kernel
theorem dX5_judge_95 : decode cX5_judge 95 = .ok (.aload_n 0, 1) := by decide +kernel
theorem dX5_judge_96 : decode cX5_judge 96 = .ok (.getfield 37, 3) := by decide +kernel
theorem dX5_judge_99 : decode cX5_judge 99 = .ok (.getfield 197, 3) := by decide +kernel
theorem dX5_judge_102 : decode cX5_judge 102 = .ok (.iload_n 3, 1) := by decide +kernel
theorem dX5_judge_103 : decode cX5_judge 103 = .ok (.iaload, 1) := by decide +kernel
theorem dX5_judge_104 : decode cX5_judge 104 = .ok (.ireturn, 1) := by decide +kernel
theorem dX5_judge_105 : decode cX5_judge 105 = .ok (.aload_n 0, 1) := by decide +kernel
theorem dX5_judge_106 : decode cX5_judge 106 = .ok (.iload_n 1, 1) := by decide +kernel
theorem dX5_judge_107 : decode cX5_judge 107 = .ok (.aload_n 0, 1) := by decide +kernel
theorem dX5_judge_108 : decode cX5_judge 108 = .ok (.getfield 37, 3) := by decide +kernel
theorem dX5_judge_111 : decode cX5_judge 111 = .ok (.invokevirtual 200, 3) := by decide +kernel
theorem dX5_judge_114 : decode cX5_judge 114 = .ok (.ifCond .eq 7, 3) := by decide +kernel
theorem dX5_judge_117 : decode cX5_judge 117 = .ok (.iconst 1, 1) := by decide +kernel
theorem dX5_judge_118 : decode cX5_judge 118 = .ok (.goto 4, 3) := by decide +kernel
theorem dX5_judge_121 : decode cX5_judge 121 = .ok (.iconst 0, 1) := by decide +kernel
theorem dX5_judge_122 : decode cX5_judge 122 = .ok (.ireturn, 1) := by decide +kernel
theorem dX5_change_0 : decode cX5_change 0 = .ok (.aload_n 0, 1) := by decide +kernel
theorem dX5_change_1 : decode cX5_change 1 = .ok (.getfield 12, 3) := by decide +kernel
theorem dX5_change_4 : decode cX5_change 4 = .ok (.iload_n 1, 1) := by decide +kernel
theorem dX5_change_5 : decode cX5_change 5 = .ok (.invokevirtual 88, 3) := by decide +kernel
theorem dX5_change_8 : decode cX5_change 8 = .ok (.ifCond .eq 22, 3) := by decide +kernel
theorem dX5_change_11 : decode cX5_change 11 = .ok (.iload_n 2, 1) := by decide +kernel
theorem dX5_change_12 : decode cX5_change 12 = .ok (.ifCond .lt 18, 3) := by decide +kernel
theorem dX5_change_15 : decode cX5_change 15 = .ok (.iload_n 2, 1) := by decide +kernel
theorem dX5_change_16 : decode cX5_change 16 = .ok (.bipush 99, 2) := by decide +kernel
theorem dX5_change_18 : decode cX5_change 18 = .ok (.if_icmp .gt 12, 3) := by decide +kernel
theorem dX5_change_21 : decode cX5_change 21 = .ok (.iload_n 3, 1) := by decide +kernel
theorem dX5_change_22 : decode cX5_change 22 = .ok (.ifCond .lt 8, 3) := by decide +kernel
theorem dX5_change_25 : decode cX5_change 25 = .ok (.iload_n 3, 1) := by decide +kernel
theorem dX5_change_26 : decode cX5_change 26 = .ok (.iconst 2, 1) := by decide +kernel
theorem dX5_change_27 : decode cX5_change 27 = .ok (.if_icmp .le 6, 3) := by decide +kernel
theorem dX5_change_30 : decode cX5_change 30 = .ok (.bipush (-2), 2) := by decide +kernel
theorem dX5_change_32 : decode cX5_change 32 = .ok (.ireturn, 1) := by decide +kernel
theorem dX5_change_33 : decode cX5_change 33 = .ok (.aload_n 0, 1) := by decide +kernel
theorem dX5_change_34 : decode cX5_change 34 = .ok (.getfield 12, 3) := by decide +kernel
theorem dX5_change_37 : decode cX5_change 37 = .ok (.iload_n 1, 1) := by decide +kernel
theorem dX5_change_38 : decode cX5_change 38 = .ok (.invokevirtual 178, 3) := by decide +kernel
theorem dX5_change_41 : decode cX5_change 41 = .ok (.ifCond .ne 6, 3) := by decide +kernel
theorem dX5_change_44 : decode cX5_change 44 = .ok (.bipush (-3), 2) := by decide +kernel
theorem dX5_change_46 : decode cX5_change 46 = .ok (.ireturn, 1) := by decide +kernel
theorem dX5_change_47 : decode cX5_change 47 = .ok (.aload_n 0, 1) := by decide +kernel
theorem dX5_change_48 : decode cX5_change 48 = .ok (.getfield 12, 3) := by decide +kernel
theorem dX5_change_51 : decode cX5_change 51 = .ok (.getfield 138, 3) := by decide +kernel
theorem dX5_change_54 : decode cX5_change 54 = .ok (.iload_n 1, 1) := by decide +kernel
theorem dX5_change_55 : decode cX5_change 55 = .ok (.iaload, 1) := by decide +kernel
theorem dX5_change_56 : decode cX5_change 56 = .ok (.istore 4, 2) := by decide +kernel
theorem dX5_change_58 : decode cX5_change 58 = .ok (.iload_n 2, 1) := by decide +kernel
theorem dX5_change_59 : decode cX5_change 59 = .ok (.aload_n 0, 1) := by decide +kernel
theorem dX5_change_60 : decode cX5_change 60 = .ok (.getfield 37, 3) := by decide +kernel
theorem dX5_change_63 : decode cX5_change 63 = .ok (.iload 4, 2) := by decide +kernel
theorem dX5_change_65 : decode cX5_change 65 = .ok (.invokevirtual 194, 3) := by decide +kernel
theorem dX5_change_68 : decode cX5_change 68 = .ok (.if_icmp .lt 5, 3) := by decide +kernel
theorem dX5_change_71 : decode cX5_change 71 = .ok (.iconst (-1), 1) := by decide +kernel
theorem dX5_change_72 : decode cX5_change 72 = .ok (.ireturn, 1) := by decide +kernel
theorem dX5_change_73 : decode cX5_change 73 = .ok (.aload_n 0, 1) := by decide +kernel
theorem dX5_change_74 : decode cX5_change 74 = .ok (.getfield 37, 3) := by decide +kernel
theorem dX5_change_77 : decode cX5_change 77 = .ok (.getfield 204, 3) := by decide +kernel
theorem dX5_change_80 : decode cX5_change 80 = .ok (.iload 4, 2) := by decide +kernel
theorem dX5_change_82 : decode cX5_change 82 = .ok (.iaload, 1) := by decide +kernel
theorem dX5_change_83 : decode cX5_change 83 = .ok (.iload_n 2, 1) := by decide +kernel
theorem dX5_change_84 : decode cX5_change 84 = .ok (.iadd, 1) := by decide +kernel
theorem dX5_change_85 : decode cX5_change 85 = .ok (.istore 5, 2) := by decide +kernel
theorem dX5_change_87 : decode cX5_change 87 = .ok (.iload_n 3, 1) := by decide +kernel
theorem dX5_change_88 : decode cX5_change 88 = .ok (.lookupswitch 50 #[(0, 28), (1, 39)], 28) := by decide +kernel
theorem dX5_change_116 : decode cX5_change 116 = .ok (.aload_n 0, 1) := by decide +kernel
theorem dX5_change_117 : decode cX5_change 117 = .ok (.getfield 37, 3) := by decide +kernel
theorem dX5_change_120 : decode cX5_change 120 = .ok (.getfield 207, 3) := by decide +kernel
theorem dX5_change_123 : decode cX5_change 123 = .ok (.iload 5, 2) := by decide +kernel
theorem dX5_change_125 : decode cX5_change 125 = .ok (.iaload, 1) := by decide +kernel
theorem dX5_change_126 : decode cX5_change 126 = .ok (.ireturn, 1) := by decide +kernel
theorem dX5_change_127 : decode cX5_change 127 = .ok (.aload_n 0, 1) := by decide +kernel
theorem dX5_change_128 : decode cX5_change 128 = .ok (.getfield 37, 3) := by decide +kernel
theorem dX5_change_131 : decode cX5_change 131 = .ok (.getfield 210, 3) := by decide +kernel
theorem dX5_change_134 : decode cX5_change 134 = .ok (.iload 5, 2) := by decide +kernel
theorem dX5_change_136 : decode cX5_change 136 = .ok (.iaload, 1) := by decide +kernel
theorem dX5_change_137 : decode cX5_change 137 = .ok (.ireturn, 1) := by decide +kernel
theorem dX5_change_138 : decode cX5_change 138 = .ok (.aload_n 0, 1) := by decide +kernel
theorem dX5_change_139 : decode cX5_change 139 = .ok (.getfield 37, 3) := by decide +kernel
theorem dX5_change_142 : decode cX5_change 142 = .ok (.iload 5, 2) := by decide +kernel
theorem dX5_change_144 : decode cX5_change 144 = .ok (.iload 4, 2) := by decide +kernel
theorem dX5_change_146 : decode cX5_change 146 = .ok (.invokevirtual 213, 3) := by decide +kernel
theorem dX5_change_149 : decode cX5_change 149 = .ok (.ireturn, 1) := by decide +kernel
theorem dX5_allowed_0 : decode cX5_allowed 0 = .ok (.aload_n 0, 1) := by decide +kernel
theorem dX5_allowed_1 : decode cX5_allowed 1 = .ok (.getfield 12, 3) := by decide +kernel
theorem dX5_allowed_4 : decode cX5_allowed 4 = .ok (.iload_n 1, 1) := by decide +kernel
theorem dX5_allowed_5 : decode cX5_allowed 5 = .ok (.invokevirtual 141, 3) := by decide +kernel
theorem dX5_allowed_8 : decode cX5_allowed 8 = .ok (.ifCond .ne 6, 3) := by decide +kernel
theorem dX5_allowed_11 : decode cX5_allowed 11 = .ok (.bipush (-2), 2) := by decide +kernel
theorem dX5_allowed_13 : decode cX5_allowed 13 = .ok (.ireturn, 1) := by decide +kernel
theorem dX5_allowed_14 : decode cX5_allowed 14 = .ok (.iconst 3, 1) := by decide +kernel
theorem dX5_allowed_15 : decode cX5_allowed 15 = .ok (.istore_n 2, 1) := by decide +kernel
theorem dX5_allowed_16 : decode cX5_allowed 16 = .ok (.iconst 0, 1) := by decide +kernel
theorem dX5_allowed_17 : decode cX5_allowed 17 = .ok (.istore_n 3, 1) := by decide +kernel
theorem dX5_allowed_18 : decode cX5_allowed 18 = .ok (.iload_n 3, 1) := by decide +kernel
theorem dX5_allowed_19 : decode cX5_allowed 19 = .ok (.aload_n 0, 1) := by decide +kernel
theorem dX5_allowed_20 : decode cX5_allowed 20 = .ok (.getfield 12, 3) := by decide +kernel
theorem dX5_allowed_23 : decode cX5_allowed 23 = .ok (.getfield 144, 3) := by decide +kernel
theorem dX5_allowed_26 : decode cX5_allowed 26 = .ok (.iload_n 1, 1) := by decide +kernel
theorem dX5_allowed_27 : decode cX5_allowed 27 = .ok (.iaload, 1) := by decide +kernel
theorem dX5_allowed_28 : decode cX5_allowed 28 = .ok (.if_icmp .ge 34, 3) := by decide +kernel
theorem dX5_allowed_31 : decode cX5_allowed 31 = .ok (.aload_n 0, 1) := by decide +kernel
theorem dX5_allowed_32 : decode cX5_allowed 32 = .ok (.getfield 12, 3) := by decide +kernel
theorem dX5_allowed_35 : decode cX5_allowed 35 = .ok (.iload_n 3, 1) := by decide +kernel
theorem dX5_allowed_36 : decode cX5_allowed 36 = .ok (.invokevirtual 92, 3) := by decide +kernel
theorem dX5_allowed_39 : decode cX5_allowed 39 = .ok (.ifCond .eq 17, 3) := by decide +kernel
theorem dX5_allowed_42 : decode cX5_allowed 42 = .ok (.iload_n 2, 1) := by decide +kernel
theorem dX5_allowed_43 : decode cX5_allowed 43 = .ok (.aload_n 0, 1) := by decide +kernel
theorem dX5_allowed_44 : decode cX5_allowed 44 = .ok (.getfield 12, 3) := by decide +kernel
theorem dX5_allowed_47 : decode cX5_allowed 47 = .ok (.getfield 110, 3) := by decide +kernel
theorem dX5_allowed_50 : decode cX5_allowed 50 = .ok (.iload_n 3, 1) := by decide +kernel
theorem dX5_allowed_51 : decode cX5_allowed 51 = .ok (.iaload, 1) := by decide +kernel
theorem dX5_allowed_52 : decode cX5_allowed 52 = .ok (.invokestatic 216, 3) := by decide +kernel
theorem dX5_allowed_55 : decode cX5_allowed 55 = .ok (.istore_n 2, 1) := by decide +kernel
theorem dX5_allowed_56 : decode cX5_allowed 56 = .ok (.iinc 3 1, 3) := by decide +kernel

theorem dX6_put_25 : decode cX6_put 25 = .ok (.iload_n 3, 1) := by decide +kernel
theorem dX6_put_26 : decode cX6_put 26 = .ok (.invokestatic 85, 3) := by decide +kernel
theorem dX6_put_29 : decode cX6_put 29 = .ok (.ifCond .ne 6, 3) := by decide +kernel
theorem dX6_put_32 : decode cX6_put 32 = .ok (.bipush (-2), 2) := by decide +kernel
theorem dX6_put_34 : decode cX6_put 34 = .ok (.ireturn, 1) := by decide +kernel
theorem dX6_put_35 : decode cX6_put 35 = .ok (.aload_n 0, 1) := by decide +kernel
theorem dX6_put_36 : decode cX6_put 36 = .ok (.getfield 89, 3) := by decide +kernel
theorem dX6_put_39 : decode cX6_put 39 = .ok (.bipush 40, 2) := by decide +kernel
theorem dX6_put_41 : decode cX6_put 41 = .ok (.if_icmp .ne 6, 3) := by decide +kernel
theorem dX6_put_44 : decode cX6_put 44 = .ok (.bipush (-4), 2) := by decide +kernel
theorem dX6_put_46 : decode cX6_put 46 = .ok (.ireturn, 1) := by decide +kernel
theorem dX6_put_47 : decode cX6_put 47 = .ok (.aload_n 0, 1) := by decide +kernel
theorem dX6_put_48 : decode cX6_put 48 = .ok (.getfield 22, 3) := by decide +kernel
theorem dX6_put_51 : decode cX6_put 51 = .ok (.aload_n 0, 1) := by decide +kernel
theorem dX6_put_52 : decode cX6_put 52 = .ok (.getfield 89, 3) := by decide +kernel
theorem dX6_put_55 : decode cX6_put 55 = .ok (.iload_n 1, 1) := by decide +kernel
theorem dX6_put_56 : decode cX6_put 56 = .ok (.iastore, 1) := by decide +kernel
theorem dX6_put_57 : decode cX6_put 57 = .ok (.aload_n 0, 1) := by decide +kernel
theorem dX6_put_58 : decode cX6_put 58 = .ok (.getfield 25, 3) := by decide +kernel
theorem dX6_put_61 : decode cX6_put 61 = .ok (.aload_n 0, 1) := by decide +kernel
theorem dX6_put_62 : decode cX6_put 62 = .ok (.getfield 89, 3) := by decide +kernel
theorem dX6_put_65 : decode cX6_put 65 = .ok (.iload_n 2, 1) := by decide +kernel
theorem dX6_put_66 : decode cX6_put 66 = .ok (.iastore, 1) := by decide +kernel
theorem dX6_put_67 : decode cX6_put 67 = .ok (.aload_n 0, 1) := by decide +kernel
theorem dX6_put_68 : decode cX6_put 68 = .ok (.getfield 28, 3) := by decide +kernel
theorem dX6_put_71 : decode cX6_put 71 = .ok (.aload_n 0, 1) := by decide +kernel
theorem dX6_put_72 : decode cX6_put 72 = .ok (.getfield 89, 3) := by decide +kernel
theorem dX6_put_75 : decode cX6_put 75 = .ok (.iload_n 3, 1) := by decide +kernel
theorem dX6_put_76 : decode cX6_put 76 = .ok (.iastore, 1) := by decide +kernel
theorem dX6_put_77 : decode cX6_put 77 = .ok (.aload_n 0, 1) := by decide +kernel
theorem dX6_put_78 : decode cX6_put 78 = .ok (.getfield 31, 3) := by decide +kernel
theorem dX6_put_81 : decode cX6_put 81 = .ok (.aload_n 0, 1) := by decide +kernel
theorem dX6_put_82 : decode cX6_put 82 = .ok (.getfield 89, 3) := by decide +kernel
theorem dX6_put_85 : decode cX6_put 85 = .ok (.aload_n 0, 1) := by decide +kernel
theorem dX6_put_86 : decode cX6_put 86 = .ok (.getfield 92, 3) := by decide +kernel
theorem dX6_put_89 : decode cX6_put 89 = .ok (.iastore, 1) := by decide +kernel
theorem dX6_put_90 : decode cX6_put 90 = .ok (.aload_n 0, 1) := by decide +kernel
theorem dX6_put_91 : decode cX6_put 91 = .ok (.getfield 34, 3) := by decide +kernel
theorem dX6_put_94 : decode cX6_put 94 = .ok (.aload_n 0, 1) := by decide +kernel
theorem dX6_put_95 : decode cX6_put 95 = .ok (.getfield 89, 3) := by decide +kernel
theorem dX6_put_98 : decode cX6_put 98 = .ok (.iconst 0, 1) := by decide +kernel
theorem dX6_put_99 : decode cX6_put 99 = .ok (.bastore, 1) := by decide +kernel
theorem dX6_put_100 : decode cX6_put 100 = .ok (.aload_n 0, 1) := by decide +kernel
theorem dX6_put_101 : decode cX6_put 101 = .ok (.dup, 1) := by decide +kernel
theorem dX6_put_102 : decode cX6_put 102 = .ok (.getfield 89, 3) := by decide +kernel
theorem dX6_put_105 : decode cX6_put 105 = .ok (.iconst 1, 1) := by decide +kernel
theorem dX6_put_106 : decode cX6_put 106 = .ok (.iadd, 1) := by decide +kernel
theorem dX6_put_107 : decode cX6_put 107 = .ok (.putfield 89, 3) := by decide +kernel
theorem dX6_put_110 : decode cX6_put 110 = .ok (.aload_n 0, 1) := by decide +kernel
theorem dX6_put_111 : decode cX6_put 111 = .ok (.getfield 89, 3) := by decide +kernel
theorem dX6_put_114 : decode cX6_put 114 = .ok (.ireturn, 1) := by decide +kernel
theorem dX6_manyOf_0 : decode cX6_manyOf 0 = .ok (.iconst 0, 1) := by decide +kernel
theorem dX6_manyOf_1 : decode cX6_manyOf 1 = .ok (.istore_n 2, 1) := by decide +kernel
theorem dX6_manyOf_2 : decode cX6_manyOf 2 = .ok (.iconst 0, 1) := by decide +kernel
theorem dX6_manyOf_3 : decode cX6_manyOf 3 = .ok (.istore_n 3, 1) := by decide +kernel
theorem dX6_manyOf_4 : decode cX6_manyOf 4 = .ok (.iload_n 3, 1) := by decide +kernel
theorem dX6_manyOf_5 : decode cX6_manyOf 5 = .ok (.aload_n 0, 1) := by decide +kernel
theorem dX6_manyOf_6 : decode cX6_manyOf 6 = .ok (.getfield 89, 3) := by decide +kernel
theorem dX6_manyOf_9 : decode cX6_manyOf 9 = .ok (.if_icmp .ge 27, 3) := by decide +kernel
theorem dX6_manyOf_12 : decode cX6_manyOf 12 = .ok (.iload_n 2, 1) := by decide +kernel
theorem dX6_manyOf_13 : decode cX6_manyOf 13 = .ok (.aload_n 0, 1) := by decide +kernel
theorem dX6_manyOf_14 : decode cX6_manyOf 14 = .ok (.getfield 31, 3) := by decide +kernel
theorem dX6_manyOf_17 : decode cX6_manyOf 17 = .ok (.iload_n 3, 1) := by decide +kernel
theorem dX6_manyOf_18 : decode cX6_manyOf 18 = .ok (.iaload, 1) := by decide +kernel
theorem dX6_manyOf_19 : decode cX6_manyOf 19 = .ok (.iload_n 1, 1) := by decide +kernel
theorem dX6_manyOf_20 : decode cX6_manyOf 20 = .ok (.if_icmp .ne 7, 3) := by decide +kernel
theorem dX6_manyOf_23 : decode cX6_manyOf 23 = .ok (.iconst 1, 1) := by decide +kernel
theorem dX6_manyOf_24 : decode cX6_manyOf 24 = .ok (.goto 4, 3) := by decide +kernel
theorem dX6_manyOf_27 : decode cX6_manyOf 27 = .ok (.iconst 0, 1) := by decide +kernel
theorem dX6_manyOf_28 : decode cX6_manyOf 28 = .ok (.iadd, 1) := by decide +kernel
theorem dX6_manyOf_29 : decode cX6_manyOf 29 = .ok (.istore_n 2, 1) := by decide +kernel
theorem dX6_manyOf_30 : decode cX6_manyOf 30 = .ok (.iinc 3 1, 3) := by decide +kernel
theorem dX6_manyOf_33 : decode cX6_manyOf 33 = .ok (.goto (-29), 3) := by decide +kernel
theorem dX6_manyOf_36 : decode cX6_manyOf 36 = .ok (.iload_n 2, 1) := by decide +kernel
theorem dX6_manyOf_37 : decode cX6_manyOf 37 = .ok (.ireturn, 1) := by decide +kernel
theorem dX6_close_0 : decode cX6_close 0 = .ok (.aload_n 0, 1) := by decide +kernel
theorem dX6_close_1 : decode cX6_close 1 = .ok (.aload_n 0, 1) := by decide +kernel
theorem dX6_close_2 : decode cX6_close 2 = .ok (.getfield 92, 3) := by decide +kernel
theorem dX6_close_5 : decode cX6_close 5 = .ok (.invokevirtual 95, 3) := by decide +kernel
theorem dX6_close_8 : decode cX6_close 8 = .ok (.ifCond .ne 6, 3) := by decide +kernel
theorem dX6_close_11 : decode cX6_close 11 = .ok (.bipush (-3), 2) := by decide +kernel
theorem dX6_close_13 : decode cX6_close 13 = .ok (.ireturn, 1) := by decide +kernel
theorem dX6_close_14 : decode cX6_close 14 = .ok (.aload_n 0, 1) := by decide +kernel
theorem dX6_close_15 : decode cX6_close 15 = .ok (.getfield 92, 3) := by decide +kernel
theorem dX6_close_18 : decode cX6_close 18 = .ok (.bipush 7, 2) := by decide +kernel
theorem dX6_close_20 : decode cX6_close 20 = .ok (.if_icmp .ne 6, 3) := by decide +kernel
theorem dX6_close_23 : decode cX6_close 23 = .ok (.bipush (-4), 2) := by decide +kernel
theorem dX6_close_25 : decode cX6_close 25 = .ok (.ireturn, 1) := by decide +kernel
theorem dX6_close_26 : decode cX6_close 26 = .ok (.aload_n 0, 1) := by decide +kernel
theorem dX6_close_27 : decode cX6_close 27 = .ok (.dup, 1) := by decide +kernel
theorem dX6_close_28 : decode cX6_close 28 = .ok (.getfield 92, 3) := by decide +kernel
theorem dX6_close_31 : decode cX6_close 31 = .ok (.iconst 1, 1) := by decide +kernel
theorem dX6_close_32 : decode cX6_close 32 = .ok (.iadd, 1) := by decide +kernel
theorem dX6_close_33 : decode cX6_close 33 = .ok (.putfield 92, 3) := by decide +kernel
theorem dX6_close_36 : decode cX6_close 36 = .ok (.iconst 0, 1) := by decide +kernel
theorem dX6_close_37 : decode cX6_close 37 = .ok (.istore_n 1, 1) := by decide +kernel
theorem dX6_close_38 : decode cX6_close 38 = .ok (.iload_n 1, 1) := by decide +kernel
theorem dX6_close_39 : decode cX6_close 39 = .ok (.aload_n 0, 1) := by decide +kernel
theorem dX6_close_40 : decode cX6_close 40 = .ok (.getfield 89, 3) := by decide +kernel
theorem dX6_close_43 : decode cX6_close 43 = .ok (.if_icmp .ge 54, 3) := by decide +kernel
theorem dX6_close_46 : decode cX6_close 46 = .ok (.aload_n 0, 1) := by decide +kernel
theorem dX6_close_47 : decode cX6_close 47 = .ok (.getfield 41, 3) := by decide +kernel
theorem dX6_close_50 : decode cX6_close 50 = .ok (.iload_n 1, 1) := by decide +kernel
theorem dX6_close_51 : decode cX6_close 51 = .ok (.aload_n 0, 1) := by decide +kernel
theorem dX6_close_52 : decode cX6_close 52 = .ok (.getfield 31, 3) := by decide +kernel
theorem dX6_close_55 : decode cX6_close 55 = .ok (.iload_n 1, 1) := by decide +kernel
theorem dX6_close_56 : decode cX6_close 56 = .ok (.iaload, 1) := by decide +kernel
theorem dX6_close_57 : decode cX6_close 57 = .ok (.aload_n 0, 1) := by decide +kernel
theorem dX6_close_58 : decode cX6_close 58 = .ok (.getfield 92, 3) := by decide +kernel
theorem dX6_close_61 : decode cX6_close 61 = .ok (.iconst 1, 1) := by decide +kernel
theorem dX6_close_62 : decode cX6_close 62 = .ok (.isub, 1) := by decide +kernel
theorem dX6_close_63 : decode cX6_close 63 = .ok (.if_icmp .ne 21, 3) := by decide +kernel
theorem dX6_close_66 : decode cX6_close 66 = .ok (.aload_n 0, 1) := by decide +kernel
theorem dX6_close_67 : decode cX6_close 67 = .ok (.getfield 25, 3) := by decide +kernel
theorem dX6_close_70 : decode cX6_close 70 = .ok (.iload_n 1, 1) := by decide +kernel
theorem dX6_close_71 : decode cX6_close 71 = .ok (.iaload, 1) := by decide +kernel
theorem dX6_close_72 : decode cX6_close 72 = .ok (.iconst 4, 1) := by decide +kernel
theorem dX6_close_73 : decode cX6_close 73 = .ok (.if_icmp .ne 11, 3) := by decide +kernel
theorem dX6_close_76 : decode cX6_close 76 = .ok (.aload_n 0, 1) := by decide +kernel
theorem dX6_close_77 : decode cX6_close 77 = .ok (.iload_n 1, 1) := by decide +kernel
theorem dX6_close_78 : decode cX6_close 78 = .ok (.invokevirtual 98, 3) := by decide +kernel
theorem dX6_close_81 : decode cX6_close 81 = .ok (.goto 9, 3) := by decide +kernel
theorem dX6_close_84 : decode cX6_close 84 = .ok (.aload_n 0, 1) := by decide +kernel
theorem dX6_close_85 : decode cX6_close 85 = .ok (.getfield 41, 3) := by decide +kernel
theorem dX6_close_88 : decode cX6_close 88 = .ok (.iload_n 1, 1) := by decide +kernel
theorem dX6_close_89 : decode cX6_close 89 = .ok (.iaload, 1) := by decide +kernel
theorem dX6_close_90 : decode cX6_close 90 = .ok (.iastore, 1) := by decide +kernel
theorem dX6_close_91 : decode cX6_close 91 = .ok (.iinc 1 1, 3) := by decide +kernel
theorem dX6_close_94 : decode cX6_close 94 = .ok (.goto (-56), 3) := by decide +kernel
theorem dX6_close_97 : decode cX6_close 97 = .ok (.aload_n 0, 1) := by decide +kernel
theorem dX6_close_98 : decode cX6_close 98 = .ok (.getfield 92, 3) := by decide +kernel
theorem dX6_close_101 : decode cX6_close 101 = .ok (.ireturn, 1) := by decide +kernel
theorem dX6_undo_0 : decode cX6_undo 0 = .ok (.aload_n 0, 1) := by decide +kernel
theorem dX6_undo_1 : decode cX6_undo 1 = .ok (.aload_n 0, 1) := by decide +kernel
theorem dX6_undo_2 : decode cX6_undo 2 = .ok (.getfield 92, 3) := by decide +kernel
theorem dX6_undo_5 : decode cX6_undo 5 = .ok (.invokevirtual 95, 3) := by decide +kernel
theorem dX6_undo_8 : decode cX6_undo 8 = .ok (.ifCond .ne 6, 3) := by decide +kernel
theorem dX6_undo_11 : decode cX6_undo 11 = .ok (.bipush (-3), 2) := by decide +kernel
theorem dX6_undo_13 : decode cX6_undo 13 = .ok (.ireturn, 1) := by decide +kernel
theorem dX6_undo_14 : decode cX6_undo 14 = .ok (.aload_n 0, 1) := by decide +kernel
theorem dX6_undo_15 : decode cX6_undo 15 = .ok (.dup, 1) := by decide +kernel
theorem dX6_undo_16 : decode cX6_undo 16 = .ok (.getfield 89, 3) := by decide +kernel
theorem dX6_undo_19 : decode cX6_undo 19 = .ok (.iconst 1, 1) := by decide +kernel
theorem dX6_undo_20 : decode cX6_undo 20 = .ok (.isub, 1) := by decide +kernel
theorem dX6_undo_21 : decode cX6_undo 21 = .ok (.putfield 89, 3) := by decide +kernel
theorem dX6_undo_24 : decode cX6_undo 24 = .ok (.aload_n 0, 1) := by decide +kernel
theorem dX6_undo_25 : decode cX6_undo 25 = .ok (.getfield 89, 3) := by decide +kernel
theorem dX6_undo_28 : decode cX6_undo 28 = .ok (.ireturn, 1) := by decide +kernel
theorem dX6_isWrite_0 : decode cX6_isWrite 0 = .ok (.iload_n 1, 1) := by decide +kernel
theorem dX6_isWrite_1 : decode cX6_isWrite 1 = .ok (.i2l, 1) := by decide +kernel
theorem dX6_isWrite_2 : decode cX6_isWrite 2 = .ok (.lconst 0, 1) := by decide +kernel
theorem dX6_isWrite_3 : decode cX6_isWrite 3 = .ok (.aload_n 0, 1) := by decide +kernel
theorem dX6_isWrite_4 : decode cX6_isWrite 4 = .ok (.getfield 89, 3) := by decide +kernel
theorem dX6_isWrite_7 : decode cX6_isWrite 7 = .ok (.iconst 1, 1) := by decide +kernel
theorem dX6_isWrite_8 : decode cX6_isWrite 8 = .ok (.isub, 1) := by decide +kernel
theorem dX6_isWrite_9 : decode cX6_isWrite 9 = .ok (.i2l, 1) := by decide +kernel
theorem dX6_isWrite_10 : decode cX6_isWrite 10 = .ok (.invokestatic 51, 3) := by decide +kernel
theorem dX6_isWrite_13 : decode cX6_isWrite 13 = .ok (.ireturn, 1) := by decide +kernel
theorem dX6_isSeal_0 : decode cX6_isSeal 0 = .ok (.aload_n 0, 1) := by decide +kernel
theorem dX6_isSeal_1 : decode cX6_isSeal 1 = .ok (.getfield 25, 3) := by decide +kernel
theorem dX6_isSeal_4 : decode cX6_isSeal 4 = .ok (.iload_n 1, 1) := by decide +kernel
theorem dX6_isSeal_5 : decode cX6_isSeal 5 = .ok (.iaload, 1) := by decide +kernel
theorem dX6_isSeal_6 : decode cX6_isSeal 6 = .ok (.iconst 4, 1) := by decide +kernel
theorem dX6_isSeal_7 : decode cX6_isSeal 7 = .ok (.if_icmp .ne 7, 3) := by decide +kernel
theorem dX6_isSeal_10 : decode cX6_isSeal 10 = .ok (.iconst 1, 1) := by decide +kernel
theorem dX6_isSeal_11 : decode cX6_isSeal 11 = .ok (.goto 4, 3) := by decide +kernel
theorem dX6_isSeal_14 : decode cX6_isSeal 14 = .ok (.iconst 0, 1) := by decide +kernel
theorem dX6_isSeal_15 : decode cX6_isSeal 15 = .ok (.ireturn, 1) := by decide +kernel
theorem dX6_isClosed_0 : decode cX6_isClosed 0 = .ok (.aload_n 0, 1) := by decide +kernel
theorem dX6_isClosed_1 : decode cX6_isClosed 1 = .ok (.iload_n 1, 1) := by decide +kernel
theorem dX6_isClosed_2 : decode cX6_isClosed 2 = .ok (.invokevirtual 101, 3) := by decide +kernel
theorem dX6_isClosed_5 : decode cX6_isClosed 5 = .ok (.ifCond .eq 20, 3) := by decide +kernel
theorem dX6_isClosed_8 : decode cX6_isClosed 8 = .ok (.aload_n 0, 1) := by decide +kernel
theorem dX6_isClosed_9 : decode cX6_isClosed 9 = .ok (.getfield 31, 3) := by decide +kernel
theorem dX6_isClosed_12 : decode cX6_isClosed 12 = .ok (.iload_n 1, 1) := by decide +kernel
theorem dX6_isClosed_13 : decode cX6_isClosed 13 = .ok (.iaload, 1) := by decide +kernel
theorem dX6_isClosed_14 : decode cX6_isClosed 14 = .ok (.aload_n 0, 1) := by decide +kernel
theorem dX6_isClosed_15 : decode cX6_isClosed 15 = .ok (.getfield 92, 3) := by decide +kernel
theorem dX6_isClosed_18 : decode cX6_isClosed 18 = .ok (.if_icmp .ge 7, 3) := by decide +kernel
theorem dX6_isClosed_21 : decode cX6_isClosed 21 = .ok (.iconst 1, 1) := by decide +kernel
theorem dX6_isClosed_22 : decode cX6_isClosed 22 = .ok (.goto 4, 3) := by decide +kernel
theorem dX6_isClosed_25 : decode cX6_isClosed 25 = .ok (.iconst 0, 1) := by decide +kernel
theorem dX6_isClosed_26 : decode cX6_isClosed 26 = .ok (.ireturn, 1) := by decide +kernel
theorem dX6_isCover_0 : decode cX6_isCover 0 = .ok (.iload_n 0, 1) := by decide +kernel
theorem dX6_isCover_1 : decode cX6_isCover 1 = .ok (.i2l, 1) := by decide +kernel
theorem dX6_isCover_2 : decode cX6_isCover 2 = .ok (.lconst 0, 1) := by decide +kernel
theorem dX6_isCover_3 : decode cX6_isCover 3 = .ok (.iload_n 1, 1) := by decide +kernel
theorem dX6_isCover_4 : decode cX6_isCover 4 = .ok (.i2l, 1) := by decide +kernel
theorem dX6_isCover_5 : decode cX6_isCover 5 = .ok (.invokestatic 51, 3) := by decide +kernel
theorem dX6_isCover_8 : decode cX6_isCover 8 = .ok (.ifCond .eq 44, 3) := by decide +kernel
theorem dX6_isCover_11 : decode cX6_isCover 11 = .ok (.iload_n 1, 1) := by decide +kernel
theorem dX6_isCover_12 : decode cX6_isCover 12 = .ok (.i2l, 1) := by decide +kernel
theorem dX6_isCover_13 : decode cX6_isCover 13 = .ok (.iload_n 0, 1) := by decide +kernel
theorem dX6_isCover_14 : decode cX6_isCover 14 = .ok (.i2l, 1) := by decide +kernel
theorem dX6_isCover_15 : decode cX6_isCover 15 = .ok (.iload_n 2, 1) := by decide +kernel
theorem dX6_isCover_16 : decode cX6_isCover 16 = .ok (.i2l, 1) := by decide +kernel
theorem dX6_isCover_17 : decode cX6_isCover 17 = .ok (.invokestatic 51, 3) := by decide +kernel
theorem dX6_isCover_20 : decode cX6_isCover 20 = .ok (.ifCond .eq 32, 3) := by decide +kernel
theorem dX6_isCover_23 : decode cX6_isCover 23 = .ok (.iload_n 2, 1) := by decide +kernel
theorem dX6_isCover_24 : decode cX6_isCover 24 = .ok (.i2l, 1) := by decide +kernel
theorem dX6_isCover_25 : decode cX6_isCover 25 = .ok (.iload_n 1, 1) := by decide +kernel
theorem dX6_isCover_26 : decode cX6_isCover 26 = .ok (.i2l, 1) := by decide +kernel
theorem dX6_isCover_27 : decode cX6_isCover 27 = .ok (.iload_n 3, 1) := by decide +kernel
theorem dX6_isCover_28 : decode cX6_isCover 28 = .ok (.i2l, 1) := by decide +kernel
theorem dX6_isCover_29 : decode cX6_isCover 29 = .ok (.invokestatic 51, 3) := by decide +kernel
theorem dX6_isCover_32 : decode cX6_isCover 32 = .ok (.ifCond .eq 20, 3) := by decide +kernel
theorem dX6_isCover_35 : decode cX6_isCover 35 = .ok (.iload_n 3, 1) := by decide +kernel
theorem dX6_isCover_36 : decode cX6_isCover 36 = .ok (.i2l, 1) := by decide +kernel
theorem dX6_isCover_37 : decode cX6_isCover 37 = .ok (.iload_n 2, 1) := by decide +kernel
theorem dX6_isCover_38 : decode cX6_isCover 38 = .ok (.i2l, 1) := by decide +kernel
theorem dX6_isCover_39 : decode cX6_isCover 39 = .ok (.ldc2_w 104, 3) := by decide +kernel
theorem dX6_isCover_42 : decode cX6_isCover 42 = .ok (.invokestatic 51, 3) := by decide +kernel
theorem dX6_isCover_45 : decode cX6_isCover 45 = .ok (.ifCond .eq 7, 3) := by decide +kernel
theorem dX6_isCover_48 : decode cX6_isCover 48 = .ok (.iconst 1, 1) := by decide +kernel
theorem dX6_isCover_49 : decode cX6_isCover 49 = .ok (.goto 4, 3) := by decide +kernel
theorem dX6_isCover_52 : decode cX6_isCover 52 = .ok (.iconst 0, 1) := by decide +kernel
theorem dX6_isCover_53 : decode cX6_isCover 53 = .ok (.ireturn, 1) := by decide +kernel
theorem dX6_cover_0 : decode cX6_cover 0 = .ok (.aload_n 0, 1) := by decide +kernel
theorem dX6_cover_1 : decode cX6_cover 1 = .ok (.iload_n 1, 1) := by decide +kernel
theorem dX6_cover_2 : decode cX6_cover 2 = .ok (.invokevirtual 106, 3) := by decide +kernel
theorem dX6_cover_5 : decode cX6_cover 5 = .ok (.ifCond .eq 15, 3) := by decide +kernel
theorem dX6_cover_8 : decode cX6_cover 8 = .ok (.iload_n 2, 1) := by decide +kernel
theorem dX6_cover_9 : decode cX6_cover 9 = .ok (.iload_n 3, 1) := by decide +kernel
theorem dX6_cover_10 : decode cX6_cover 10 = .ok (.iload 4, 2) := by decide +kernel
theorem dX6_cover_12 : decode cX6_cover 12 = .ok (.iload 5, 2) := by decide +kernel
theorem dX6_cover_14 : decode cX6_cover 14 = .ok (.invokestatic 109, 3) := by decide +kernel
theorem dX6_cover_17 : decode cX6_cover 17 = .ok (.ifCond .ne 6, 3) := by decide +kernel
theorem dX6_cover_20 : decode cX6_cover 20 = .ok (.bipush (-2), 2) := by decide +kernel
theorem dX6_cover_22 : decode cX6_cover 22 = .ok (.ireturn, 1) := by decide +kernel
theorem dX6_cover_23 : decode cX6_cover 23 = .ok (.aload_n 0, 1) := by decide +kernel
theorem dX6_cover_24 : decode cX6_cover 24 = .ok (.iload_n 1, 1) := by decide +kernel
theorem dX6_cover_25 : decode cX6_cover 25 = .ok (.invokevirtual 101, 3) := by decide +kernel
theorem dX6_cover_28 : decode cX6_cover 28 = .ok (.ifCond .eq 11, 3) := by decide +kernel
theorem dX6_cover_31 : decode cX6_cover 31 = .ok (.aload_n 0, 1) := by decide +kernel
theorem dX6_cover_32 : decode cX6_cover 32 = .ok (.iload_n 1, 1) := by decide +kernel
theorem dX6_cover_33 : decode cX6_cover 33 = .ok (.invokevirtual 113, 3) := by decide +kernel
theorem dX6_cover_36 : decode cX6_cover 36 = .ok (.ifCond .eq 6, 3) := by decide +kernel
theorem dX6_cover_39 : decode cX6_cover 39 = .ok (.bipush (-3), 2) := by decide +kernel
theorem dX6_cover_41 : decode cX6_cover 41 = .ok (.ireturn, 1) := by decide +kernel
theorem dX6_cover_42 : decode cX6_cover 42 = .ok (.aload_n 0, 1) := by decide +kernel
theorem dX6_cover_43 : decode cX6_cover 43 = .ok (.getfield 34, 3) := by decide +kernel
theorem dX6_cover_46 : decode cX6_cover 46 = .ok (.iload_n 1, 1) := by decide +kernel
theorem dX6_cover_47 : decode cX6_cover 47 = .ok (.iconst 1, 1) := by decide +kernel
theorem dX6_cover_48 : decode cX6_cover 48 = .ok (.bastore, 1) := by decide +kernel
theorem dX6_cover_49 : decode cX6_cover 49 = .ok (.aload_n 0, 1) := by decide +kernel
theorem dX6_cover_50 : decode cX6_cover 50 = .ok (.getfield 38, 3) := by decide +kernel
theorem dX6_cover_53 : decode cX6_cover 53 = .ok (.iconst 4, 1) := by decide +kernel
theorem dX6_cover_54 : decode cX6_cover 54 = .ok (.iload_n 1, 1) := by decide +kernel
theorem dX6_cover_55 : decode cX6_cover 55 = .ok (.imul, 1) := by decide +kernel
theorem dX6_cover_56 : decode cX6_cover 56 = .ok (.iload_n 2, 1) := by decide +kernel
theorem dX6_cover_57 : decode cX6_cover 57 = .ok (.iastore, 1) := by decide +kernel
theorem dX6_cover_58 : decode cX6_cover 58 = .ok (.aload_n 0, 1) := by decide +kernel
theorem dX6_cover_59 : decode cX6_cover 59 = .ok (.getfield 38, 3) := by decide +kernel
theorem dX6_cover_62 : decode cX6_cover 62 = .ok (.iconst 4, 1) := by decide +kernel
theorem dX6_cover_63 : decode cX6_cover 63 = .ok (.iload_n 1, 1) := by decide +kernel
theorem dX6_cover_64 : decode cX6_cover 64 = .ok (.imul, 1) := by decide +kernel
theorem dX6_cover_65 : decode cX6_cover 65 = .ok (.iconst 1, 1) := by decide +kernel
theorem dX6_cover_66 : decode cX6_cover 66 = .ok (.iadd, 1) := by decide +kernel
theorem dX6_cover_67 : decode cX6_cover 67 = .ok (.iload_n 3, 1) := by decide +kernel
theorem dX6_cover_68 : decode cX6_cover 68 = .ok (.iastore, 1) := by decide +kernel
theorem dX6_cover_69 : decode cX6_cover 69 = .ok (.aload_n 0, 1) := by decide +kernel
theorem dX6_cover_70 : decode cX6_cover 70 = .ok (.getfield 38, 3) := by decide +kernel
theorem dX6_cover_73 : decode cX6_cover 73 = .ok (.iconst 4, 1) := by decide +kernel
theorem dX6_cover_74 : decode cX6_cover 74 = .ok (.iload_n 1, 1) := by decide +kernel
theorem dX6_cover_75 : decode cX6_cover 75 = .ok (.imul, 1) := by decide +kernel
theorem dX6_cover_76 : decode cX6_cover 76 = .ok (.iconst 2, 1) := by decide +kernel
theorem dX6_cover_77 : decode cX6_cover 77 = .ok (.iadd, 1) := by decide +kernel
theorem dX6_cover_78 : decode cX6_cover 78 = .ok (.iload 4, 2) := by decide +kernel
theorem dX6_cover_80 : decode cX6_cover 80 = .ok (.iastore, 1) := by decide +kernel
theorem dX6_cover_81 : decode cX6_cover 81 = .ok (.aload_n 0, 1) := by decide +kernel
theorem dX6_cover_82 : decode cX6_cover 82 = .ok (.getfield 38, 3) := by decide +kernel
theorem dX6_cover_85 : decode cX6_cover 85 = .ok (.iconst 4, 1) := by decide +kernel
theorem dX6_cover_86 : decode cX6_cover 86 = .ok (.iload_n 1, 1) := by decide +kernel
theorem dX6_cover_87 : decode cX6_cover 87 = .ok (.imul, 1) := by decide +kernel
theorem dX6_cover_88 : decode cX6_cover 88 = .ok (.iconst 3, 1) := by decide +kernel
theorem dX6_cover_89 : decode cX6_cover 89 = .ok (.iadd, 1) := by decide +kernel
theorem dX6_cover_90 : decode cX6_cover 90 = .ok (.iload 5, 2) := by decide +kernel
theorem dX6_cover_92 : decode cX6_cover 92 = .ok (.iastore, 1) := by decide +kernel
theorem dX6_cover_93 : decode cX6_cover 93 = .ok (.iconst 1, 1) := by decide +kernel
theorem dX6_cover_94 : decode cX6_cover 94 = .ok (.ireturn, 1) := by decide +kernel
theorem dX6_alter_0 : decode cX6_alter 0 = .ok (.aload_n 0, 1) := by decide +kernel
theorem dX6_alter_1 : decode cX6_alter 1 = .ok (.iload_n 1, 1) := by decide +kernel
theorem dX6_alter_2 : decode cX6_alter 2 = .ok (.invokevirtual 106, 3) := by decide +kernel
theorem dX6_alter_5 : decode cX6_alter 5 = .ok (.ifCond .eq 16, 3) := by decide +kernel
theorem dX6_alter_8 : decode cX6_alter 8 = .ok (.aload_n 0, 1) := by decide +kernel
theorem dX6_alter_9 : decode cX6_alter 9 = .ok (.getfield 25, 3) := by decide +kernel
theorem dX6_alter_12 : decode cX6_alter 12 = .ok (.iload_n 1, 1) := by decide +kernel
theorem dX6_alter_13 : decode cX6_alter 13 = .ok (.iaload, 1) := by decide +kernel
theorem dX6_alter_14 : decode cX6_alter 14 = .ok (.iload_n 2, 1) := by decide +kernel
theorem dX6_alter_15 : decode cX6_alter 15 = .ok (.invokestatic 85, 3) := by decide +kernel
theorem dX6_alter_18 : decode cX6_alter 18 = .ok (.ifCond .ne 6, 3) := by decide +kernel
theorem dX6_alter_21 : decode cX6_alter 21 = .ok (.bipush (-2), 2) := by decide +kernel
theorem dX6_alter_23 : decode cX6_alter 23 = .ok (.ireturn, 1) := by decide +kernel
theorem dX6_alter_24 : decode cX6_alter 24 = .ok (.aload_n 0, 1) := by decide +kernel
theorem dX6_alter_25 : decode cX6_alter 25 = .ok (.getfield 28, 3) := by decide +kernel
theorem dX6_alter_28 : decode cX6_alter 28 = .ok (.iload_n 1, 1) := by decide +kernel
theorem dX6_alter_29 : decode cX6_alter 29 = .ok (.iaload, 1) := by decide +kernel
theorem dX6_alter_30 : decode cX6_alter 30 = .ok (.istore_n 3, 1) := by decide +kernel
theorem dX6_alter_31 : decode cX6_alter 31 = .ok (.aload_n 0, 1) := by decide +kernel
theorem dX6_alter_32 : decode cX6_alter 32 = .ok (.getfield 28, 3) := by decide +kernel
theorem dX6_alter_35 : decode cX6_alter 35 = .ok (.iload_n 1, 1) := by decide +kernel
theorem dX6_alter_36 : decode cX6_alter 36 = .ok (.iload_n 2, 1) := by decide +kernel
theorem dX6_alter_37 : decode cX6_alter 37 = .ok (.iastore, 1) := by decide +kernel
theorem dX6_alter_38 : decode cX6_alter 38 = .ok (.iload_n 3, 1) := by decide +kernel
theorem dX6_alter_39 : decode cX6_alter 39 = .ok (.ireturn, 1) := by decide +kernel
theorem dX6_read_0 : decode cX6_read 0 = .ok (.iload_n 1, 1) := by decide +kernel
theorem dX6_read_1 : decode cX6_read 1 = .ok (.invokestatic 60, 3) := by decide +kernel
theorem dX6_read_4 : decode cX6_read 4 = .ok (.ifCond .ne 6, 3) := by decide +kernel
theorem dX6_read_7 : decode cX6_read 7 = .ok (.bipush (-2), 2) := by decide +kernel
theorem dX6_read_9 : decode cX6_read 9 = .ok (.ireturn, 1) := by decide +kernel
theorem dX6_read_10 : decode cX6_read 10 = .ok (.aload_n 0, 1) := by decide +kernel
theorem dX6_read_11 : decode cX6_read 11 = .ok (.getfield 7, 3) := by decide +kernel
theorem dX6_read_14 : decode cX6_read 14 = .ok (.iload_n 1, 1) := by decide +kernel
theorem dX6_read_15 : decode cX6_read 15 = .ok (.iaload, 1) := by decide +kernel
theorem dX6_read_16 : decode cX6_read 16 = .ok (.ifCond .ge 9, 3) := by decide +kernel
theorem dX6_read_19 : decode cX6_read 19 = .ok (.aload_n 0, 1) := by decide +kernel
theorem dX6_read_20 : decode cX6_read 20 = .ok (.iconst 1, 1) := by decide +kernel
theorem dX6_read_21 : decode cX6_read 21 = .ok (.invokevirtual 66, 3) := by decide +kernel
theorem dX6_read_24 : decode cX6_read 24 = .ok (.ireturn, 1) := by decide +kernel
theorem dX6_read_25 : decode cX6_read 25 = .ok (.iconst 0, 1) := by decide +kernel
theorem dX6_read_26 : decode cX6_read 26 = .ok (.istore_n 2, 1) := by decide +kernel
theorem dX6_read_27 : decode cX6_read 27 = .ok (.iconst 1, 1) := by decide +kernel
theorem dX6_read_28 : decode cX6_read 28 = .ok (.istore_n 3, 1) := by decide +kernel
theorem dX6_read_29 : decode cX6_read 29 = .ok (.iload_n 3, 1) := by decide +kernel
theorem dX6_read_30 : decode cX6_read 30 = .ok (.ifCond .eq 80, 3) := by decide +kernel
theorem dX6_read_33 : decode cX6_read 33 = .ok (.iconst 3, 1) := by decide +kernel
theorem dX6_read_34 : decode cX6_read 34 = .ok (.iload_n 2, 1) := by decide +kernel
theorem dX6_read_35 : decode cX6_read 35 = .ok (.imul, 1) := by decide +kernel
theorem dX6_read_36 : decode cX6_read 36 = .ok (.iconst 3, 1) := by decide +kernel
theorem dX6_read_37 : decode cX6_read 37 = .ok (.iadd, 1) := by decide +kernel
theorem dX6_read_38 : decode cX6_read 38 = .ok (.aload_n 0, 1) := by decide +kernel
theorem dX6_read_39 : decode cX6_read 39 = .ok (.getfield 13, 3) := by decide +kernel
theorem dX6_read_42 : decode cX6_read 42 = .ok (.iload_n 1, 1) := by decide +kernel
theorem dX6_read_43 : decode cX6_read 43 = .ok (.iaload, 1) := by decide +kernel
theorem dX6_read_44 : decode cX6_read 44 = .ok (.if_icmp .gt 66, 3) := by decide +kernel
theorem dX6_read_47 : decode cX6_read 47 = .ok (.bipush 60, 2) := by decide +kernel
theorem dX6_read_49 : decode cX6_read 49 = .ok (.iload_n 1, 1) := by decide +kernel
theorem dX6_read_50 : decode cX6_read 50 = .ok (.imul, 1) := by decide +kernel
theorem dX6_read_51 : decode cX6_read 51 = .ok (.iconst 3, 1) := by decide +kernel
theorem dX6_read_52 : decode cX6_read 52 = .ok (.iload_n 2, 1) := by decide +kernel
theorem dX6_read_53 : decode cX6_read 53 = .ok (.imul, 1) := by decide +kernel
theorem dX6_read_54 : decode cX6_read 54 = .ok (.iadd, 1) := by decide +kernel
theorem dX6_read_55 : decode cX6_read 55 = .ok (.istore 4, 2) := by decide +kernel
theorem dX6_read_57 : decode cX6_read 57 = .ok (.aload_n 0, 1) := by decide +kernel
theorem dX6_read_58 : decode cX6_read 58 = .ok (.aload_n 0, 1) := by decide +kernel
theorem dX6_read_59 : decode cX6_read 59 = .ok (.getfield 16, 3) := by decide +kernel
theorem dX6_read_62 : decode cX6_read 62 = .ok (.iload 4, 2) := by decide +kernel
theorem dX6_read_64 : decode cX6_read 64 = .ok (.iaload, 1) := by decide +kernel
theorem dX6_read_65 : decode cX6_read 65 = .ok (.aload_n 0, 1) := by decide +kernel
theorem dX6_read_66 : decode cX6_read 66 = .ok (.getfield 16, 3) := by decide +kernel
theorem dX6_read_69 : decode cX6_read 69 = .ok (.iload 4, 2) := by decide +kernel
theorem dX6_read_71 : decode cX6_read 71 = .ok (.iconst 1, 1) := by decide +kernel
theorem dX6_read_72 : decode cX6_read 72 = .ok (.iadd, 1) := by decide +kernel
theorem dX6_read_73 : decode cX6_read 73 = .ok (.iaload, 1) := by decide +kernel
theorem dX6_read_74 : decode cX6_read 74 = .ok (.aload_n 0, 1) := by decide +kernel
theorem dX6_read_75 : decode cX6_read 75 = .ok (.getfield 16, 3) := by decide +kernel
theorem dX6_read_78 : decode cX6_read 78 = .ok (.iload 4, 2) := by decide +kernel
theorem dX6_read_80 : decode cX6_read 80 = .ok (.iconst 2, 1) := by decide +kernel
theorem dX6_read_81 : decode cX6_read 81 = .ok (.iadd, 1) := by decide +kernel
theorem dX6_read_82 : decode cX6_read 82 = .ok (.iaload, 1) := by decide +kernel
theorem dX6_read_83 : decode cX6_read 83 = .ok (.invokevirtual 116, 3) := by decide +kernel
theorem dX6_read_86 : decode cX6_read 86 = .ok (.ifCond .lt 7, 3) := by decide +kernel
theorem dX6_read_89 : decode cX6_read 89 = .ok (.iconst 1, 1) := by decide +kernel
theorem dX6_read_90 : decode cX6_read 90 = .ok (.goto 4, 3) := by decide +kernel
theorem dX6_read_93 : decode cX6_read 93 = .ok (.iconst 0, 1) := by decide +kernel
theorem dX6_read_94 : decode cX6_read 94 = .ok (.istore_n 3, 1) := by decide +kernel
theorem dX6_read_95 : decode cX6_read 95 = .ok (.iload_n 2, 1) := by decide +kernel
theorem dX6_read_96 : decode cX6_read 96 = .ok (.iload_n 3, 1) := by decide +kernel
theorem dX6_read_97 : decode cX6_read 97 = .ok (.ifCond .eq 7, 3) := by decide +kernel
theorem dX6_read_100 : decode cX6_read 100 = .ok (.iconst 1, 1) := by decide +kernel
theorem dX6_read_101 : decode cX6_read 101 = .ok (.goto 4, 3) := by decide +kernel
theorem dX6_read_104 : decode cX6_read 104 = .ok (.iconst 0, 1) := by decide +kernel
theorem dX6_read_105 : decode cX6_read 105 = .ok (.iadd, 1) := by decide +kernel
theorem dX6_read_106 : decode cX6_read 106 = .ok (.istore_n 2, 1) := by decide +kernel
theorem dX6_read_107 : decode cX6_read 107 = .ok (.goto (-78), 3) := by decide +kernel
theorem dX6_read_110 : decode cX6_read 110 = .ok (.iload_n 2, 1) := by decide +kernel
theorem dX6_read_111 : decode cX6_read 111 = .ok (.ireturn, 1) := by decide +kernel
theorem dX6_placeOf_0 : decode cX6_placeOf 0 = .ok (.iconst 5, 1) := by decide +kernel
theorem dX6_placeOf_1 : decode cX6_placeOf 1 = .ok (.iload_n 1, 1) := by decide +kernel
theorem dX6_placeOf_2 : decode cX6_placeOf 2 = .ok (.imul, 1) := by decide +kernel
theorem dX6_placeOf_3 : decode cX6_placeOf 3 = .ok (.iconst 2, 1) := by decide +kernel
theorem dX6_placeOf_4 : decode cX6_placeOf 4 = .ok (.aload_n 0, 1) := by decide +kernel
theorem dX6_placeOf_5 : decode cX6_placeOf 5 = .ok (.getfield 31, 3) := by decide +kernel
theorem dX6_placeOf_8 : decode cX6_placeOf 8 = .ok (.iload_n 1, 1) := by decide +kernel
theorem dX6_placeOf_9 : decode cX6_placeOf 9 = .ok (.iaload, 1) := by decide +kernel
theorem dX6_placeOf_10 : decode cX6_placeOf 10 = .ok (.imul, 1) := by decide +kernel
theorem dX6_placeOf_11 : decode cX6_placeOf 11 = .ok (.iadd, 1) := by decide +kernel
theorem dX6_placeOf_12 : decode cX6_placeOf 12 = .ok (.ireturn, 1) := by decide +kernel
theorem dX6_firstOf_0 : decode cX6_firstOf 0 = .ok (.iconst 0, 1) := by decide +kernel
theorem dX6_firstOf_1 : decode cX6_firstOf 1 = .ok (.istore_n 2, 1) := by decide +kernel
theorem dX6_firstOf_2 : decode cX6_firstOf 2 = .ok (.iconst 0, 1) := by decide +kernel
theorem dX6_firstOf_3 : decode cX6_firstOf 3 = .ok (.istore_n 3, 1) := by decide +kernel
theorem dX6_firstOf_4 : decode cX6_firstOf 4 = .ok (.iload_n 3, 1) := by decide +kernel
theorem dX6_firstOf_5 : decode cX6_firstOf 5 = .ok (.aload_n 0, 1) := by decide +kernel
theorem dX6_firstOf_6 : decode cX6_firstOf 6 = .ok (.getfield 89, 3) := by decide +kernel
theorem dX6_firstOf_9 : decode cX6_firstOf 9 = .ok (.if_icmp .ge 27, 3) := by decide +kernel
theorem dX6_firstOf_12 : decode cX6_firstOf 12 = .ok (.iload_n 2, 1) := by decide +kernel
theorem dX6_firstOf_13 : decode cX6_firstOf 13 = .ok (.aload_n 0, 1) := by decide +kernel
theorem dX6_firstOf_14 : decode cX6_firstOf 14 = .ok (.getfield 31, 3) := by decide +kernel
theorem dX6_firstOf_17 : decode cX6_firstOf 17 = .ok (.iload_n 3, 1) := by decide +kernel
theorem dX6_firstOf_18 : decode cX6_firstOf 18 = .ok (.iaload, 1) := by decide +kernel
theorem dX6_firstOf_19 : decode cX6_firstOf 19 = .ok (.iload_n 1, 1) := by decide +kernel
theorem dX6_firstOf_20 : decode cX6_firstOf 20 = .ok (.if_icmp .ge 7, 3) := by decide +kernel
theorem dX6_firstOf_23 : decode cX6_firstOf 23 = .ok (.iconst 1, 1) := by decide +kernel
theorem dX6_firstOf_24 : decode cX6_firstOf 24 = .ok (.goto 4, 3) := by decide +kernel
theorem dX6_firstOf_27 : decode cX6_firstOf 27 = .ok (.iconst 0, 1) := by decide +kernel
theorem dX6_firstOf_28 : decode cX6_firstOf 28 = .ok (.iadd, 1) := by decide +kernel
theorem dX6_firstOf_29 : decode cX6_firstOf 29 = .ok (.istore_n 2, 1) := by decide +kernel
theorem dX6_firstOf_30 : decode cX6_firstOf 30 = .ok (.iinc 3 1, 3) := by decide +kernel
theorem dX6_firstOf_33 : decode cX6_firstOf 33 = .ok (.goto (-29), 3) := by decide +kernel
theorem dX6_firstOf_36 : decode cX6_firstOf 36 = .ok (.iload_n 2, 1) := by decide +kernel
theorem dX6_firstOf_37 : decode cX6_firstOf 37 = .ok (.ireturn, 1) := by decide +kernel
theorem dX6_beginOf_0 : decode cX6_beginOf 0 = .ok (.iconst 5, 1) := by decide +kernel
theorem dX6_beginOf_1 : decode cX6_beginOf 1 = .ok (.aload_n 0, 1) := by decide +kernel
theorem dX6_beginOf_2 : decode cX6_beginOf 2 = .ok (.iload_n 1, 1) := by decide +kernel
theorem dX6_beginOf_3 : decode cX6_beginOf 3 = .ok (.invokevirtual 119, 3) := by decide +kernel
theorem dX6_beginOf_6 : decode cX6_beginOf 6 = .ok (.imul, 1) := by decide +kernel
theorem dX6_beginOf_7 : decode cX6_beginOf 7 = .ok (.iconst 2, 1) := by decide +kernel
theorem dX6_beginOf_8 : decode cX6_beginOf 8 = .ok (.iload_n 1, 1) := by decide +kernel
theorem dX6_beginOf_9 : decode cX6_beginOf 9 = .ok (.imul, 1) := by decide +kernel
theorem dX6_beginOf_10 : decode cX6_beginOf 10 = .ok (.iadd, 1) := by decide +kernel
theorem dX6_beginOf_11 : decode cX6_beginOf 11 = .ok (.ireturn, 1) := by decide +kernel
theorem dX6_endOf_0 : decode cX6_endOf 0 = .ok (.aload_n 0, 1) := by decide +kernel
theorem dX6_endOf_1 : decode cX6_endOf 1 = .ok (.iload_n 1, 1) := by decide +kernel
theorem dX6_endOf_2 : decode cX6_endOf 2 = .ok (.invokevirtual 122, 3) := by decide +kernel
theorem dX6_endOf_5 : decode cX6_endOf 5 = .ok (.iconst 5, 1) := by decide +kernel
theorem dX6_endOf_6 : decode cX6_endOf 6 = .ok (.aload_n 0, 1) := by decide +kernel
theorem dX6_endOf_7 : decode cX6_endOf 7 = .ok (.iload_n 1, 1) := by decide +kernel
theorem dX6_endOf_8 : decode cX6_endOf 8 = .ok (.invokevirtual 95, 3) := by decide +kernel
theorem dX6_endOf_11 : decode cX6_endOf 11 = .ok (.imul, 1) := by decide +kernel
theorem dX6_endOf_12 : decode cX6_endOf 12 = .ok (.iadd, 1) := by decide +kernel
theorem dX6_endOf_13 : decode cX6_endOf 13 = .ok (.iload_n 1, 1) := by decide +kernel
theorem dX6_endOf_14 : decode cX6_endOf 14 = .ok (.aload_n 0, 1) := by decide +kernel
theorem dX6_endOf_15 : decode cX6_endOf 15 = .ok (.getfield 92, 3) := by decide +kernel
theorem dX6_endOf_18 : decode cX6_endOf 18 = .ok (.if_icmp .ge 7, 3) := by decide +kernel
theorem dX6_endOf_21 : decode cX6_endOf 21 = .ok (.iconst 2, 1) := by decide +kernel
theorem dX6_endOf_22 : decode cX6_endOf 22 = .ok (.goto 4, 3) := by decide +kernel
theorem dX6_endOf_25 : decode cX6_endOf 25 = .ok (.iconst 0, 1) := by decide +kernel
theorem dX6_endOf_26 : decode cX6_endOf 26 = .ok (.iadd, 1) := by decide +kernel
theorem dX6_endOf_27 : decode cX6_endOf 27 = .ok (.ireturn, 1) := by decide +kernel
theorem dX6_allBytes_0 : decode cX6_allBytes 0 = .ok (.iconst 5, 1) := by decide +kernel
theorem dX6_allBytes_1 : decode cX6_allBytes 1 = .ok (.aload_n 0, 1) := by decide +kernel
theorem dX6_allBytes_2 : decode cX6_allBytes 2 = .ok (.getfield 89, 3) := by decide +kernel
theorem dX6_allBytes_5 : decode cX6_allBytes 5 = .ok (.imul, 1) := by decide +kernel
theorem dX6_allBytes_6 : decode cX6_allBytes 6 = .ok (.iconst 2, 1) := by decide +kernel
theorem dX6_allBytes_7 : decode cX6_allBytes 7 = .ok (.aload_n 0, 1) := by decide +kernel
theorem dX6_allBytes_8 : decode cX6_allBytes 8 = .ok (.getfield 92, 3) := by decide +kernel
theorem dX6_allBytes_11 : decode cX6_allBytes 11 = .ok (.imul, 1) := by decide +kernel
theorem dX6_allBytes_12 : decode cX6_allBytes 12 = .ok (.iadd, 1) := by decide +kernel
theorem dX6_allBytes_13 : decode cX6_allBytes 13 = .ok (.ireturn, 1) := by decide +kernel
theorem dX6_byteOf_0 : decode cX6_byteOf 0 = .ok (.iload_n 2, 1) := by decide +kernel
theorem dX6_byteOf_1 : decode cX6_byteOf 1 = .ok (.tableswitch 59 0 3 #[31, 34, 41, 48], 31) := by decide +kernel
theorem dX6_byteOf_32 : decode cX6_byteOf 32 = .ok (.bipush 79, 2) := by decide +kernel
theorem dX6_byteOf_34 : decode cX6_byteOf 34 = .ok (.ireturn, 1) := by decide +kernel
theorem dX6_byteOf_35 : decode cX6_byteOf 35 = .ok (.aload_n 0, 1) := by decide +kernel
theorem dX6_byteOf_36 : decode cX6_byteOf 36 = .ok (.getfield 22, 3) := by decide +kernel
theorem dX6_byteOf_39 : decode cX6_byteOf 39 = .ok (.iload_n 1, 1) := by decide +kernel
theorem dX6_byteOf_40 : decode cX6_byteOf 40 = .ok (.iaload, 1) := by decide +kernel
theorem dX6_byteOf_41 : decode cX6_byteOf 41 = .ok (.ireturn, 1) := by decide +kernel
theorem dX6_byteOf_42 : decode cX6_byteOf 42 = .ok (.aload_n 0, 1) := by decide +kernel
theorem dX6_byteOf_43 : decode cX6_byteOf 43 = .ok (.getfield 25, 3) := by decide +kernel
theorem dX6_byteOf_46 : decode cX6_byteOf 46 = .ok (.iload_n 1, 1) := by decide +kernel
theorem dX6_byteOf_47 : decode cX6_byteOf 47 = .ok (.iaload, 1) := by decide +kernel
theorem dX6_byteOf_48 : decode cX6_byteOf 48 = .ok (.ireturn, 1) := by decide +kernel
theorem dX6_byteOf_49 : decode cX6_byteOf 49 = .ok (.aload_n 0, 1) := by decide +kernel
theorem dX6_byteOf_50 : decode cX6_byteOf 50 = .ok (.getfield 28, 3) := by decide +kernel
theorem dX6_byteOf_53 : decode cX6_byteOf 53 = .ok (.iload_n 1, 1) := by decide +kernel
theorem dX6_byteOf_54 : decode cX6_byteOf 54 = .ok (.iaload, 1) := by decide +kernel
theorem dX6_byteOf_55 : decode cX6_byteOf 55 = .ok (.sipush 256, 3) := by decide +kernel
theorem dX6_byteOf_58 : decode cX6_byteOf 58 = .ok (.idiv, 1) := by decide +kernel
theorem dX6_byteOf_59 : decode cX6_byteOf 59 = .ok (.ireturn, 1) := by decide +kernel
theorem dX6_byteOf_60 : decode cX6_byteOf 60 = .ok (.aload_n 0, 1) := by decide +kernel
theorem dX6_byteOf_61 : decode cX6_byteOf 61 = .ok (.getfield 28, 3) := by decide +kernel
theorem dX6_byteOf_64 : decode cX6_byteOf 64 = .ok (.iload_n 1, 1) := by decide +kernel
theorem dX6_byteOf_65 : decode cX6_byteOf 65 = .ok (.iaload, 1) := by decide +kernel
theorem dX6_byteOf_66 : decode cX6_byteOf 66 = .ok (.sipush 256, 3) := by decide +kernel
theorem dX6_byteOf_69 : decode cX6_byteOf 69 = .ok (.irem, 1) := by decide +kernel
theorem dX6_byteOf_70 : decode cX6_byteOf 70 = .ok (.ireturn, 1) := by decide +kernel
theorem dX6_byteAt_0 : decode cX6_byteAt 0 = .ok (.iconst 0, 1) := by decide +kernel
theorem dX6_byteAt_1 : decode cX6_byteAt 1 = .ok (.istore_n 2, 1) := by decide +kernel
theorem dX6_byteAt_2 : decode cX6_byteAt 2 = .ok (.iload_n 2, 1) := by decide +kernel
theorem dX6_byteAt_3 : decode cX6_byteAt 3 = .ok (.aload_n 0, 1) := by decide +kernel
theorem dX6_byteAt_4 : decode cX6_byteAt 4 = .ok (.getfield 92, 3) := by decide +kernel
theorem dX6_byteAt_7 : decode cX6_byteAt 7 = .ok (.if_icmp .gt 92, 3) := by decide +kernel
theorem dX6_byteAt_10 : decode cX6_byteAt 10 = .ok (.aload_n 0, 1) := by decide +kernel
theorem dX6_byteAt_11 : decode cX6_byteAt 11 = .ok (.iload_n 2, 1) := by decide +kernel
theorem dX6_byteAt_12 : decode cX6_byteAt 12 = .ok (.invokevirtual 122, 3) := by decide +kernel
theorem dX6_byteAt_15 : decode cX6_byteAt 15 = .ok (.istore_n 3, 1) := by decide +kernel
theorem dX6_byteAt_16 : decode cX6_byteAt 16 = .ok (.iload_n 3, 1) := by decide +kernel
theorem dX6_byteAt_17 : decode cX6_byteAt 17 = .ok (.iconst 5, 1) := by decide +kernel
theorem dX6_byteAt_18 : decode cX6_byteAt 18 = .ok (.aload_n 0, 1) := by decide +kernel
theorem dX6_byteAt_19 : decode cX6_byteAt 19 = .ok (.iload_n 2, 1) := by decide +kernel
theorem dX6_byteAt_20 : decode cX6_byteAt 20 = .ok (.invokevirtual 95, 3) := by decide +kernel
theorem dX6_byteAt_23 : decode cX6_byteAt 23 = .ok (.imul, 1) := by decide +kernel
theorem dX6_byteAt_24 : decode cX6_byteAt 24 = .ok (.iadd, 1) := by decide +kernel
theorem dX6_byteAt_25 : decode cX6_byteAt 25 = .ok (.istore 4, 2) := by decide +kernel
theorem dX6_byteAt_27 : decode cX6_byteAt 27 = .ok (.iload_n 1, 1) := by decide +kernel
theorem dX6_byteAt_28 : decode cX6_byteAt 28 = .ok (.iload_n 3, 1) := by decide +kernel
theorem dX6_byteAt_29 : decode cX6_byteAt 29 = .ok (.if_icmp .lt 30, 3) := by decide +kernel
theorem dX6_byteAt_32 : decode cX6_byteAt 32 = .ok (.iload_n 1, 1) := by decide +kernel
theorem dX6_byteAt_33 : decode cX6_byteAt 33 = .ok (.iload 4, 2) := by decide +kernel
theorem dX6_byteAt_35 : decode cX6_byteAt 35 = .ok (.if_icmp .ge 24, 3) := by decide +kernel
theorem dX6_byteAt_38 : decode cX6_byteAt 38 = .ok (.aload_n 0, 1) := by decide +kernel
theorem dX6_byteAt_39 : decode cX6_byteAt 39 = .ok (.aload_n 0, 1) := by decide +kernel
theorem dX6_byteAt_40 : decode cX6_byteAt 40 = .ok (.iload_n 2, 1) := by decide +kernel
theorem dX6_byteAt_41 : decode cX6_byteAt 41 = .ok (.invokevirtual 119, 3) := by decide +kernel
theorem dX6_byteAt_44 : decode cX6_byteAt 44 = .ok (.iload_n 1, 1) := by decide +kernel
theorem dX6_byteAt_45 : decode cX6_byteAt 45 = .ok (.iload_n 3, 1) := by decide +kernel
theorem dX6_byteAt_46 : decode cX6_byteAt 46 = .ok (.isub, 1) := by decide +kernel
theorem dX6_byteAt_47 : decode cX6_byteAt 47 = .ok (.iconst 5, 1) := by decide +kernel
theorem dX6_byteAt_48 : decode cX6_byteAt 48 = .ok (.idiv, 1) := by decide +kernel
theorem dX6_byteAt_49 : decode cX6_byteAt 49 = .ok (.iadd, 1) := by decide +kernel
theorem dX6_byteAt_50 : decode cX6_byteAt 50 = .ok (.iload_n 1, 1) := by decide +kernel
theorem dX6_byteAt_51 : decode cX6_byteAt 51 = .ok (.iload_n 3, 1) := by decide +kernel
theorem dX6_byteAt_52 : decode cX6_byteAt 52 = .ok (.isub, 1) := by decide +kernel
theorem dX6_byteAt_53 : decode cX6_byteAt 53 = .ok (.iconst 5, 1) := by decide +kernel
theorem dX6_byteAt_54 : decode cX6_byteAt 54 = .ok (.irem, 1) := by decide +kernel
theorem dX6_byteAt_55 : decode cX6_byteAt 55 = .ok (.invokevirtual 125, 3) := by decide +kernel
theorem dX6_byteAt_58 : decode cX6_byteAt 58 = .ok (.ireturn, 1) := by decide +kernel
theorem dX6_byteAt_59 : decode cX6_byteAt 59 = .ok (.iload_n 2, 1) := by decide +kernel
theorem dX6_byteAt_60 : decode cX6_byteAt 60 = .ok (.aload_n 0, 1) := by decide +kernel
theorem dX6_byteAt_61 : decode cX6_byteAt 61 = .ok (.getfield 92, 3) := by decide +kernel
theorem dX6_byteAt_64 : decode cX6_byteAt 64 = .ok (.if_icmp .ge 29, 3) := by decide +kernel
theorem dX6_byteAt_67 : decode cX6_byteAt 67 = .ok (.iload_n 1, 1) := by decide +kernel
theorem dX6_byteAt_68 : decode cX6_byteAt 68 = .ok (.iload 4, 2) := by decide +kernel
theorem dX6_byteAt_70 : decode cX6_byteAt 70 = .ok (.if_icmp .lt 23, 3) := by decide +kernel
theorem dX6_byteAt_73 : decode cX6_byteAt 73 = .ok (.iload_n 1, 1) := by decide +kernel
theorem dX6_byteAt_74 : decode cX6_byteAt 74 = .ok (.iload 4, 2) := by decide +kernel
theorem dX6_byteAt_76 : decode cX6_byteAt 76 = .ok (.iconst 2, 1) := by decide +kernel
theorem dX6_byteAt_77 : decode cX6_byteAt 77 = .ok (.iadd, 1) := by decide +kernel
theorem dX6_byteAt_78 : decode cX6_byteAt 78 = .ok (.if_icmp .ge 15, 3) := by decide +kernel
theorem dX6_byteAt_81 : decode cX6_byteAt 81 = .ok (.iload_n 1, 1) := by decide +kernel
theorem dX6_byteAt_82 : decode cX6_byteAt 82 = .ok (.iload 4, 2) := by decide +kernel
theorem dX6_byteAt_84 : decode cX6_byteAt 84 = .ok (.if_icmp .ne 7, 3) := by decide +kernel
theorem dX6_byteAt_87 : decode cX6_byteAt 87 = .ok (.iconst 0, 1) := by decide +kernel
theorem dX6_byteAt_88 : decode cX6_byteAt 88 = .ok (.goto 4, 3) := by decide +kernel
theorem dX6_byteAt_91 : decode cX6_byteAt 91 = .ok (.iload_n 2, 1) := by decide +kernel
theorem dX6_byteAt_92 : decode cX6_byteAt 92 = .ok (.ireturn, 1) := by decide +kernel
theorem dX6_byteAt_93 : decode cX6_byteAt 93 = .ok (.iinc 2 1, 3) := by decide +kernel
theorem dX6_byteAt_96 : decode cX6_byteAt 96 = .ok (.goto (-94), 3) := by decide +kernel
theorem dX6_byteAt_99 : decode cX6_byteAt 99 = .ok (.iconst (-1), 1) := by decide +kernel
theorem dX6_byteAt_100 : decode cX6_byteAt 100 = .ok (.ireturn, 1) := by decide +kernel
theorem dX6_bytes_0 : decode cX6_bytes 0 = .ok (.iload_n 1, 1) := by decide +kernel
theorem dX6_bytes_1 : decode cX6_bytes 1 = .ok (.iconst (-1), 1) := by decide +kernel
theorem dX6_bytes_2 : decode cX6_bytes 2 = .ok (.if_icmp .ne 10, 3) := by decide +kernel
theorem dX6_bytes_5 : decode cX6_bytes 5 = .ok (.aload_n 0, 1) := by decide +kernel
theorem dX6_bytes_6 : decode cX6_bytes 6 = .ok (.invokevirtual 128, 3) := by decide +kernel
theorem dX6_bytes_9 : decode cX6_bytes 9 = .ok (.goto 29, 3) := by decide +kernel
theorem dX6_bytes_12 : decode cX6_bytes 12 = .ok (.iload_n 1, 1) := by decide +kernel
theorem dX6_bytes_13 : decode cX6_bytes 13 = .ok (.i2l, 1) := by decide +kernel
theorem dX6_bytes_14 : decode cX6_bytes 14 = .ok (.lconst 0, 1) := by decide +kernel
theorem dX6_bytes_15 : decode cX6_bytes 15 = .ok (.aload_n 0, 1) := by decide +kernel
theorem dX6_bytes_16 : decode cX6_bytes 16 = .ok (.invokevirtual 128, 3) := by decide +kernel
theorem dX6_bytes_19 : decode cX6_bytes 19 = .ok (.iconst 1, 1) := by decide +kernel
theorem dX6_bytes_20 : decode cX6_bytes 20 = .ok (.isub, 1) := by decide +kernel
theorem dX6_bytes_21 : decode cX6_bytes 21 = .ok (.i2l, 1) := by decide +kernel
theorem dX6_bytes_22 : decode cX6_bytes 22 = .ok (.invokestatic 51, 3) := by decide +kernel
theorem dX6_bytes_25 : decode cX6_bytes 25 = .ok (.ifCond .eq 11, 3) := by decide +kernel
theorem dX6_bytes_28 : decode cX6_bytes 28 = .ok (.aload_n 0, 1) := by decide +kernel
theorem dX6_bytes_29 : decode cX6_bytes 29 = .ok (.iload_n 1, 1) := by decide +kernel
theorem dX6_bytes_30 : decode cX6_bytes 30 = .ok (.invokevirtual 132, 3) := by decide +kernel
theorem dX6_bytes_33 : decode cX6_bytes 33 = .ok (.goto 5, 3) := by decide +kernel
theorem dX6_bytes_36 : decode cX6_bytes 36 = .ok (.bipush (-2), 2) := by decide +kernel
theorem dX6_bytes_38 : decode cX6_bytes 38 = .ok (.ireturn, 1) := by decide +kernel
theorem dX6_writeBy_0 : decode cX6_writeBy 0 = .ok (.iload_n 2, 1) := by decide +kernel
theorem dX6_writeBy_1 : decode cX6_writeBy 1 = .ok (.tableswitch 59 0 3 #[31, 38, 45, 52], 31) := by decide +kernel
theorem dX6_writeBy_32 : decode cX6_writeBy 32 = .ok (.aload_n 0, 1) := by decide +kernel
theorem dX6_writeBy_33 : decode cX6_writeBy 33 = .ok (.getfield 22, 3) := by decide +kernel
theorem dX6_writeBy_36 : decode cX6_writeBy 36 = .ok (.iload_n 1, 1) := by decide +kernel
theorem dX6_writeBy_37 : decode cX6_writeBy 37 = .ok (.iaload, 1) := by decide +kernel
theorem dX6_writeBy_38 : decode cX6_writeBy 38 = .ok (.ireturn, 1) := by decide +kernel
theorem dX6_writeBy_39 : decode cX6_writeBy 39 = .ok (.aload_n 0, 1) := by decide +kernel
theorem dX6_writeBy_40 : decode cX6_writeBy 40 = .ok (.getfield 25, 3) := by decide +kernel
theorem dX6_writeBy_43 : decode cX6_writeBy 43 = .ok (.iload_n 1, 1) := by decide +kernel
theorem dX6_writeBy_44 : decode cX6_writeBy 44 = .ok (.iaload, 1) := by decide +kernel
theorem dX6_writeBy_45 : decode cX6_writeBy 45 = .ok (.ireturn, 1) := by decide +kernel
theorem dX6_writeBy_46 : decode cX6_writeBy 46 = .ok (.aload_n 0, 1) := by decide +kernel
theorem dX6_writeBy_47 : decode cX6_writeBy 47 = .ok (.getfield 28, 3) := by decide +kernel
theorem dX6_writeBy_50 : decode cX6_writeBy 50 = .ok (.iload_n 1, 1) := by decide +kernel
theorem dX6_writeBy_51 : decode cX6_writeBy 51 = .ok (.iaload, 1) := by decide +kernel
theorem dX6_writeBy_52 : decode cX6_writeBy 52 = .ok (.ireturn, 1) := by decide +kernel
theorem dX6_writeBy_53 : decode cX6_writeBy 53 = .ok (.aload_n 0, 1) := by decide +kernel
theorem dX6_writeBy_54 : decode cX6_writeBy 54 = .ok (.getfield 31, 3) := by decide +kernel
theorem dX6_writeBy_57 : decode cX6_writeBy 57 = .ok (.iload_n 1, 1) := by decide +kernel
theorem dX6_writeBy_58 : decode cX6_writeBy 58 = .ok (.iaload, 1) := by decide +kernel
theorem dX6_writeBy_59 : decode cX6_writeBy 59 = .ok (.ireturn, 1) := by decide +kernel
theorem dX6_writeBy_60 : decode cX6_writeBy 60 = .ok (.aload_n 0, 1) := by decide +kernel
theorem dX6_writeBy_61 : decode cX6_writeBy 61 = .ok (.iload_n 1, 1) := by decide +kernel
theorem dX6_writeBy_62 : decode cX6_writeBy 62 = .ok (.invokevirtual 135, 3) := by decide +kernel
theorem dX6_writeBy_65 : decode cX6_writeBy 65 = .ok (.ireturn, 1) := by decide +kernel
theorem dX6_write_0 : decode cX6_write 0 = .ok (.aload_n 0, 1) := by decide +kernel
theorem dX6_write_1 : decode cX6_write 1 = .ok (.iload_n 1, 1) := by decide +kernel
theorem dX6_write_2 : decode cX6_write 2 = .ok (.invokevirtual 106, 3) := by decide +kernel
theorem dX6_write_5 : decode cX6_write 5 = .ok (.ifCond .eq 24, 3) := by decide +kernel
theorem dX6_write_8 : decode cX6_write 8 = .ok (.iload_n 2, 1) := by decide +kernel
theorem dX6_write_9 : decode cX6_write 9 = .ok (.i2l, 1) := by decide +kernel
theorem dX6_write_10 : decode cX6_write 10 = .ok (.lconst 0, 1) := by decide +kernel
theorem dX6_write_11 : decode cX6_write 11 = .ok (.ldc2_w 138, 3) := by decide +kernel
theorem dX6_write_14 : decode cX6_write 14 = .ok (.invokestatic 51, 3) := by decide +kernel
theorem dX6_write_17 : decode cX6_write 17 = .ok (.ifCond .eq 12, 3) := by decide +kernel
theorem dX6_write_20 : decode cX6_write 20 = .ok (.aload_n 0, 1) := by decide +kernel
theorem dX6_write_21 : decode cX6_write 21 = .ok (.iload_n 1, 1) := by decide +kernel
theorem dX6_write_22 : decode cX6_write 22 = .ok (.iload_n 2, 1) := by decide +kernel
theorem dX6_write_23 : decode cX6_write 23 = .ok (.invokevirtual 140, 3) := by decide +kernel
theorem dX6_write_26 : decode cX6_write 26 = .ok (.goto 5, 3) := by decide +kernel
theorem dX6_write_29 : decode cX6_write 29 = .ok (.bipush (-2), 2) := by decide +kernel
theorem dX6_write_31 : decode cX6_write 31 = .ok (.ireturn, 1) := by decide +kernel
theorem dX6_isRevision_0 : decode cX6_isRevision 0 = .ok (.iload_n 1, 1) := by decide +kernel
theorem dX6_isRevision_1 : decode cX6_isRevision 1 = .ok (.i2l, 1) := by decide +kernel
theorem dX6_isRevision_2 : decode cX6_isRevision 2 = .ok (.lconst 0, 1) := by decide +kernel
theorem dX6_isRevision_3 : decode cX6_isRevision 3 = .ok (.aload_n 0, 1) := by decide +kernel
theorem dX6_isRevision_4 : decode cX6_isRevision 4 = .ok (.getfield 92, 3) := by decide +kernel
theorem dX6_isRevision_7 : decode cX6_isRevision 7 = .ok (.i2l, 1) := by decide +kernel
theorem dX6_isRevision_8 : decode cX6_isRevision 8 = .ok (.invokestatic 51, 3) := by decide +kernel
theorem dX6_isRevision_11 : decode cX6_isRevision 11 = .ok (.ireturn, 1) := by decide +kernel
theorem dX6_revisionBy_0 : decode cX6_revisionBy 0 = .ok (.iload_n 2, 1) := by decide +kernel
theorem dX6_revisionBy_1 : decode cX6_revisionBy 1 = .ok (.ifCond .ne 11, 3) := by decide +kernel
theorem dX6_revisionBy_4 : decode cX6_revisionBy 4 = .ok (.aload_n 0, 1) := by decide +kernel
theorem dX6_revisionBy_5 : decode cX6_revisionBy 5 = .ok (.iload_n 1, 1) := by decide +kernel
theorem dX6_revisionBy_6 : decode cX6_revisionBy 6 = .ok (.invokevirtual 119, 3) := by decide +kernel
theorem dX6_revisionBy_9 : decode cX6_revisionBy 9 = .ok (.goto 34, 3) := by decide +kernel
theorem dX6_revisionBy_12 : decode cX6_revisionBy 12 = .ok (.iload_n 2, 1) := by decide +kernel
theorem dX6_revisionBy_13 : decode cX6_revisionBy 13 = .ok (.iconst 1, 1) := by decide +kernel
theorem dX6_revisionBy_14 : decode cX6_revisionBy 14 = .ok (.if_icmp .ne 11, 3) := by decide +kernel
theorem dX6_revisionBy_17 : decode cX6_revisionBy 17 = .ok (.aload_n 0, 1) := by decide +kernel
theorem dX6_revisionBy_18 : decode cX6_revisionBy 18 = .ok (.iload_n 1, 1) := by decide +kernel
theorem dX6_revisionBy_19 : decode cX6_revisionBy 19 = .ok (.invokevirtual 95, 3) := by decide +kernel
theorem dX6_revisionBy_22 : decode cX6_revisionBy 22 = .ok (.goto 21, 3) := by decide +kernel
theorem dX6_revisionBy_25 : decode cX6_revisionBy 25 = .ok (.iload_n 2, 1) := by decide +kernel
theorem dX6_revisionBy_26 : decode cX6_revisionBy 26 = .ok (.iconst 2, 1) := by decide +kernel
theorem dX6_revisionBy_27 : decode cX6_revisionBy 27 = .ok (.if_icmp .ne 11, 3) := by decide +kernel
theorem dX6_revisionBy_30 : decode cX6_revisionBy 30 = .ok (.aload_n 0, 1) := by decide +kernel
theorem dX6_revisionBy_31 : decode cX6_revisionBy 31 = .ok (.iload_n 1, 1) := by decide +kernel
theorem dX6_revisionBy_32 : decode cX6_revisionBy 32 = .ok (.invokevirtual 122, 3) := by decide +kernel
theorem dX6_revisionBy_35 : decode cX6_revisionBy 35 = .ok (.goto 8, 3) := by decide +kernel
theorem dX6_revisionBy_38 : decode cX6_revisionBy 38 = .ok (.aload_n 0, 1) := by decide +kernel
theorem dX6_revisionBy_39 : decode cX6_revisionBy 39 = .ok (.iload_n 1, 1) := by decide +kernel
theorem dX6_revisionBy_40 : decode cX6_revisionBy 40 = .ok (.invokevirtual 143, 3) := by decide +kernel
theorem dX6_revisionBy_43 : decode cX6_revisionBy 43 = .ok (.ireturn, 1) := by decide +kernel
theorem dX6_revision_0 : decode cX6_revision 0 = .ok (.aload_n 0, 1) := by decide +kernel
theorem dX6_revision_1 : decode cX6_revision 1 = .ok (.iload_n 1, 1) := by decide +kernel
theorem dX6_revision_2 : decode cX6_revision 2 = .ok (.invokevirtual 146, 3) := by decide +kernel
theorem dX6_revision_5 : decode cX6_revision 5 = .ok (.ifCond .eq 24, 3) := by decide +kernel
theorem dX6_revision_8 : decode cX6_revision 8 = .ok (.iload_n 2, 1) := by decide +kernel
theorem dX6_revision_9 : decode cX6_revision 9 = .ok (.i2l, 1) := by decide +kernel
theorem dX6_revision_10 : decode cX6_revision 10 = .ok (.lconst 0, 1) := by decide +kernel
theorem dX6_revision_11 : decode cX6_revision 11 = .ok (.ldc2_w 58, 3) := by decide +kernel
theorem dX6_revision_14 : decode cX6_revision 14 = .ok (.invokestatic 51, 3) := by decide +kernel
theorem dX6_revision_17 : decode cX6_revision 17 = .ok (.ifCond .eq 12, 3) := by decide +kernel
theorem dX6_revision_20 : decode cX6_revision 20 = .ok (.aload_n 0, 1) := by decide +kernel
theorem dX6_revision_21 : decode cX6_revision 21 = .ok (.iload_n 1, 1) := by decide +kernel
theorem dX6_revision_22 : decode cX6_revision 22 = .ok (.iload_n 2, 1) := by decide +kernel
theorem dX6_revision_23 : decode cX6_revision 23 = .ok (.invokevirtual 149, 3) := by decide +kernel
theorem dX6_revision_26 : decode cX6_revision 26 = .ok (.goto 5, 3) := by decide +kernel
theorem dX6_revision_29 : decode cX6_revision 29 = .ok (.bipush (-2), 2) := by decide +kernel
theorem dX6_revision_31 : decode cX6_revision 31 = .ok (.ireturn, 1) := by decide +kernel
theorem dX6_lastOf_0 : decode cX6_lastOf 0 = .ok (.iconst (-1), 1) := by decide +kernel
theorem dX6_lastOf_1 : decode cX6_lastOf 1 = .ok (.istore_n 3, 1) := by decide +kernel
theorem dX6_lastOf_2 : decode cX6_lastOf 2 = .ok (.iconst 0, 1) := by decide +kernel
theorem dX6_lastOf_3 : decode cX6_lastOf 3 = .ok (.istore 4, 2) := by decide +kernel
theorem dX6_lastOf_5 : decode cX6_lastOf 5 = .ok (.iload 4, 2) := by decide +kernel
theorem dX6_lastOf_7 : decode cX6_lastOf 7 = .ok (.aload_n 0, 1) := by decide +kernel
theorem dX6_lastOf_8 : decode cX6_lastOf 8 = .ok (.getfield 89, 3) := by decide +kernel
theorem dX6_lastOf_11 : decode cX6_lastOf 11 = .ok (.if_icmp .ge 47, 3) := by decide +kernel
theorem dX6_lastOf_14 : decode cX6_lastOf 14 = .ok (.aload_n 0, 1) := by decide +kernel
theorem dX6_lastOf_15 : decode cX6_lastOf 15 = .ok (.getfield 22, 3) := by decide +kernel
theorem dX6_lastOf_18 : decode cX6_lastOf 18 = .ok (.iload 4, 2) := by decide +kernel
theorem dX6_lastOf_20 : decode cX6_lastOf 20 = .ok (.iaload, 1) := by decide +kernel
theorem dX6_lastOf_21 : decode cX6_lastOf 21 = .ok (.iload_n 1, 1) := by decide +kernel
theorem dX6_lastOf_22 : decode cX6_lastOf 22 = .ok (.if_icmp .ne 28, 3) := by decide +kernel
theorem dX6_lastOf_25 : decode cX6_lastOf 25 = .ok (.aload_n 0, 1) := by decide +kernel
theorem dX6_lastOf_26 : decode cX6_lastOf 26 = .ok (.getfield 31, 3) := by decide +kernel
theorem dX6_lastOf_29 : decode cX6_lastOf 29 = .ok (.iload 4, 2) := by decide +kernel
theorem dX6_lastOf_31 : decode cX6_lastOf 31 = .ok (.iaload, 1) := by decide +kernel
theorem dX6_lastOf_32 : decode cX6_lastOf 32 = .ok (.iload_n 2, 1) := by decide +kernel
theorem dX6_lastOf_33 : decode cX6_lastOf 33 = .ok (.if_icmp .gt 17, 3) := by decide +kernel
theorem dX6_lastOf_36 : decode cX6_lastOf 36 = .ok (.iload 4, 2) := by decide +kernel
theorem dX6_lastOf_38 : decode cX6_lastOf 38 = .ok (.aload_n 0, 1) := by decide +kernel
theorem dX6_lastOf_39 : decode cX6_lastOf 39 = .ok (.getfield 44, 3) := by decide +kernel
theorem dX6_lastOf_42 : decode cX6_lastOf 42 = .ok (.if_icmp .eq 8, 3) := by decide +kernel
theorem dX6_lastOf_45 : decode cX6_lastOf 45 = .ok (.iload 4, 2) := by decide +kernel
theorem dX6_lastOf_47 : decode cX6_lastOf 47 = .ok (.goto 4, 3) := by decide +kernel
theorem dX6_lastOf_50 : decode cX6_lastOf 50 = .ok (.iload_n 3, 1) := by decide +kernel
theorem dX6_lastOf_51 : decode cX6_lastOf 51 = .ok (.istore_n 3, 1) := by decide +kernel
theorem dX6_lastOf_52 : decode cX6_lastOf 52 = .ok (.iinc 4 1, 3) := by decide +kernel
theorem dX6_lastOf_55 : decode cX6_lastOf 55 = .ok (.goto (-50), 3) := by decide +kernel
theorem dX6_lastOf_58 : decode cX6_lastOf 58 = .ok (.iload_n 3, 1) := by decide +kernel
theorem dX6_lastOf_59 : decode cX6_lastOf 59 = .ok (.iconst (-1), 1) := by decide +kernel
theorem dX6_lastOf_60 : decode cX6_lastOf 60 = .ok (.if_icmp .eq 13, 3) := by decide +kernel
theorem dX6_lastOf_63 : decode cX6_lastOf 63 = .ok (.aload_n 0, 1) := by decide +kernel
theorem dX6_lastOf_64 : decode cX6_lastOf 64 = .ok (.getfield 25, 3) := by decide +kernel
theorem dX6_lastOf_67 : decode cX6_lastOf 67 = .ok (.iload_n 3, 1) := by decide +kernel
theorem dX6_lastOf_68 : decode cX6_lastOf 68 = .ok (.iaload, 1) := by decide +kernel
theorem dX6_lastOf_69 : decode cX6_lastOf 69 = .ok (.iconst 5, 1) := by decide +kernel
theorem dX6_lastOf_70 : decode cX6_lastOf 70 = .ok (.if_icmp .ne 7, 3) := by decide +kernel
theorem dX6_lastOf_73 : decode cX6_lastOf 73 = .ok (.iconst (-1), 1) := by decide +kernel
theorem dX6_lastOf_74 : decode cX6_lastOf 74 = .ok (.goto 4, 3) := by decide +kernel
theorem dX6_lastOf_77 : decode cX6_lastOf 77 = .ok (.iload_n 3, 1) := by decide +kernel
theorem dX6_lastOf_78 : decode cX6_lastOf 78 = .ok (.ireturn, 1) := by decide +kernel
theorem dX6_thingBy_0 : decode cX6_thingBy 0 = .ok (.aload_n 0, 1) := by decide +kernel
theorem dX6_thingBy_1 : decode cX6_thingBy 1 = .ok (.iload_n 1, 1) := by decide +kernel
theorem dX6_thingBy_2 : decode cX6_thingBy 2 = .ok (.iload_n 2, 1) := by decide +kernel
theorem dX6_thingBy_3 : decode cX6_thingBy 3 = .ok (.invokevirtual 152, 3) := by decide +kernel
theorem dX6_thingBy_6 : decode cX6_thingBy 6 = .ok (.istore 4, 2) := by decide +kernel
theorem dX6_thingBy_8 : decode cX6_thingBy 8 = .ok (.iload 4, 2) := by decide +kernel
theorem dX6_thingBy_10 : decode cX6_thingBy 10 = .ok (.iconst (-1), 1) := by decide +kernel
theorem dX6_thingBy_11 : decode cX6_thingBy 11 = .ok (.if_icmp .ne 7, 3) := by decide +kernel
theorem dX6_thingBy_14 : decode cX6_thingBy 14 = .ok (.iconst (-1), 1) := by decide +kernel
theorem dX6_thingBy_15 : decode cX6_thingBy 15 = .ok (.goto 34, 3) := by decide +kernel
theorem dX6_thingBy_18 : decode cX6_thingBy 18 = .ok (.iload_n 3, 1) := by decide +kernel
theorem dX6_thingBy_19 : decode cX6_thingBy 19 = .ok (.ifCond .ne 13, 3) := by decide +kernel
theorem dX6_thingBy_22 : decode cX6_thingBy 22 = .ok (.aload_n 0, 1) := by decide +kernel
theorem dX6_thingBy_23 : decode cX6_thingBy 23 = .ok (.getfield 25, 3) := by decide +kernel
theorem dX6_thingBy_26 : decode cX6_thingBy 26 = .ok (.iload 4, 2) := by decide +kernel
theorem dX6_thingBy_28 : decode cX6_thingBy 28 = .ok (.iaload, 1) := by decide +kernel
theorem dX6_thingBy_29 : decode cX6_thingBy 29 = .ok (.goto 20, 3) := by decide +kernel
theorem dX6_thingBy_32 : decode cX6_thingBy 32 = .ok (.iload_n 3, 1) := by decide +kernel
theorem dX6_thingBy_33 : decode cX6_thingBy 33 = .ok (.iconst 1, 1) := by decide +kernel
theorem dX6_thingBy_34 : decode cX6_thingBy 34 = .ok (.if_icmp .ne 13, 3) := by decide +kernel
theorem dX6_thingBy_37 : decode cX6_thingBy 37 = .ok (.aload_n 0, 1) := by decide +kernel
theorem dX6_thingBy_38 : decode cX6_thingBy 38 = .ok (.getfield 28, 3) := by decide +kernel
theorem dX6_thingBy_41 : decode cX6_thingBy 41 = .ok (.iload 4, 2) := by decide +kernel
theorem dX6_thingBy_43 : decode cX6_thingBy 43 = .ok (.iaload, 1) := by decide +kernel
theorem dX6_thingBy_44 : decode cX6_thingBy 44 = .ok (.goto 5, 3) := by decide +kernel
theorem dX6_thingBy_47 : decode cX6_thingBy 47 = .ok (.iload 4, 2) := by decide +kernel
theorem dX6_thingBy_49 : decode cX6_thingBy 49 = .ok (.ireturn, 1) := by decide +kernel
theorem dX6_isThing_0 : decode cX6_isThing 0 = .ok (.iload_n 0, 1) := by decide +kernel
theorem dX6_isThing_1 : decode cX6_isThing 1 = .ok (.i2l, 1) := by decide +kernel
theorem dX6_isThing_2 : decode cX6_isThing 2 = .ok (.lconst 0, 1) := by decide +kernel
theorem dX6_isThing_3 : decode cX6_isThing 3 = .ok (.ldc2_w 81, 3) := by decide +kernel
theorem dX6_isThing_6 : decode cX6_isThing 6 = .ok (.invokestatic 51, 3) := by decide +kernel
theorem dX6_isThing_9 : decode cX6_isThing 9 = .ok (.ireturn, 1) := by decide +kernel
theorem dX6_thing_0 : decode cX6_thing 0 = .ok (.iload_n 1, 1) := by decide +kernel
theorem dX6_thing_1 : decode cX6_thing 1 = .ok (.invokestatic 155, 3) := by decide +kernel
theorem dX6_thing_4 : decode cX6_thing 4 = .ok (.ifCond .eq 33, 3) := by decide +kernel
theorem dX6_thing_7 : decode cX6_thing 7 = .ok (.aload_n 0, 1) := by decide +kernel
theorem dX6_thing_8 : decode cX6_thing 8 = .ok (.iload_n 2, 1) := by decide +kernel
theorem dX6_thing_9 : decode cX6_thing 9 = .ok (.invokevirtual 146, 3) := by decide +kernel
theorem dX6_thing_12 : decode cX6_thing 12 = .ok (.ifCond .eq 25, 3) := by decide +kernel
theorem dX6_thing_15 : decode cX6_thing 15 = .ok (.iload_n 3, 1) := by decide +kernel
theorem dX6_thing_16 : decode cX6_thing 16 = .ok (.i2l, 1) := by decide +kernel
theorem dX6_thing_17 : decode cX6_thing 17 = .ok (.lconst 0, 1) := by decide +kernel
theorem dX6_thing_18 : decode cX6_thing 18 = .ok (.ldc2_w 64, 3) := by decide +kernel
theorem dX6_thing_21 : decode cX6_thing 21 = .ok (.invokestatic 51, 3) := by decide +kernel
theorem dX6_thing_24 : decode cX6_thing 24 = .ok (.ifCond .eq 13, 3) := by decide +kernel
theorem dX6_thing_27 : decode cX6_thing 27 = .ok (.aload_n 0, 1) := by decide +kernel
theorem dX6_thing_28 : decode cX6_thing 28 = .ok (.iload_n 1, 1) := by decide +kernel
theorem dX6_thing_29 : decode cX6_thing 29 = .ok (.iload_n 2, 1) := by decide +kernel
theorem dX6_thing_30 : decode cX6_thing 30 = .ok (.iload_n 3, 1) := by decide +kernel
theorem dX6_thing_31 : decode cX6_thing 31 = .ok (.invokevirtual 158, 3) := by decide +kernel
theorem dX6_thing_34 : decode cX6_thing 34 = .ok (.goto 5, 3) := by decide +kernel
theorem dX6_thing_37 : decode cX6_thing 37 = .ok (.bipush (-2), 2) := by decide +kernel
theorem dX6_thing_39 : decode cX6_thing 39 = .ok (.ireturn, 1) := by decide +kernel
theorem dX6_isShadowed_0 : decode cX6_isShadowed 0 = .ok (.iconst (-1), 1) := by decide +kernel
theorem dX6_isShadowed_1 : decode cX6_isShadowed 1 = .ok (.istore_n 3, 1) := by decide +kernel
theorem dX6_isShadowed_2 : decode cX6_isShadowed 2 = .ok (.iconst 0, 1) := by decide +kernel
theorem dX6_isShadowed_3 : decode cX6_isShadowed 3 = .ok (.istore 4, 2) := by decide +kernel
theorem dX6_isShadowed_5 : decode cX6_isShadowed 5 = .ok (.iconst 0, 1) := by decide +kernel
theorem dX6_isShadowed_6 : decode cX6_isShadowed 6 = .ok (.istore 5, 2) := by decide +kernel
theorem dX6_isShadowed_8 : decode cX6_isShadowed 8 = .ok (.iload 5, 2) := by decide +kernel
theorem dX6_isShadowed_10 : decode cX6_isShadowed 10 = .ok (.aload_n 0, 1) := by decide +kernel
theorem dX6_isShadowed_11 : decode cX6_isShadowed 11 = .ok (.getfield 89, 3) := by decide +kernel
theorem dX6_isShadowed_14 : decode cX6_isShadowed 14 = .ok (.if_icmp .ge 92, 3) := by decide +kernel
theorem dX6_isShadowed_17 : decode cX6_isShadowed 17 = .ok (.aload_n 0, 1) := by decide +kernel
theorem dX6_isShadowed_18 : decode cX6_isShadowed 18 = .ok (.getfield 22, 3) := by decide +kernel
theorem dX6_isShadowed_21 : decode cX6_isShadowed 21 = .ok (.iload 5, 2) := by decide +kernel
theorem dX6_isShadowed_23 : decode cX6_isShadowed 23 = .ok (.iaload, 1) := by decide +kernel
theorem dX6_isShadowed_24 : decode cX6_isShadowed 24 = .ok (.iload_n 1, 1) := by decide +kernel
theorem dX6_isShadowed_25 : decode cX6_isShadowed 25 = .ok (.if_icmp .ne 75, 3) := by decide +kernel
theorem dX6_isShadowed_28 : decode cX6_isShadowed 28 = .ok (.aload_n 0, 1) := by decide +kernel
theorem dX6_isShadowed_29 : decode cX6_isShadowed 29 = .ok (.getfield 31, 3) := by decide +kernel
theorem dX6_isShadowed_32 : decode cX6_isShadowed 32 = .ok (.iload 5, 2) := by decide +kernel
theorem dX6_isShadowed_34 : decode cX6_isShadowed 34 = .ok (.iaload, 1) := by decide +kernel
theorem dX6_isShadowed_35 : decode cX6_isShadowed 35 = .ok (.iload_n 2, 1) := by decide +kernel
theorem dX6_isShadowed_36 : decode cX6_isShadowed 36 = .ok (.if_icmp .ne 64, 3) := by decide +kernel
theorem dX6_isShadowed_39 : decode cX6_isShadowed 39 = .ok (.iload 5, 2) := by decide +kernel
theorem dX6_isShadowed_41 : decode cX6_isShadowed 41 = .ok (.aload_n 0, 1) := by decide +kernel
theorem dX6_isShadowed_42 : decode cX6_isShadowed 42 = .ok (.getfield 44, 3) := by decide +kernel
theorem dX6_isShadowed_45 : decode cX6_isShadowed 45 = .ok (.if_icmp .eq 55, 3) := by decide +kernel
theorem dX6_isShadowed_48 : decode cX6_isShadowed 48 = .ok (.iload 4, 2) := by decide +kernel
theorem dX6_isShadowed_50 : decode cX6_isShadowed 50 = .ok (.ifCond .ne 40, 3) := by decide +kernel
theorem dX6_isShadowed_53 : decode cX6_isShadowed 53 = .ok (.iload_n 3, 1) := by decide +kernel
theorem dX6_isShadowed_54 : decode cX6_isShadowed 54 = .ok (.iconst (-1), 1) := by decide +kernel
theorem dX6_isShadowed_55 : decode cX6_isShadowed 55 = .ok (.if_icmp .eq 39, 3) := by decide +kernel
theorem dX6_isShadowed_58 : decode cX6_isShadowed 58 = .ok (.aload_n 0, 1) := by decide +kernel
theorem dX6_isShadowed_59 : decode cX6_isShadowed 59 = .ok (.getfield 25, 3) := by decide +kernel
theorem dX6_isShadowed_62 : decode cX6_isShadowed 62 = .ok (.iload_n 3, 1) := by decide +kernel
theorem dX6_isShadowed_63 : decode cX6_isShadowed 63 = .ok (.iaload, 1) := by decide +kernel
theorem dX6_isShadowed_64 : decode cX6_isShadowed 64 = .ok (.aload_n 0, 1) := by decide +kernel
theorem dX6_isShadowed_65 : decode cX6_isShadowed 65 = .ok (.getfield 25, 3) := by decide +kernel
theorem dX6_isShadowed_68 : decode cX6_isShadowed 68 = .ok (.iload 5, 2) := by decide +kernel
theorem dX6_isShadowed_70 : decode cX6_isShadowed 70 = .ok (.iaload, 1) := by decide +kernel
theorem dX6_isShadowed_71 : decode cX6_isShadowed 71 = .ok (.if_icmp .ne 19, 3) := by decide +kernel
theorem dX6_isShadowed_74 : decode cX6_isShadowed 74 = .ok (.aload_n 0, 1) := by decide +kernel
theorem dX6_isShadowed_75 : decode cX6_isShadowed 75 = .ok (.getfield 28, 3) := by decide +kernel
theorem dX6_isShadowed_78 : decode cX6_isShadowed 78 = .ok (.iload_n 3, 1) := by decide +kernel
theorem dX6_isShadowed_79 : decode cX6_isShadowed 79 = .ok (.iaload, 1) := by decide +kernel
theorem dX6_isShadowed_80 : decode cX6_isShadowed 80 = .ok (.aload_n 0, 1) := by decide +kernel
theorem dX6_isShadowed_81 : decode cX6_isShadowed 81 = .ok (.getfield 28, 3) := by decide +kernel
theorem dX6_isShadowed_84 : decode cX6_isShadowed 84 = .ok (.iload 5, 2) := by decide +kernel
theorem dX6_isShadowed_86 : decode cX6_isShadowed 86 = .ok (.iaload, 1) := by decide +kernel
theorem dX6_isShadowed_87 : decode cX6_isShadowed 87 = .ok (.if_icmp .eq 7, 3) := by decide +kernel
theorem dX6_isShadowed_90 : decode cX6_isShadowed 90 = .ok (.iconst 1, 1) := by decide +kernel
theorem dX6_isShadowed_91 : decode cX6_isShadowed 91 = .ok (.goto 4, 3) := by decide +kernel
theorem dX6_isShadowed_94 : decode cX6_isShadowed 94 = .ok (.iconst 0, 1) := by decide +kernel
theorem dX6_isShadowed_95 : decode cX6_isShadowed 95 = .ok (.istore 4, 2) := by decide +kernel
theorem dX6_isShadowed_97 : decode cX6_isShadowed 97 = .ok (.iload 5, 2) := by decide +kernel
theorem dX6_isShadowed_99 : decode cX6_isShadowed 99 = .ok (.istore_n 3, 1) := by decide +kernel
theorem dX6_isShadowed_100 : decode cX6_isShadowed 100 = .ok (.iinc 5 1, 3) := by decide +kernel
theorem dX6_isShadowed_103 : decode cX6_isShadowed 103 = .ok (.goto (-95), 3) := by decide +kernel
theorem dX6_isShadowed_106 : decode cX6_isShadowed 106 = .ok (.iload 4, 2) := by decide +kernel
theorem dX6_isShadowed_108 : decode cX6_isShadowed 108 = .ok (.ireturn, 1) := by decide +kernel
theorem dX6_shadowsIn_0 : decode cX6_shadowsIn 0 = .ok (.iconst 0, 1) := by decide +kernel
theorem dX6_shadowsIn_1 : decode cX6_shadowsIn 1 = .ok (.istore_n 2, 1) := by decide +kernel
theorem dX6_shadowsIn_2 : decode cX6_shadowsIn 2 = .ok (.iconst 0, 1) := by decide +kernel
theorem dX6_shadowsIn_3 : decode cX6_shadowsIn 3 = .ok (.istore_n 3, 1) := by decide +kernel
theorem dX6_shadowsIn_4 : decode cX6_shadowsIn 4 = .ok (.iload_n 3, 1) := by decide +kernel
theorem dX6_shadowsIn_5 : decode cX6_shadowsIn 5 = .ok (.bipush 16, 2) := by decide +kernel
theorem dX6_shadowsIn_7 : decode cX6_shadowsIn 7 = .ok (.if_icmp .ge 28, 3) := by decide +kernel
theorem dX6_shadowsIn_10 : decode cX6_shadowsIn 10 = .ok (.iload_n 2, 1) := by decide +kernel
theorem dX6_shadowsIn_11 : decode cX6_shadowsIn 11 = .ok (.aload_n 0, 1) := by decide +kernel
theorem dX6_shadowsIn_12 : decode cX6_shadowsIn 12 = .ok (.iload_n 3, 1) := by decide +kernel
theorem dX6_shadowsIn_13 : decode cX6_shadowsIn 13 = .ok (.iload_n 1, 1) := by decide +kernel
theorem dX6_shadowsIn_14 : decode cX6_shadowsIn 14 = .ok (.invokevirtual 161, 3) := by decide +kernel
theorem dX6_shadowsIn_17 : decode cX6_shadowsIn 17 = .ok (.ifCond .eq 9, 3) := by decide +kernel
theorem dX6_shadowsIn_20 : decode cX6_shadowsIn 20 = .ok (.iconst 1, 1) := by decide +kernel
theorem dX6_shadowsIn_21 : decode cX6_shadowsIn 21 = .ok (.iload_n 3, 1) := by decide +kernel
theorem dX6_shadowsIn_22 : decode cX6_shadowsIn 22 = .ok (.ishl, 1) := by decide +kernel
theorem dX6_shadowsIn_23 : decode cX6_shadowsIn 23 = .ok (.goto 4, 3) := by decide +kernel
theorem dX6_shadowsIn_26 : decode cX6_shadowsIn 26 = .ok (.iconst 0, 1) := by decide +kernel
theorem dX6_shadowsIn_27 : decode cX6_shadowsIn 27 = .ok (.ior, 1) := by decide +kernel
theorem dX6_shadowsIn_28 : decode cX6_shadowsIn 28 = .ok (.istore_n 2, 1) := by decide +kernel
theorem dX6_shadowsIn_29 : decode cX6_shadowsIn 29 = .ok (.iinc 3 1, 3) := by decide +kernel
theorem dX6_shadowsIn_32 : decode cX6_shadowsIn 32 = .ok (.goto (-28), 3) := by decide +kernel
theorem dX6_shadowsIn_35 : decode cX6_shadowsIn 35 = .ok (.iload_n 2, 1) := by decide +kernel
theorem dX6_shadowsIn_36 : decode cX6_shadowsIn 36 = .ok (.ireturn, 1) := by decide +kernel
theorem dX6_shadows_0 : decode cX6_shadows 0 = .ok (.aload_n 0, 1) := by decide +kernel
theorem dX6_shadows_1 : decode cX6_shadows 1 = .ok (.iload_n 1, 1) := by decide +kernel
theorem dX6_shadows_2 : decode cX6_shadows 2 = .ok (.invokevirtual 146, 3) := by decide +kernel
theorem dX6_shadows_5 : decode cX6_shadows 5 = .ok (.ifCond .eq 11, 3) := by decide +kernel
theorem dX6_shadows_8 : decode cX6_shadows 8 = .ok (.aload_n 0, 1) := by decide +kernel
theorem dX6_shadows_9 : decode cX6_shadows 9 = .ok (.iload_n 1, 1) := by decide +kernel
theorem dX6_shadows_10 : decode cX6_shadows 10 = .ok (.invokevirtual 164, 3) := by decide +kernel
theorem dX6_shadows_13 : decode cX6_shadows 13 = .ok (.goto 5, 3) := by decide +kernel
theorem dX6_shadows_16 : decode cX6_shadows 16 = .ok (.bipush (-2), 2) := by decide +kernel
theorem dX6_shadows_18 : decode cX6_shadows 18 = .ok (.ireturn, 1) := by decide +kernel
theorem dX6_usual_0 : decode cX6_usual 0 = .ok (.iload_n 2, 1) := by decide +kernel
theorem dX6_usual_1 : decode cX6_usual 1 = .ok (.ifCond .ne 7, 3) := by decide +kernel
theorem dX6_usual_4 : decode cX6_usual 4 = .ok (.iconst 0, 1) := by decide +kernel
theorem dX6_usual_5 : decode cX6_usual 5 = .ok (.goto 41, 3) := by decide +kernel
theorem dX6_usual_8 : decode cX6_usual 8 = .ok (.iload_n 2, 1) := by decide +kernel
theorem dX6_usual_9 : decode cX6_usual 9 = .ok (.iconst 1, 1) := by decide +kernel
theorem dX6_usual_10 : decode cX6_usual 10 = .ok (.if_icmp .ne 11, 3) := by decide +kernel
theorem dX6_usual_13 : decode cX6_usual 13 = .ok (.aload_n 0, 1) := by decide +kernel
theorem dX6_usual_14 : decode cX6_usual 14 = .ok (.iload_n 1, 1) := by decide +kernel
theorem dX6_usual_15 : decode cX6_usual 15 = .ok (.invokevirtual 135, 3) := by decide +kernel
theorem dX6_usual_18 : decode cX6_usual 18 = .ok (.goto 28, 3) := by decide +kernel
theorem dX6_usual_21 : decode cX6_usual 21 = .ok (.iload_n 2, 1) := by decide +kernel
theorem dX6_usual_22 : decode cX6_usual 22 = .ok (.iconst 2, 1) := by decide +kernel
theorem dX6_usual_23 : decode cX6_usual 23 = .ok (.if_icmp .ne 13, 3) := by decide +kernel
theorem dX6_usual_26 : decode cX6_usual 26 = .ok (.aload_n 0, 1) := by decide +kernel
theorem dX6_usual_27 : decode cX6_usual 27 = .ok (.iload_n 1, 1) := by decide +kernel
theorem dX6_usual_28 : decode cX6_usual 28 = .ok (.invokevirtual 135, 3) := by decide +kernel
theorem dX6_usual_31 : decode cX6_usual 31 = .ok (.iconst 5, 1) := by decide +kernel
theorem dX6_usual_32 : decode cX6_usual 32 = .ok (.iadd, 1) := by decide +kernel
theorem dX6_usual_33 : decode cX6_usual 33 = .ok (.goto 13, 3) := by decide +kernel
theorem dX6_usual_36 : decode cX6_usual 36 = .ok (.aload_n 0, 1) := by decide +kernel
theorem dX6_usual_37 : decode cX6_usual 37 = .ok (.aload_n 0, 1) := by decide +kernel
theorem dX6_usual_38 : decode cX6_usual 38 = .ok (.getfield 31, 3) := by decide +kernel
theorem dX6_usual_41 : decode cX6_usual 41 = .ok (.iload_n 1, 1) := by decide +kernel
theorem dX6_usual_42 : decode cX6_usual 42 = .ok (.iaload, 1) := by decide +kernel
theorem dX6_usual_43 : decode cX6_usual 43 = .ok (.invokevirtual 143, 3) := by decide +kernel
theorem dX6_usual_46 : decode cX6_usual 46 = .ok (.ireturn, 1) := by decide +kernel
theorem dX6_coverOf_0 : decode cX6_coverOf 0 = .ok (.aload_n 0, 1) := by decide +kernel
theorem dX6_coverOf_1 : decode cX6_coverOf 1 = .ok (.getfield 34, 3) := by decide +kernel
theorem dX6_coverOf_4 : decode cX6_coverOf 4 = .ok (.iload_n 1, 1) := by decide +kernel
theorem dX6_coverOf_5 : decode cX6_coverOf 5 = .ok (.baload, 1) := by decide +kernel
theorem dX6_coverOf_6 : decode cX6_coverOf 6 = .ok (.ifCond .eq 16, 3) := by decide +kernel
theorem dX6_coverOf_9 : decode cX6_coverOf 9 = .ok (.aload_n 0, 1) := by decide +kernel
theorem dX6_coverOf_10 : decode cX6_coverOf 10 = .ok (.getfield 38, 3) := by decide +kernel
theorem dX6_coverOf_13 : decode cX6_coverOf 13 = .ok (.iconst 4, 1) := by decide +kernel
theorem dX6_coverOf_14 : decode cX6_coverOf 14 = .ok (.iload_n 1, 1) := by decide +kernel
theorem dX6_coverOf_15 : decode cX6_coverOf 15 = .ok (.imul, 1) := by decide +kernel
theorem dX6_coverOf_16 : decode cX6_coverOf 16 = .ok (.iload_n 2, 1) := by decide +kernel
theorem dX6_coverOf_17 : decode cX6_coverOf 17 = .ok (.iadd, 1) := by decide +kernel
theorem dX6_coverOf_18 : decode cX6_coverOf 18 = .ok (.iaload, 1) := by decide +kernel
theorem dX6_coverOf_19 : decode cX6_coverOf 19 = .ok (.goto 9, 3) := by decide +kernel
theorem dX6_coverOf_22 : decode cX6_coverOf 22 = .ok (.aload_n 0, 1) := by decide +kernel
theorem dX6_coverOf_23 : decode cX6_coverOf 23 = .ok (.iload_n 1, 1) := by decide +kernel
theorem dX6_coverOf_24 : decode cX6_coverOf 24 = .ok (.iload_n 2, 1) := by decide +kernel
theorem dX6_coverOf_25 : decode cX6_coverOf 25 = .ok (.invokevirtual 167, 3) := by decide +kernel
theorem dX6_coverOf_28 : decode cX6_coverOf 28 = .ok (.ireturn, 1) := by decide +kernel
theorem dX6_covers_0 : decode cX6_covers 0 = .ok (.aload_n 0, 1) := by decide +kernel
theorem dX6_covers_1 : decode cX6_covers 1 = .ok (.iload_n 1, 1) := by decide +kernel
theorem dX6_covers_2 : decode cX6_covers 2 = .ok (.invokevirtual 106, 3) := by decide +kernel
theorem dX6_covers_5 : decode cX6_covers 5 = .ok (.ifCond .eq 15, 3) := by decide +kernel
theorem dX6_covers_8 : decode cX6_covers 8 = .ok (.iload_n 2, 1) := by decide +kernel
theorem dX6_covers_9 : decode cX6_covers 9 = .ok (.i2l, 1) := by decide +kernel
theorem dX6_covers_10 : decode cX6_covers 10 = .ok (.lconst 0, 1) := by decide +kernel
theorem dX6_covers_11 : decode cX6_covers 11 = .ok (.ldc2_w 58, 3) := by decide +kernel
theorem dX6_covers_14 : decode cX6_covers 14 = .ok (.invokestatic 51, 3) := by decide +kernel
theorem dX6_covers_17 : decode cX6_covers 17 = .ok (.ifCond .ne 6, 3) := by decide +kernel
theorem dX6_covers_20 : decode cX6_covers 20 = .ok (.bipush (-2), 2) := by decide +kernel
theorem dX6_covers_22 : decode cX6_covers 22 = .ok (.ireturn, 1) := by decide +kernel
theorem dX6_covers_23 : decode cX6_covers 23 = .ok (.aload_n 0, 1) := by decide +kernel
theorem dX6_covers_24 : decode cX6_covers 24 = .ok (.iload_n 1, 1) := by decide +kernel
theorem dX6_covers_25 : decode cX6_covers 25 = .ok (.invokevirtual 101, 3) := by decide +kernel
theorem dX6_covers_28 : decode cX6_covers 28 = .ok (.ifCond .eq 12, 3) := by decide +kernel
theorem dX6_covers_31 : decode cX6_covers 31 = .ok (.aload_n 0, 1) := by decide +kernel
theorem dX6_covers_32 : decode cX6_covers 32 = .ok (.iload_n 1, 1) := by decide +kernel
theorem dX6_covers_33 : decode cX6_covers 33 = .ok (.iload_n 2, 1) := by decide +kernel
theorem dX6_covers_34 : decode cX6_covers 34 = .ok (.invokevirtual 170, 3) := by decide +kernel
theorem dX6_covers_37 : decode cX6_covers 37 = .ok (.goto 5, 3) := by decide +kernel
theorem dX6_covers_40 : decode cX6_covers 40 = .ok (.bipush (-3), 2) := by decide +kernel
theorem dX6_covers_42 : decode cX6_covers 42 = .ok (.ireturn, 1) := by decide +kernel
theorem dX6_coveredBy_0 : decode cX6_coveredBy 0 = .ok (.iconst 0, 1) := by decide +kernel
theorem dX6_coveredBy_1 : decode cX6_coveredBy 1 = .ok (.istore_n 2, 1) := by decide +kernel
theorem dX6_coveredBy_2 : decode cX6_coveredBy 2 = .ok (.iconst 0, 1) := by decide +kernel
theorem dX6_coveredBy_3 : decode cX6_coveredBy 3 = .ok (.istore_n 3, 1) := by decide +kernel
theorem dX6_coveredBy_4 : decode cX6_coveredBy 4 = .ok (.iload_n 3, 1) := by decide +kernel
theorem dX6_coveredBy_5 : decode cX6_coveredBy 5 = .ok (.iconst 2, 1) := by decide +kernel
theorem dX6_coveredBy_6 : decode cX6_coveredBy 6 = .ok (.if_icmp .ge 49, 3) := by decide +kernel
theorem dX6_coveredBy_9 : decode cX6_coveredBy 9 = .ok (.aload_n 0, 1) := by decide +kernel
theorem dX6_coveredBy_10 : decode cX6_coveredBy 10 = .ok (.iload_n 1, 1) := by decide +kernel
theorem dX6_coveredBy_11 : decode cX6_coveredBy 11 = .ok (.iconst 2, 1) := by decide +kernel
theorem dX6_coveredBy_12 : decode cX6_coveredBy 12 = .ok (.iload_n 3, 1) := by decide +kernel
theorem dX6_coveredBy_13 : decode cX6_coveredBy 13 = .ok (.imul, 1) := by decide +kernel
theorem dX6_coveredBy_14 : decode cX6_coveredBy 14 = .ok (.invokevirtual 170, 3) := by decide +kernel
theorem dX6_coveredBy_17 : decode cX6_coveredBy 17 = .ok (.aload_n 0, 1) := by decide +kernel
theorem dX6_coveredBy_18 : decode cX6_coveredBy 18 = .ok (.invokevirtual 128, 3) := by decide +kernel
theorem dX6_coveredBy_21 : decode cX6_coveredBy 21 = .ok (.invokestatic 173, 3) := by decide +kernel
theorem dX6_coveredBy_24 : decode cX6_coveredBy 24 = .ok (.istore 4, 2) := by decide +kernel
theorem dX6_coveredBy_26 : decode cX6_coveredBy 26 = .ok (.iload_n 2, 1) := by decide +kernel
theorem dX6_coveredBy_27 : decode cX6_coveredBy 27 = .ok (.aload_n 0, 1) := by decide +kernel
theorem dX6_coveredBy_28 : decode cX6_coveredBy 28 = .ok (.iload_n 1, 1) := by decide +kernel
theorem dX6_coveredBy_29 : decode cX6_coveredBy 29 = .ok (.iconst 2, 1) := by decide +kernel
theorem dX6_coveredBy_30 : decode cX6_coveredBy 30 = .ok (.iload_n 3, 1) := by decide +kernel
theorem dX6_coveredBy_31 : decode cX6_coveredBy 31 = .ok (.imul, 1) := by decide +kernel
theorem dX6_coveredBy_32 : decode cX6_coveredBy 32 = .ok (.iconst 1, 1) := by decide +kernel
theorem dX6_coveredBy_33 : decode cX6_coveredBy 33 = .ok (.iadd, 1) := by decide +kernel
theorem dX6_coveredBy_34 : decode cX6_coveredBy 34 = .ok (.invokevirtual 170, 3) := by decide +kernel
theorem dX6_coveredBy_37 : decode cX6_coveredBy 37 = .ok (.aload_n 0, 1) := by decide +kernel
theorem dX6_coveredBy_38 : decode cX6_coveredBy 38 = .ok (.invokevirtual 128, 3) := by decide +kernel
theorem dX6_coveredBy_41 : decode cX6_coveredBy 41 = .ok (.invokestatic 173, 3) := by decide +kernel
theorem dX6_coveredBy_44 : decode cX6_coveredBy 44 = .ok (.iload 4, 2) := by decide +kernel
theorem dX6_coveredBy_46 : decode cX6_coveredBy 46 = .ok (.isub, 1) := by decide +kernel
theorem dX6_coveredBy_47 : decode cX6_coveredBy 47 = .ok (.iadd, 1) := by decide +kernel
theorem dX6_coveredBy_48 : decode cX6_coveredBy 48 = .ok (.istore_n 2, 1) := by decide +kernel
theorem dX6_coveredBy_49 : decode cX6_coveredBy 49 = .ok (.iinc 3 1, 3) := by decide +kernel
theorem dX6_coveredBy_52 : decode cX6_coveredBy 52 = .ok (.goto (-48), 3) := by decide +kernel
theorem dX6_coveredBy_55 : decode cX6_coveredBy 55 = .ok (.iload_n 2, 1) := by decide +kernel
theorem dX6_coveredBy_56 : decode cX6_coveredBy 56 = .ok (.ireturn, 1) := by decide +kernel
theorem dX6_covered_0 : decode cX6_covered 0 = .ok (.aload_n 0, 1) := by decide +kernel
theorem dX6_covered_1 : decode cX6_covered 1 = .ok (.iload_n 1, 1) := by decide +kernel
theorem dX6_covered_2 : decode cX6_covered 2 = .ok (.invokevirtual 106, 3) := by decide +kernel
theorem dX6_covered_5 : decode cX6_covered 5 = .ok (.ifCond .ne 6, 3) := by decide +kernel
theorem dX6_covered_8 : decode cX6_covered 8 = .ok (.bipush (-2), 2) := by decide +kernel
theorem dX6_covered_10 : decode cX6_covered 10 = .ok (.ireturn, 1) := by decide +kernel
theorem dX6_covered_11 : decode cX6_covered 11 = .ok (.aload_n 0, 1) := by decide +kernel
theorem dX6_covered_12 : decode cX6_covered 12 = .ok (.iload_n 1, 1) := by decide +kernel
theorem dX6_covered_13 : decode cX6_covered 13 = .ok (.invokevirtual 101, 3) := by decide +kernel
theorem dX6_covered_16 : decode cX6_covered 16 = .ok (.ifCond .eq 11, 3) := by decide +kernel
theorem dX6_covered_19 : decode cX6_covered 19 = .ok (.aload_n 0, 1) := by decide +kernel
theorem dX6_covered_20 : decode cX6_covered 20 = .ok (.iload_n 1, 1) := by decide +kernel
theorem dX6_covered_21 : decode cX6_covered 21 = .ok (.invokevirtual 176, 3) := by decide +kernel
theorem dX6_covered_24 : decode cX6_covered 24 = .ok (.goto 5, 3) := by decide +kernel
theorem dX6_covered_27 : decode cX6_covered 27 = .ok (.bipush (-3), 2) := by decide +kernel
theorem dX6_covered_29 : decode cX6_covered 29 = .ok (.ireturn, 1) := by decide +kernel
theorem dX6_numberOf_0 : decode cX6_numberOf 0 = .ok (.bipush 7, 2) := by decide +kernel
theorem dX6_numberOf_2 : decode cX6_numberOf 2 = .ok (.istore_n 2, 1) := by decide +kernel
theorem dX6_numberOf_3 : decode cX6_numberOf 3 = .ok (.iconst 0, 1) := by decide +kernel
theorem dX6_numberOf_4 : decode cX6_numberOf 4 = .ok (.istore_n 3, 1) := by decide +kernel
theorem dX6_numberOf_5 : decode cX6_numberOf 5 = .ok (.iload_n 3, 1) := by decide +kernel
theorem dX6_numberOf_6 : decode cX6_numberOf 6 = .ok (.iconst 2, 1) := by decide +kernel
theorem dX6_numberOf_7 : decode cX6_numberOf 7 = .ok (.if_icmp .ge 63, 3) := by decide +kernel
theorem dX6_numberOf_10 : decode cX6_numberOf 10 = .ok (.aload_n 0, 1) := by decide +kernel
theorem dX6_numberOf_11 : decode cX6_numberOf 11 = .ok (.iload_n 1, 1) := by decide +kernel
theorem dX6_numberOf_12 : decode cX6_numberOf 12 = .ok (.iconst 2, 1) := by decide +kernel
theorem dX6_numberOf_13 : decode cX6_numberOf 13 = .ok (.iload_n 3, 1) := by decide +kernel
theorem dX6_numberOf_14 : decode cX6_numberOf 14 = .ok (.imul, 1) := by decide +kernel
theorem dX6_numberOf_15 : decode cX6_numberOf 15 = .ok (.iconst 1, 1) := by decide +kernel
theorem dX6_numberOf_16 : decode cX6_numberOf 16 = .ok (.iadd, 1) := by decide +kernel
theorem dX6_numberOf_17 : decode cX6_numberOf 17 = .ok (.invokevirtual 170, 3) := by decide +kernel
theorem dX6_numberOf_20 : decode cX6_numberOf 20 = .ok (.aload_n 0, 1) := by decide +kernel
theorem dX6_numberOf_21 : decode cX6_numberOf 21 = .ok (.invokevirtual 128, 3) := by decide +kernel
theorem dX6_numberOf_24 : decode cX6_numberOf 24 = .ok (.invokestatic 173, 3) := by decide +kernel
theorem dX6_numberOf_27 : decode cX6_numberOf 27 = .ok (.istore 4, 2) := by decide +kernel
theorem dX6_numberOf_29 : decode cX6_numberOf 29 = .ok (.aload_n 0, 1) := by decide +kernel
theorem dX6_numberOf_30 : decode cX6_numberOf 30 = .ok (.iload_n 1, 1) := by decide +kernel
theorem dX6_numberOf_31 : decode cX6_numberOf 31 = .ok (.iconst 2, 1) := by decide +kernel
theorem dX6_numberOf_32 : decode cX6_numberOf 32 = .ok (.iload_n 3, 1) := by decide +kernel
theorem dX6_numberOf_33 : decode cX6_numberOf 33 = .ok (.imul, 1) := by decide +kernel
theorem dX6_numberOf_34 : decode cX6_numberOf 34 = .ok (.invokevirtual 170, 3) := by decide +kernel
theorem dX6_numberOf_37 : decode cX6_numberOf 37 = .ok (.istore 5, 2) := by decide +kernel
theorem dX6_numberOf_39 : decode cX6_numberOf 39 = .ok (.iload 5, 2) := by decide +kernel
theorem dX6_numberOf_41 : decode cX6_numberOf 41 = .ok (.iload 4, 2) := by decide +kernel
theorem dX6_numberOf_43 : decode cX6_numberOf 43 = .ok (.if_icmp .ge 21, 3) := by decide +kernel
theorem dX6_numberOf_46 : decode cX6_numberOf 46 = .ok (.bipush 31, 2) := by decide +kernel
theorem dX6_numberOf_48 : decode cX6_numberOf 48 = .ok (.iload_n 2, 1) := by decide +kernel
theorem dX6_numberOf_49 : decode cX6_numberOf 49 = .ok (.imul, 1) := by decide +kernel
theorem dX6_numberOf_50 : decode cX6_numberOf 50 = .ok (.aload_n 0, 1) := by decide +kernel
theorem dX6_numberOf_51 : decode cX6_numberOf 51 = .ok (.iload 5, 2) := by decide +kernel
theorem dX6_numberOf_53 : decode cX6_numberOf 53 = .ok (.invokevirtual 132, 3) := by decide +kernel
theorem dX6_numberOf_56 : decode cX6_numberOf 56 = .ok (.iadd, 1) := by decide +kernel
theorem dX6_numberOf_57 : decode cX6_numberOf 57 = .ok (.istore_n 2, 1) := by decide +kernel
theorem dX6_numberOf_58 : decode cX6_numberOf 58 = .ok (.iinc 5 1, 3) := by decide +kernel
theorem dX6_numberOf_61 : decode cX6_numberOf 61 = .ok (.goto (-22), 3) := by decide +kernel
theorem dX6_numberOf_64 : decode cX6_numberOf 64 = .ok (.iinc 3 1, 3) := by decide +kernel
theorem dX6_numberOf_67 : decode cX6_numberOf 67 = .ok (.goto (-62), 3) := by decide +kernel
theorem dX6_numberOf_70 : decode cX6_numberOf 70 = .ok (.iload_n 2, 1) := by decide +kernel
theorem dX6_numberOf_71 : decode cX6_numberOf 71 = .ok (.ireturn, 1) := by decide +kernel
theorem dX6_numberBy_0 : decode cX6_numberBy 0 = .ok (.aload_n 0, 1) := by decide +kernel
theorem dX6_numberBy_1 : decode cX6_numberBy 1 = .ok (.iload_n 1, 1) := by decide +kernel
theorem dX6_numberBy_2 : decode cX6_numberBy 2 = .ok (.invokevirtual 106, 3) := by decide +kernel
theorem dX6_numberBy_5 : decode cX6_numberBy 5 = .ok (.ifCond .eq 18, 3) := by decide +kernel
theorem dX6_numberBy_8 : decode cX6_numberBy 8 = .ok (.iload_n 2, 1) := by decide +kernel
theorem dX6_numberBy_9 : decode cX6_numberBy 9 = .ok (.invokestatic 179, 3) := by decide +kernel
theorem dX6_numberBy_12 : decode cX6_numberBy 12 = .ok (.ifCond .eq 11, 3) := by decide +kernel
theorem dX6_numberBy_15 : decode cX6_numberBy 15 = .ok (.aload_n 0, 1) := by decide +kernel
theorem dX6_numberBy_16 : decode cX6_numberBy 16 = .ok (.iload_n 1, 1) := by decide +kernel
theorem dX6_numberBy_17 : decode cX6_numberBy 17 = .ok (.invokevirtual 113, 3) := by decide +kernel
theorem dX6_numberBy_20 : decode cX6_numberBy 20 = .ok (.ifCond .ne 8, 3) := by decide +kernel
theorem dX6_numberBy_23 : decode cX6_numberBy 23 = .ok (.ldc 78, 2) := by decide +kernel
theorem dX6_numberBy_25 : decode cX6_numberBy 25 = .ok (.goto 21, 3) := by decide +kernel
theorem dX6_numberBy_28 : decode cX6_numberBy 28 = .ok (.iload_n 2, 1) := by decide +kernel
theorem dX6_numberBy_29 : decode cX6_numberBy 29 = .ok (.ifCond .ne 11, 3) := by decide +kernel
theorem dX6_numberBy_32 : decode cX6_numberBy 32 = .ok (.aload_n 0, 1) := by decide +kernel
theorem dX6_numberBy_33 : decode cX6_numberBy 33 = .ok (.iload_n 1, 1) := by decide +kernel
theorem dX6_numberBy_34 : decode cX6_numberBy 34 = .ok (.invokevirtual 98, 3) := by decide +kernel
theorem dX6_numberBy_37 : decode cX6_numberBy 37 = .ok (.goto 9, 3) := by decide +kernel
theorem dX6_numberBy_40 : decode cX6_numberBy 40 = .ok (.aload_n 0, 1) := by decide +kernel
theorem dX6_numberBy_41 : decode cX6_numberBy 41 = .ok (.getfield 41, 3) := by decide +kernel
theorem dX6_numberBy_44 : decode cX6_numberBy 44 = .ok (.iload_n 1, 1) := by decide +kernel
theorem dX6_numberBy_45 : decode cX6_numberBy 45 = .ok (.iaload, 1) := by decide +kernel
theorem dX6_numberBy_46 : decode cX6_numberBy 46 = .ok (.ireturn, 1) := by decide +kernel
theorem dX6_number_0 : decode cX6_number 0 = .ok (.aload_n 0, 1) := by decide +kernel
theorem dX6_number_1 : decode cX6_number 1 = .ok (.iload_n 1, 1) := by decide +kernel
theorem dX6_number_2 : decode cX6_number 2 = .ok (.iload_n 2, 1) := by decide +kernel
theorem dX6_number_3 : decode cX6_number 3 = .ok (.invokevirtual 182, 3) := by decide +kernel
theorem dX6_number_6 : decode cX6_number 6 = .ok (.ireturn, 1) := by decide +kernel
theorem dX6_flawsOf_0 : decode cX6_flawsOf 0 = .ok (.aload_n 0, 1) := by decide +kernel
theorem dX6_flawsOf_1 : decode cX6_flawsOf 1 = .ok (.iload_n 1, 1) := by decide +kernel
theorem dX6_flawsOf_2 : decode cX6_flawsOf 2 = .ok (.iconst 0, 1) := by decide +kernel
theorem dX6_flawsOf_3 : decode cX6_flawsOf 3 = .ok (.invokevirtual 170, 3) := by decide +kernel
theorem dX6_flawsOf_6 : decode cX6_flawsOf 6 = .ok (.ifCond .eq 7, 3) := by decide +kernel
theorem dX6_flawsOf_9 : decode cX6_flawsOf 9 = .ok (.iconst 1, 1) := by decide +kernel
theorem dX6_flawsOf_10 : decode cX6_flawsOf 10 = .ok (.goto 4, 3) := by decide +kernel
theorem dX6_flawsOf_13 : decode cX6_flawsOf 13 = .ok (.iconst 0, 1) := by decide +kernel
theorem dX6_flawsOf_14 : decode cX6_flawsOf 14 = .ok (.istore_n 2, 1) := by decide +kernel
theorem dX6_flawsOf_15 : decode cX6_flawsOf 15 = .ok (.iload_n 2, 1) := by decide +kernel
theorem dX6_flawsOf_16 : decode cX6_flawsOf 16 = .ok (.aload_n 0, 1) := by decide +kernel
theorem dX6_flawsOf_17 : decode cX6_flawsOf 17 = .ok (.iload_n 1, 1) := by decide +kernel
theorem dX6_flawsOf_18 : decode cX6_flawsOf 18 = .ok (.iconst 1, 1) := by decide +kernel
theorem dX6_flawsOf_19 : decode cX6_flawsOf 19 = .ok (.invokevirtual 170, 3) := by decide +kernel
theorem dX6_flawsOf_22 : decode cX6_flawsOf 22 = .ok (.aload_n 0, 1) := by decide +kernel
theorem dX6_flawsOf_23 : decode cX6_flawsOf 23 = .ok (.iload_n 1, 1) := by decide +kernel
theorem dX6_flawsOf_24 : decode cX6_flawsOf 24 = .ok (.iconst 1, 1) := by decide +kernel
theorem dX6_flawsOf_25 : decode cX6_flawsOf 25 = .ok (.invokevirtual 167, 3) := by decide +kernel
theorem dX6_flawsOf_28 : decode cX6_flawsOf 28 = .ok (.if_icmp .ne 18, 3) := by decide +kernel
theorem dX6_flawsOf_31 : decode cX6_flawsOf 31 = .ok (.aload_n 0, 1) := by decide +kernel
theorem dX6_flawsOf_32 : decode cX6_flawsOf 32 = .ok (.iload_n 1, 1) := by decide +kernel
theorem dX6_flawsOf_33 : decode cX6_flawsOf 33 = .ok (.iconst 2, 1) := by decide +kernel
theorem dX6_flawsOf_34 : decode cX6_flawsOf 34 = .ok (.invokevirtual 170, 3) := by decide +kernel
theorem dX6_flawsOf_37 : decode cX6_flawsOf 37 = .ok (.aload_n 0, 1) := by decide +kernel
theorem dX6_flawsOf_38 : decode cX6_flawsOf 38 = .ok (.iload_n 1, 1) := by decide +kernel
theorem dX6_flawsOf_39 : decode cX6_flawsOf 39 = .ok (.iconst 2, 1) := by decide +kernel
theorem dX6_flawsOf_40 : decode cX6_flawsOf 40 = .ok (.invokevirtual 167, 3) := by decide +kernel
theorem dX6_flawsOf_43 : decode cX6_flawsOf 43 = .ok (.if_icmp .eq 7, 3) := by decide +kernel
theorem dX6_flawsOf_46 : decode cX6_flawsOf 46 = .ok (.iconst 2, 1) := by decide +kernel
theorem dX6_flawsOf_47 : decode cX6_flawsOf 47 = .ok (.goto 4, 3) := by decide +kernel
theorem dX6_flawsOf_50 : decode cX6_flawsOf 50 = .ok (.iconst 0, 1) := by decide +kernel
theorem dX6_flawsOf_51 : decode cX6_flawsOf 51 = .ok (.ior, 1) := by decide +kernel
theorem dX6_flawsOf_52 : decode cX6_flawsOf 52 = .ok (.istore_n 2, 1) := by decide +kernel
theorem dX6_flawsOf_53 : decode cX6_flawsOf 53 = .ok (.iload_n 2, 1) := by decide +kernel
theorem dX6_flawsOf_54 : decode cX6_flawsOf 54 = .ok (.aload_n 0, 1) := by decide +kernel
theorem dX6_flawsOf_55 : decode cX6_flawsOf 55 = .ok (.iload_n 1, 1) := by decide +kernel
theorem dX6_flawsOf_56 : decode cX6_flawsOf 56 = .ok (.iconst 3, 1) := by decide +kernel
theorem dX6_flawsOf_57 : decode cX6_flawsOf 57 = .ok (.invokevirtual 170, 3) := by decide +kernel
theorem dX6_flawsOf_60 : decode cX6_flawsOf 60 = .ok (.aload_n 0, 1) := by decide +kernel
theorem dX6_flawsOf_61 : decode cX6_flawsOf 61 = .ok (.iload_n 1, 1) := by decide +kernel
theorem dX6_flawsOf_62 : decode cX6_flawsOf 62 = .ok (.iconst 3, 1) := by decide +kernel
theorem dX6_flawsOf_63 : decode cX6_flawsOf 63 = .ok (.invokevirtual 167, 3) := by decide +kernel
theorem dX6_flawsOf_66 : decode cX6_flawsOf 66 = .ok (.if_icmp .eq 7, 3) := by decide +kernel
theorem dX6_flawsOf_69 : decode cX6_flawsOf 69 = .ok (.iconst 4, 1) := by decide +kernel
theorem dX6_flawsOf_70 : decode cX6_flawsOf 70 = .ok (.goto 4, 3) := by decide +kernel
theorem dX6_flawsOf_73 : decode cX6_flawsOf 73 = .ok (.iconst 0, 1) := by decide +kernel
theorem dX6_flawsOf_74 : decode cX6_flawsOf 74 = .ok (.ior, 1) := by decide +kernel
theorem dX6_flawsOf_75 : decode cX6_flawsOf 75 = .ok (.istore_n 2, 1) := by decide +kernel
theorem dX6_flawsOf_76 : decode cX6_flawsOf 76 = .ok (.iload_n 2, 1) := by decide +kernel
theorem dX6_flawsOf_77 : decode cX6_flawsOf 77 = .ok (.aload_n 0, 1) := by decide +kernel
theorem dX6_flawsOf_78 : decode cX6_flawsOf 78 = .ok (.iload_n 1, 1) := by decide +kernel
theorem dX6_flawsOf_79 : decode cX6_flawsOf 79 = .ok (.invokevirtual 98, 3) := by decide +kernel
theorem dX6_flawsOf_82 : decode cX6_flawsOf 82 = .ok (.aload_n 0, 1) := by decide +kernel
theorem dX6_flawsOf_83 : decode cX6_flawsOf 83 = .ok (.getfield 41, 3) := by decide +kernel
theorem dX6_flawsOf_86 : decode cX6_flawsOf 86 = .ok (.iload_n 1, 1) := by decide +kernel
theorem dX6_flawsOf_87 : decode cX6_flawsOf 87 = .ok (.iaload, 1) := by decide +kernel
theorem dX6_flawsOf_88 : decode cX6_flawsOf 88 = .ok (.if_icmp .eq 8, 3) := by decide +kernel
theorem dX6_flawsOf_91 : decode cX6_flawsOf 91 = .ok (.bipush 8, 2) := by decide +kernel
theorem dX6_flawsOf_93 : decode cX6_flawsOf 93 = .ok (.goto 4, 3) := by decide +kernel
theorem dX6_flawsOf_96 : decode cX6_flawsOf 96 = .ok (.iconst 0, 1) := by decide +kernel
theorem dX6_flawsOf_97 : decode cX6_flawsOf 97 = .ok (.ior, 1) := by decide +kernel
theorem dX6_flawsOf_98 : decode cX6_flawsOf 98 = .ok (.ireturn, 1) := by decide +kernel
theorem dX6_flaws_0 : decode cX6_flaws 0 = .ok (.aload_n 0, 1) := by decide +kernel
theorem dX6_flaws_1 : decode cX6_flaws 1 = .ok (.iload_n 1, 1) := by decide +kernel
theorem dX6_flaws_2 : decode cX6_flaws 2 = .ok (.invokevirtual 106, 3) := by decide +kernel
theorem dX6_flaws_5 : decode cX6_flaws 5 = .ok (.ifCond .ne 6, 3) := by decide +kernel
theorem dX6_flaws_8 : decode cX6_flaws 8 = .ok (.bipush (-2), 2) := by decide +kernel
theorem dX6_flaws_10 : decode cX6_flaws 10 = .ok (.ireturn, 1) := by decide +kernel
theorem dX6_flaws_11 : decode cX6_flaws 11 = .ok (.aload_n 0, 1) := by decide +kernel
theorem dX6_flaws_12 : decode cX6_flaws 12 = .ok (.iload_n 1, 1) := by decide +kernel
theorem dX6_flaws_13 : decode cX6_flaws 13 = .ok (.invokevirtual 113, 3) := by decide +kernel
theorem dX6_flaws_16 : decode cX6_flaws 16 = .ok (.ifCond .eq 11, 3) := by decide +kernel
theorem dX6_flaws_19 : decode cX6_flaws 19 = .ok (.aload_n 0, 1) := by decide +kernel
theorem dX6_flaws_20 : decode cX6_flaws 20 = .ok (.iload_n 1, 1) := by decide +kernel
theorem dX6_flaws_21 : decode cX6_flaws 21 = .ok (.invokevirtual 185, 3) := by decide +kernel
theorem dX6_flaws_24 : decode cX6_flaws 24 = .ok (.goto 5, 3) := by decide +kernel
theorem dX6_flaws_27 : decode cX6_flaws 27 = .ok (.bipush (-3), 2) := by decide +kernel
theorem dX6_flaws_29 : decode cX6_flaws 29 = .ok (.ireturn, 1) := by decide +kernel
theorem dX6_kindAt_0 : decode cX6_kindAt 0 = .ok (.iload_n 1, 1) := by decide +kernel
theorem dX6_kindAt_1 : decode cX6_kindAt 1 = .ok (.iconst (-1), 1) := by decide +kernel
theorem dX6_kindAt_2 : decode cX6_kindAt 2 = .ok (.if_icmp .ne 7, 3) := by decide +kernel
theorem dX6_kindAt_5 : decode cX6_kindAt 5 = .ok (.iconst (-1), 1) := by decide +kernel
theorem dX6_kindAt_6 : decode cX6_kindAt 6 = .ok (.goto 9, 3) := by decide +kernel
theorem dX6_kindAt_9 : decode cX6_kindAt 9 = .ok (.aload_n 0, 1) := by decide +kernel
theorem dX6_kindAt_10 : decode cX6_kindAt 10 = .ok (.getfield 25, 3) := by decide +kernel
theorem dX6_kindAt_13 : decode cX6_kindAt 13 = .ok (.iload_n 1, 1) := by decide +kernel
theorem dX6_kindAt_14 : decode cX6_kindAt 14 = .ok (.iaload, 1) := by decide +kernel
theorem dX6_kindAt_15 : decode cX6_kindAt 15 = .ok (.ireturn, 1) := by decide +kernel
theorem dX6_isNoteOrNone_0 : decode cX6_isNoteOrNone 0 = .ok (.iload_n 0, 1) := by decide +kernel
theorem dX6_isNoteOrNone_1 : decode cX6_isNoteOrNone 1 = .ok (.iconst (-1), 1) := by decide +kernel
theorem dX6_isNoteOrNone_2 : decode cX6_isNoteOrNone 2 = .ok (.if_icmp .eq 8, 3) := by decide +kernel
theorem dX6_isNoteOrNone_5 : decode cX6_isNoteOrNone 5 = .ok (.iload_n 0, 1) := by decide +kernel
theorem dX6_isNoteOrNone_6 : decode cX6_isNoteOrNone 6 = .ok (.iconst 2, 1) := by decide +kernel
theorem dX6_isNoteOrNone_7 : decode cX6_isNoteOrNone 7 = .ok (.if_icmp .ne 7, 3) := by decide +kernel
theorem dX6_isNoteOrNone_10 : decode cX6_isNoteOrNone 10 = .ok (.iconst 1, 1) := by decide +kernel
theorem dX6_isNoteOrNone_11 : decode cX6_isNoteOrNone 11 = .ok (.goto 4, 3) := by decide +kernel
theorem dX6_isNoteOrNone_14 : decode cX6_isNoteOrNone 14 = .ok (.iconst 0, 1) := by decide +kernel
theorem dX6_isNoteOrNone_15 : decode cX6_isNoteOrNone 15 = .ok (.ireturn, 1) := by decide +kernel
theorem dX6_isFree_0 : decode cX6_isFree 0 = .ok (.iconst 1, 1) := by decide +kernel
theorem dX6_isFree_1 : decode cX6_isFree 1 = .ok (.istore 4, 2) := by decide +kernel
theorem dX6_isFree_3 : decode cX6_isFree 3 = .ok (.iconst 0, 1) := by decide +kernel
theorem dX6_isFree_4 : decode cX6_isFree 4 = .ok (.istore 5, 2) := by decide +kernel
theorem dX6_isFree_6 : decode cX6_isFree 6 = .ok (.iload 5, 2) := by decide +kernel
theorem dX6_isFree_8 : decode cX6_isFree 8 = .ok (.bipush 16, 2) := by decide +kernel
theorem dX6_isFree_10 : decode cX6_isFree 10 = .ok (.if_icmp .ge 43, 3) := by decide +kernel
theorem dX6_isFree_13 : decode cX6_isFree 13 = .ok (.iload 4, 2) := by decide +kernel
theorem dX6_isFree_15 : decode cX6_isFree 15 = .ok (.ifCond .eq 29, 3) := by decide +kernel
theorem dX6_isFree_18 : decode cX6_isFree 18 = .ok (.iload_n 1, 1) := by decide +kernel
theorem dX6_isFree_19 : decode cX6_isFree 19 = .ok (.iload_n 2, 1) := by decide +kernel
theorem dX6_isFree_20 : decode cX6_isFree 20 = .ok (.ixor, 1) := by decide +kernel
theorem dX6_isFree_21 : decode cX6_isFree 21 = .ok (.iload 5, 2) := by decide +kernel
theorem dX6_isFree_23 : decode cX6_isFree 23 = .ok (.invokestatic 188, 3) := by decide +kernel
theorem dX6_isFree_26 : decode cX6_isFree 26 = .ok (.ifCond .eq 14, 3) := by decide +kernel
theorem dX6_isFree_29 : decode cX6_isFree 29 = .ok (.aload_n 0, 1) := by decide +kernel
theorem dX6_isFree_30 : decode cX6_isFree 30 = .ok (.iload 5, 2) := by decide +kernel
theorem dX6_isFree_32 : decode cX6_isFree 32 = .ok (.iload_n 3, 1) := by decide +kernel
theorem dX6_isFree_33 : decode cX6_isFree 33 = .ok (.invokevirtual 152, 3) := by decide +kernel
theorem dX6_isFree_36 : decode cX6_isFree 36 = .ok (.iconst (-1), 1) := by decide +kernel
theorem dX6_isFree_37 : decode cX6_isFree 37 = .ok (.if_icmp .ne 7, 3) := by decide +kernel
theorem dX6_isFree_40 : decode cX6_isFree 40 = .ok (.iconst 1, 1) := by decide +kernel
theorem dX6_isFree_41 : decode cX6_isFree 41 = .ok (.goto 4, 3) := by decide +kernel
theorem dX6_isFree_44 : decode cX6_isFree 44 = .ok (.iconst 0, 1) := by decide +kernel
theorem dX6_isFree_45 : decode cX6_isFree 45 = .ok (.istore 4, 2) := by decide +kernel
theorem dX6_isFree_47 : decode cX6_isFree 47 = .ok (.iinc 5 1, 3) := by decide +kernel
theorem dX6_isFree_50 : decode cX6_isFree 50 = .ok (.goto (-44), 3) := by decide +kernel
theorem dX6_isFree_53 : decode cX6_isFree 53 = .ok (.iload 4, 2) := by decide +kernel
theorem dX6_isFree_55 : decode cX6_isFree 55 = .ok (.ireturn, 1) := by decide +kernel
theorem dX6_sortOf_0 : decode cX6_sortOf 0 = .ok (.aload_n 0, 1) := by decide +kernel
theorem dX6_sortOf_1 : decode cX6_sortOf 1 = .ok (.iload_n 1, 1) := by decide +kernel
theorem dX6_sortOf_2 : decode cX6_sortOf 2 = .ok (.iload_n 2, 1) := by decide +kernel
theorem dX6_sortOf_3 : decode cX6_sortOf 3 = .ok (.invokevirtual 161, 3) := by decide +kernel
theorem dX6_sortOf_6 : decode cX6_sortOf 6 = .ok (.ifCond .eq 5, 3) := by decide +kernel
theorem dX6_sortOf_9 : decode cX6_sortOf 9 = .ok (.iconst 3, 1) := by decide +kernel
theorem dX6_sortOf_10 : decode cX6_sortOf 10 = .ok (.ireturn, 1) := by decide +kernel
theorem dX6_sortOf_11 : decode cX6_sortOf 11 = .ok (.aload_n 0, 1) := by decide +kernel
theorem dX6_sortOf_12 : decode cX6_sortOf 12 = .ok (.iload_n 1, 1) := by decide +kernel
theorem dX6_sortOf_13 : decode cX6_sortOf 13 = .ok (.iload_n 2, 1) := by decide +kernel
theorem dX6_sortOf_14 : decode cX6_sortOf 14 = .ok (.iconst 1, 1) := by decide +kernel
theorem dX6_sortOf_15 : decode cX6_sortOf 15 = .ok (.isub, 1) := by decide +kernel
theorem dX6_sortOf_16 : decode cX6_sortOf 16 = .ok (.invokevirtual 152, 3) := by decide +kernel
theorem dX6_sortOf_19 : decode cX6_sortOf 19 = .ok (.istore 4, 2) := by decide +kernel
theorem dX6_sortOf_21 : decode cX6_sortOf 21 = .ok (.aload_n 0, 1) := by decide +kernel
theorem dX6_sortOf_22 : decode cX6_sortOf 22 = .ok (.iload_n 1, 1) := by decide +kernel
theorem dX6_sortOf_23 : decode cX6_sortOf 23 = .ok (.iload_n 2, 1) := by decide +kernel
theorem dX6_sortOf_24 : decode cX6_sortOf 24 = .ok (.invokevirtual 152, 3) := by decide +kernel
theorem dX6_sortOf_27 : decode cX6_sortOf 27 = .ok (.istore 5, 2) := by decide +kernel
theorem dX6_sortOf_29 : decode cX6_sortOf 29 = .ok (.aload_n 0, 1) := by decide +kernel
theorem dX6_sortOf_30 : decode cX6_sortOf 30 = .ok (.iload 4, 2) := by decide +kernel
theorem dX6_sortOf_32 : decode cX6_sortOf 32 = .ok (.invokevirtual 191, 3) := by decide +kernel
theorem dX6_sortOf_35 : decode cX6_sortOf 35 = .ok (.istore 6, 2) := by decide +kernel
theorem dX6_sortOf_37 : decode cX6_sortOf 37 = .ok (.aload_n 0, 1) := by decide +kernel
theorem dX6_sortOf_38 : decode cX6_sortOf 38 = .ok (.iload 5, 2) := by decide +kernel
theorem dX6_sortOf_40 : decode cX6_sortOf 40 = .ok (.invokevirtual 191, 3) := by decide +kernel
theorem dX6_sortOf_43 : decode cX6_sortOf 43 = .ok (.istore 7, 2) := by decide +kernel
theorem dX6_sortOf_45 : decode cX6_sortOf 45 = .ok (.iload 6, 2) := by decide +kernel
theorem dX6_sortOf_47 : decode cX6_sortOf 47 = .ok (.iload 7, 2) := by decide +kernel
theorem dX6_sortOf_49 : decode cX6_sortOf 49 = .ok (.if_icmp .ne 28, 3) := by decide +kernel
theorem dX6_sortOf_52 : decode cX6_sortOf 52 = .ok (.iload 4, 2) := by decide +kernel
theorem dX6_sortOf_54 : decode cX6_sortOf 54 = .ok (.iconst (-1), 1) := by decide +kernel
theorem dX6_sortOf_55 : decode cX6_sortOf 55 = .ok (.if_icmp .eq 20, 3) := by decide +kernel
theorem dX6_sortOf_58 : decode cX6_sortOf 58 = .ok (.aload_n 0, 1) := by decide +kernel
theorem dX6_sortOf_59 : decode cX6_sortOf 59 = .ok (.getfield 28, 3) := by decide +kernel
theorem dX6_sortOf_62 : decode cX6_sortOf 62 = .ok (.iload 4, 2) := by decide +kernel
theorem dX6_sortOf_64 : decode cX6_sortOf 64 = .ok (.iaload, 1) := by decide +kernel
theorem dX6_sortOf_65 : decode cX6_sortOf 65 = .ok (.aload_n 0, 1) := by decide +kernel
theorem dX6_sortOf_66 : decode cX6_sortOf 66 = .ok (.getfield 28, 3) := by decide +kernel
theorem dX6_sortOf_69 : decode cX6_sortOf 69 = .ok (.iload 5, 2) := by decide +kernel
theorem dX6_sortOf_71 : decode cX6_sortOf 71 = .ok (.iaload, 1) := by decide +kernel
theorem dX6_sortOf_72 : decode cX6_sortOf 72 = .ok (.if_icmp .ne 5, 3) := by decide +kernel
theorem dX6_sortOf_75 : decode cX6_sortOf 75 = .ok (.iconst 0, 1) := by decide +kernel
theorem dX6_sortOf_76 : decode cX6_sortOf 76 = .ok (.ireturn, 1) := by decide +kernel
theorem dX6_sortOf_77 : decode cX6_sortOf 77 = .ok (.iload 6, 2) := by decide +kernel
theorem dX6_sortOf_79 : decode cX6_sortOf 79 = .ok (.iconst 1, 1) := by decide +kernel
theorem dX6_sortOf_80 : decode cX6_sortOf 80 = .ok (.if_icmp .ne 9, 3) := by decide +kernel
theorem dX6_sortOf_83 : decode cX6_sortOf 83 = .ok (.iload 7, 2) := by decide +kernel
theorem dX6_sortOf_85 : decode cX6_sortOf 85 = .ok (.iconst 1, 1) := by decide +kernel
theorem dX6_sortOf_86 : decode cX6_sortOf 86 = .ok (.if_icmp .eq 15, 3) := by decide +kernel
theorem dX6_sortOf_89 : decode cX6_sortOf 89 = .ok (.iload 6, 2) := by decide +kernel
theorem dX6_sortOf_91 : decode cX6_sortOf 91 = .ok (.iconst (-1), 1) := by decide +kernel
theorem dX6_sortOf_92 : decode cX6_sortOf 92 = .ok (.if_icmp .ne 11, 3) := by decide +kernel
theorem dX6_sortOf_95 : decode cX6_sortOf 95 = .ok (.iload 7, 2) := by decide +kernel
theorem dX6_sortOf_97 : decode cX6_sortOf 97 = .ok (.iconst 4, 1) := by decide +kernel
theorem dX6_sortOf_98 : decode cX6_sortOf 98 = .ok (.if_icmp .ne 5, 3) := by decide +kernel
theorem dX6_sortOf_101 : decode cX6_sortOf 101 = .ok (.iconst 1, 1) := by decide +kernel
theorem dX6_sortOf_102 : decode cX6_sortOf 102 = .ok (.ireturn, 1) := by decide +kernel
theorem dX6_sortOf_103 : decode cX6_sortOf 103 = .ok (.iload 6, 2) := by decide +kernel
theorem dX6_sortOf_105 : decode cX6_sortOf 105 = .ok (.invokestatic 194, 3) := by decide +kernel
theorem dX6_sortOf_108 : decode cX6_sortOf 108 = .ok (.ifCond .eq 25, 3) := by decide +kernel
theorem dX6_sortOf_111 : decode cX6_sortOf 111 = .ok (.iload 7, 2) := by decide +kernel
theorem dX6_sortOf_113 : decode cX6_sortOf 113 = .ok (.invokestatic 194, 3) := by decide +kernel
theorem dX6_sortOf_116 : decode cX6_sortOf 116 = .ok (.ifCond .eq 17, 3) := by decide +kernel
theorem dX6_sortOf_119 : decode cX6_sortOf 119 = .ok (.aload_n 0, 1) := by decide +kernel
theorem dX6_sortOf_120 : decode cX6_sortOf 120 = .ok (.iload_n 1, 1) := by decide +kernel
theorem dX6_sortOf_121 : decode cX6_sortOf 121 = .ok (.iload_n 3, 1) := by decide +kernel
theorem dX6_sortOf_122 : decode cX6_sortOf 122 = .ok (.invokevirtual 152, 3) := by decide +kernel
theorem dX6_sortOf_125 : decode cX6_sortOf 125 = .ok (.iconst (-1), 1) := by decide +kernel
theorem dX6_sortOf_126 : decode cX6_sortOf 126 = .ok (.if_icmp .ne 7, 3) := by decide +kernel
theorem dX6_sortOf_129 : decode cX6_sortOf 129 = .ok (.iconst 1, 1) := by decide +kernel
theorem dX6_sortOf_130 : decode cX6_sortOf 130 = .ok (.goto 4, 3) := by decide +kernel
theorem dX6_sortOf_133 : decode cX6_sortOf 133 = .ok (.iconst 0, 1) := by decide +kernel
theorem dX6_sortOf_134 : decode cX6_sortOf 134 = .ok (.istore 8, 2) := by decide +kernel
theorem dX6_sortOf_136 : decode cX6_sortOf 136 = .ok (.iload 6, 2) := by decide +kernel
theorem dX6_sortOf_138 : decode cX6_sortOf 138 = .ok (.iconst 3, 1) := by decide +kernel
theorem dX6_sortOf_139 : decode cX6_sortOf 139 = .ok (.if_icmp .ne 35, 3) := by decide +kernel
theorem dX6_sortOf_142 : decode cX6_sortOf 142 = .ok (.iload 7, 2) := by decide +kernel
theorem dX6_sortOf_144 : decode cX6_sortOf 144 = .ok (.iconst 3, 1) := by decide +kernel
theorem dX6_sortOf_145 : decode cX6_sortOf 145 = .ok (.if_icmp .ne 29, 3) := by decide +kernel
theorem dX6_sortOf_148 : decode cX6_sortOf 148 = .ok (.aload_n 0, 1) := by decide +kernel
theorem dX6_sortOf_149 : decode cX6_sortOf 149 = .ok (.aload_n 0, 1) := by decide +kernel
theorem dX6_sortOf_150 : decode cX6_sortOf 150 = .ok (.getfield 28, 3) := by decide +kernel
theorem dX6_sortOf_153 : decode cX6_sortOf 153 = .ok (.iload 4, 2) := by decide +kernel
theorem dX6_sortOf_155 : decode cX6_sortOf 155 = .ok (.iaload, 1) := by decide +kernel
theorem dX6_sortOf_156 : decode cX6_sortOf 156 = .ok (.aload_n 0, 1) := by decide +kernel
theorem dX6_sortOf_157 : decode cX6_sortOf 157 = .ok (.getfield 28, 3) := by decide +kernel
theorem dX6_sortOf_160 : decode cX6_sortOf 160 = .ok (.iload 5, 2) := by decide +kernel
theorem dX6_sortOf_162 : decode cX6_sortOf 162 = .ok (.iaload, 1) := by decide +kernel
theorem dX6_sortOf_163 : decode cX6_sortOf 163 = .ok (.iload_n 3, 1) := by decide +kernel
theorem dX6_sortOf_164 : decode cX6_sortOf 164 = .ok (.invokevirtual 197, 3) := by decide +kernel
theorem dX6_sortOf_167 : decode cX6_sortOf 167 = .ok (.ifCond .eq 7, 3) := by decide +kernel
theorem dX6_sortOf_170 : decode cX6_sortOf 170 = .ok (.iconst 1, 1) := by decide +kernel
theorem dX6_sortOf_171 : decode cX6_sortOf 171 = .ok (.goto 4, 3) := by decide +kernel
theorem dX6_sortOf_174 : decode cX6_sortOf 174 = .ok (.iconst 0, 1) := by decide +kernel
theorem dX6_sortOf_175 : decode cX6_sortOf 175 = .ok (.istore 9, 2) := by decide +kernel
theorem dX6_sortOf_177 : decode cX6_sortOf 177 = .ok (.iload 8, 2) := by decide +kernel
theorem dX6_sortOf_179 : decode cX6_sortOf 179 = .ok (.ifCond .ne 8, 3) := by decide +kernel
theorem dX6_sortOf_182 : decode cX6_sortOf 182 = .ok (.iload 9, 2) := by decide +kernel
theorem dX6_sortOf_184 : decode cX6_sortOf 184 = .ok (.ifCond .eq 7, 3) := by decide +kernel
theorem dX6_sortOf_187 : decode cX6_sortOf 187 = .ok (.iconst 2, 1) := by decide +kernel
theorem dX6_sortOf_188 : decode cX6_sortOf 188 = .ok (.goto 4, 3) := by decide +kernel
theorem dX6_sortOf_191 : decode cX6_sortOf 191 = .ok (.iconst 3, 1) := by decide +kernel
theorem dX6_sortOf_192 : decode cX6_sortOf 192 = .ok (.ireturn, 1) := by decide +kernel
theorem dX6_verdictOf_0 : decode cX6_verdictOf 0 = .ok (.iconst 0, 1) := by decide +kernel
theorem dX6_verdictOf_1 : decode cX6_verdictOf 1 = .ok (.istore_n 2, 1) := by decide +kernel
theorem dX6_verdictOf_2 : decode cX6_verdictOf 2 = .ok (.bipush 16, 2) := by decide +kernel
theorem dX6_verdictOf_4 : decode cX6_verdictOf 4 = .ok (.aload_n 0, 1) := by decide +kernel
theorem dX6_verdictOf_5 : decode cX6_verdictOf 5 = .ok (.getfield 31, 3) := by decide +kernel
theorem dX6_verdictOf_8 : decode cX6_verdictOf 8 = .ok (.iload_n 1, 1) := by decide +kernel
theorem dX6_verdictOf_9 : decode cX6_verdictOf 9 = .ok (.iaload, 1) := by decide +kernel
theorem dX6_verdictOf_10 : decode cX6_verdictOf 10 = .ok (.iconst 1, 1) := by decide +kernel
theorem dX6_verdictOf_11 : decode cX6_verdictOf 11 = .ok (.iadd, 1) := by decide +kernel
theorem dX6_verdictOf_12 : decode cX6_verdictOf 12 = .ok (.imul, 1) := by decide +kernel
theorem dX6_verdictOf_13 : decode cX6_verdictOf 13 = .ok (.istore_n 3, 1) := by decide +kernel
theorem dX6_verdictOf_14 : decode cX6_verdictOf 14 = .ok (.iload_n 3, 1) := by decide +kernel
theorem dX6_verdictOf_15 : decode cX6_verdictOf 15 = .ok (.bipush 16, 2) := by decide +kernel
theorem dX6_verdictOf_17 : decode cX6_verdictOf 17 = .ok (.aload_n 0, 1) := by decide +kernel
theorem dX6_verdictOf_18 : decode cX6_verdictOf 18 = .ok (.getfield 92, 3) := by decide +kernel
theorem dX6_verdictOf_21 : decode cX6_verdictOf 21 = .ok (.iconst 1, 1) := by decide +kernel
theorem dX6_verdictOf_22 : decode cX6_verdictOf 22 = .ok (.iadd, 1) := by decide +kernel
theorem dX6_verdictOf_23 : decode cX6_verdictOf 23 = .ok (.imul, 1) := by decide +kernel
theorem dX6_verdictOf_24 : decode cX6_verdictOf 24 = .ok (.if_icmp .ge 32, 3) := by decide +kernel
theorem dX6_verdictOf_27 : decode cX6_verdictOf 27 = .ok (.aload_n 0, 1) := by decide +kernel
theorem dX6_verdictOf_28 : decode cX6_verdictOf 28 = .ok (.iload_n 3, 1) := by decide +kernel
theorem dX6_verdictOf_29 : decode cX6_verdictOf 29 = .ok (.bipush 16, 2) := by decide +kernel
theorem dX6_verdictOf_31 : decode cX6_verdictOf 31 = .ok (.irem, 1) := by decide +kernel
theorem dX6_verdictOf_32 : decode cX6_verdictOf 32 = .ok (.iload_n 3, 1) := by decide +kernel
theorem dX6_verdictOf_33 : decode cX6_verdictOf 33 = .ok (.bipush 16, 2) := by decide +kernel
theorem dX6_verdictOf_35 : decode cX6_verdictOf 35 = .ok (.idiv, 1) := by decide +kernel
theorem dX6_verdictOf_36 : decode cX6_verdictOf 36 = .ok (.aload_n 0, 1) := by decide +kernel
theorem dX6_verdictOf_37 : decode cX6_verdictOf 37 = .ok (.getfield 31, 3) := by decide +kernel
theorem dX6_verdictOf_40 : decode cX6_verdictOf 40 = .ok (.iload_n 1, 1) := by decide +kernel
theorem dX6_verdictOf_41 : decode cX6_verdictOf 41 = .ok (.iaload, 1) := by decide +kernel
theorem dX6_verdictOf_42 : decode cX6_verdictOf 42 = .ok (.invokevirtual 201, 3) := by decide +kernel
theorem dX6_verdictOf_45 : decode cX6_verdictOf 45 = .ok (.iload_n 2, 1) := by decide +kernel
theorem dX6_verdictOf_46 : decode cX6_verdictOf 46 = .ok (.invokestatic 204, 3) := by decide +kernel
theorem dX6_verdictOf_49 : decode cX6_verdictOf 49 = .ok (.istore_n 2, 1) := by decide +kernel
theorem dX6_verdictOf_50 : decode cX6_verdictOf 50 = .ok (.iinc 3 1, 3) := by decide +kernel
theorem dX6_verdictOf_53 : decode cX6_verdictOf 53 = .ok (.goto (-39), 3) := by decide +kernel
theorem dX6_verdictOf_56 : decode cX6_verdictOf 56 = .ok (.iload_n 2, 1) := by decide +kernel
theorem dX6_verdictOf_57 : decode cX6_verdictOf 57 = .ok (.ireturn, 1) := by decide +kernel
theorem dX6_manyChanges_0 : decode cX6_manyChanges 0 = .ok (.iconst 0, 1) := by decide +kernel
theorem dX6_manyChanges_1 : decode cX6_manyChanges 1 = .ok (.istore_n 3, 1) := by decide +kernel
theorem dX6_manyChanges_2 : decode cX6_manyChanges 2 = .ok (.bipush 16, 2) := by decide +kernel
theorem dX6_manyChanges_4 : decode cX6_manyChanges 4 = .ok (.aload_n 0, 1) := by decide +kernel
theorem dX6_manyChanges_5 : decode cX6_manyChanges 5 = .ok (.getfield 31, 3) := by decide +kernel
theorem dX6_manyChanges_8 : decode cX6_manyChanges 8 = .ok (.iload_n 1, 1) := by decide +kernel
theorem dX6_manyChanges_9 : decode cX6_manyChanges 9 = .ok (.iaload, 1) := by decide +kernel
theorem dX6_manyChanges_10 : decode cX6_manyChanges 10 = .ok (.iconst 1, 1) := by decide +kernel
theorem dX6_manyChanges_11 : decode cX6_manyChanges 11 = .ok (.iadd, 1) := by decide +kernel
theorem dX6_manyChanges_12 : decode cX6_manyChanges 12 = .ok (.imul, 1) := by decide +kernel
theorem dX6_manyChanges_13 : decode cX6_manyChanges 13 = .ok (.istore 4, 2) := by decide +kernel
theorem dX6_manyChanges_15 : decode cX6_manyChanges 15 = .ok (.iload 4, 2) := by decide +kernel
theorem dX6_manyChanges_17 : decode cX6_manyChanges 17 = .ok (.bipush 16, 2) := by decide +kernel
theorem dX6_manyChanges_19 : decode cX6_manyChanges 19 = .ok (.aload_n 0, 1) := by decide +kernel
theorem dX6_manyChanges_20 : decode cX6_manyChanges 20 = .ok (.getfield 92, 3) := by decide +kernel
theorem dX6_manyChanges_23 : decode cX6_manyChanges 23 = .ok (.iconst 1, 1) := by decide +kernel
theorem dX6_manyChanges_24 : decode cX6_manyChanges 24 = .ok (.iadd, 1) := by decide +kernel
theorem dX6_manyChanges_25 : decode cX6_manyChanges 25 = .ok (.imul, 1) := by decide +kernel
theorem dX6_manyChanges_26 : decode cX6_manyChanges 26 = .ok (.if_icmp .ge 41, 3) := by decide +kernel
theorem dX6_manyChanges_29 : decode cX6_manyChanges 29 = .ok (.iload_n 3, 1) := by decide +kernel
theorem dX6_manyChanges_30 : decode cX6_manyChanges 30 = .ok (.aload_n 0, 1) := by decide +kernel
theorem dX6_manyChanges_31 : decode cX6_manyChanges 31 = .ok (.iload 4, 2) := by decide +kernel
theorem dX6_manyChanges_33 : decode cX6_manyChanges 33 = .ok (.bipush 16, 2) := by decide +kernel
theorem dX6_manyChanges_35 : decode cX6_manyChanges 35 = .ok (.irem, 1) := by decide +kernel
theorem dX6_manyChanges_36 : decode cX6_manyChanges 36 = .ok (.iload 4, 2) := by decide +kernel
theorem dX6_manyChanges_38 : decode cX6_manyChanges 38 = .ok (.bipush 16, 2) := by decide +kernel
theorem dX6_manyChanges_40 : decode cX6_manyChanges 40 = .ok (.idiv, 1) := by decide +kernel
theorem dX6_manyChanges_41 : decode cX6_manyChanges 41 = .ok (.aload_n 0, 1) := by decide +kernel
theorem dX6_manyChanges_42 : decode cX6_manyChanges 42 = .ok (.getfield 31, 3) := by decide +kernel
theorem dX6_manyChanges_45 : decode cX6_manyChanges 45 = .ok (.iload_n 1, 1) := by decide +kernel
theorem dX6_manyChanges_46 : decode cX6_manyChanges 46 = .ok (.iaload, 1) := by decide +kernel
theorem dX6_manyChanges_47 : decode cX6_manyChanges 47 = .ok (.invokevirtual 201, 3) := by decide +kernel
theorem dX6_manyChanges_50 : decode cX6_manyChanges 50 = .ok (.iload_n 2, 1) := by decide +kernel
theorem dX6_manyChanges_51 : decode cX6_manyChanges 51 = .ok (.if_icmp .lt 7, 3) := by decide +kernel
theorem dX6_manyChanges_54 : decode cX6_manyChanges 54 = .ok (.iconst 1, 1) := by decide +kernel
theorem dX6_manyChanges_55 : decode cX6_manyChanges 55 = .ok (.goto 4, 3) := by decide +kernel
theorem dX6_manyChanges_58 : decode cX6_manyChanges 58 = .ok (.iconst 0, 1) := by decide +kernel
theorem dX6_manyChanges_59 : decode cX6_manyChanges 59 = .ok (.iadd, 1) := by decide +kernel
theorem dX6_manyChanges_60 : decode cX6_manyChanges 60 = .ok (.istore_n 3, 1) := by decide +kernel
theorem dX6_manyChanges_61 : decode cX6_manyChanges 61 = .ok (.iinc 4 1, 3) := by decide +kernel
theorem dX6_manyChanges_64 : decode cX6_manyChanges 64 = .ok (.goto (-49), 3) := by decide +kernel
theorem dX6_manyChanges_67 : decode cX6_manyChanges 67 = .ok (.iload_n 3, 1) := by decide +kernel
theorem dX6_manyChanges_68 : decode cX6_manyChanges 68 = .ok (.ireturn, 1) := by decide +kernel
theorem dX6_isHolding_0 : decode cX6_isHolding 0 = .ok (.iload_n 2, 1) := by decide +kernel
theorem dX6_isHolding_1 : decode cX6_isHolding 1 = .ok (.ifCond .ne 21, 3) := by decide +kernel
theorem dX6_isHolding_4 : decode cX6_isHolding 4 = .ok (.aload_n 0, 1) := by decide +kernel
theorem dX6_isHolding_5 : decode cX6_isHolding 5 = .ok (.iload_n 1, 1) := by decide +kernel
theorem dX6_isHolding_6 : decode cX6_isHolding 6 = .ok (.invokevirtual 207, 3) := by decide +kernel
theorem dX6_isHolding_9 : decode cX6_isHolding 9 = .ok (.aload_n 0, 1) := by decide +kernel
theorem dX6_isHolding_10 : decode cX6_isHolding 10 = .ok (.getfield 28, 3) := by decide +kernel
theorem dX6_isHolding_13 : decode cX6_isHolding 13 = .ok (.iload_n 1, 1) := by decide +kernel
theorem dX6_isHolding_14 : decode cX6_isHolding 14 = .ok (.iaload, 1) := by decide +kernel
theorem dX6_isHolding_15 : decode cX6_isHolding 15 = .ok (.if_icmp .gt 7, 3) := by decide +kernel
theorem dX6_isHolding_18 : decode cX6_isHolding 18 = .ok (.iconst 1, 1) := by decide +kernel
theorem dX6_isHolding_19 : decode cX6_isHolding 19 = .ok (.goto 4, 3) := by decide +kernel
theorem dX6_isHolding_22 : decode cX6_isHolding 22 = .ok (.iconst 0, 1) := by decide +kernel
theorem dX6_isHolding_23 : decode cX6_isHolding 23 = .ok (.ireturn, 1) := by decide +kernel
theorem dX6_judgeBy_0 : decode cX6_judgeBy 0 = .ok (.iload_n 2, 1) := by decide +kernel
theorem dX6_judgeBy_1 : decode cX6_judgeBy 1 = .ok (.ifCond .ne 11, 3) := by decide +kernel
theorem dX6_judgeBy_4 : decode cX6_judgeBy 4 = .ok (.aload_n 0, 1) := by decide +kernel
theorem dX6_judgeBy_5 : decode cX6_judgeBy 5 = .ok (.iload_n 1, 1) := by decide +kernel
theorem dX6_judgeBy_6 : decode cX6_judgeBy 6 = .ok (.invokevirtual 207, 3) := by decide +kernel
theorem dX6_judgeBy_9 : decode cX6_judgeBy 9 = .ok (.goto 49, 3) := by decide +kernel
theorem dX6_judgeBy_12 : decode cX6_judgeBy 12 = .ok (.iload_n 2, 1) := by decide +kernel
theorem dX6_judgeBy_13 : decode cX6_judgeBy 13 = .ok (.iconst 1, 1) := by decide +kernel
theorem dX6_judgeBy_14 : decode cX6_judgeBy 14 = .ok (.if_icmp .ne 12, 3) := by decide +kernel
theorem dX6_judgeBy_17 : decode cX6_judgeBy 17 = .ok (.aload_n 0, 1) := by decide +kernel
theorem dX6_judgeBy_18 : decode cX6_judgeBy 18 = .ok (.iload_n 1, 1) := by decide +kernel
theorem dX6_judgeBy_19 : decode cX6_judgeBy 19 = .ok (.iconst 1, 1) := by decide +kernel
theorem dX6_judgeBy_20 : decode cX6_judgeBy 20 = .ok (.invokevirtual 210, 3) := by decide +kernel
theorem dX6_judgeBy_23 : decode cX6_judgeBy 23 = .ok (.goto 35, 3) := by decide +kernel
theorem dX6_judgeBy_26 : decode cX6_judgeBy 26 = .ok (.iload_n 2, 1) := by decide +kernel
theorem dX6_judgeBy_27 : decode cX6_judgeBy 27 = .ok (.iconst 2, 1) := by decide +kernel
theorem dX6_judgeBy_28 : decode cX6_judgeBy 28 = .ok (.if_icmp .ne 12, 3) := by decide +kernel
theorem dX6_judgeBy_31 : decode cX6_judgeBy 31 = .ok (.aload_n 0, 1) := by decide +kernel
theorem dX6_judgeBy_32 : decode cX6_judgeBy 32 = .ok (.iload_n 1, 1) := by decide +kernel
theorem dX6_judgeBy_33 : decode cX6_judgeBy 33 = .ok (.iconst 3, 1) := by decide +kernel
theorem dX6_judgeBy_34 : decode cX6_judgeBy 34 = .ok (.invokevirtual 210, 3) := by decide +kernel
theorem dX6_judgeBy_37 : decode cX6_judgeBy 37 = .ok (.goto 21, 3) := by decide +kernel
theorem dX6_judgeBy_40 : decode cX6_judgeBy 40 = .ok (.aload_n 0, 1) := by decide +kernel
theorem dX6_judgeBy_41 : decode cX6_judgeBy 41 = .ok (.iload_n 1, 1) := by decide +kernel
theorem dX6_judgeBy_42 : decode cX6_judgeBy 42 = .ok (.aload_n 0, 1) := by decide +kernel
theorem dX6_judgeBy_43 : decode cX6_judgeBy 43 = .ok (.iload_n 1, 1) := by decide +kernel
theorem dX6_judgeBy_44 : decode cX6_judgeBy 44 = .ok (.invokevirtual 185, 3) := by decide +kernel
theorem dX6_judgeBy_47 : decode cX6_judgeBy 47 = .ok (.invokevirtual 213, 3) := by decide +kernel
theorem dX6_judgeBy_50 : decode cX6_judgeBy 50 = .ok (.ifCond .eq 7, 3) := by decide +kernel
theorem dX6_judgeBy_53 : decode cX6_judgeBy 53 = .ok (.iconst 1, 1) := by decide +kernel
theorem dX6_judgeBy_54 : decode cX6_judgeBy 54 = .ok (.goto 4, 3) := by decide +kernel
theorem dX6_judgeBy_57 : decode cX6_judgeBy 57 = .ok (.iconst 0, 1) := by decide +kernel
theorem dX6_judgeBy_58 : decode cX6_judgeBy 58 = .ok (.ireturn, 1) := by decide +kernel
theorem dX6_judge_0 : decode cX6_judge 0 = .ok (.aload_n 0, 1) := by decide +kernel

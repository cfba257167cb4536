theorem dX6_judge_1 : decode cX6_judge 1 = .ok (.iload_n 1, 1) := by decide +kernel
theorem dX6_judge_2 : decode cX6_judge 2 = .ok (.invokevirtual 106, 3) := by decide +kernel
theorem dX6_judge_5 : decode cX6_judge 5 = .ok (.ifCond .eq 15, 3) := by decide +kernel
theorem dX6_judge_8 : decode cX6_judge 8 = .ok (.iload_n 2, 1) := by decide +kernel
theorem dX6_judge_9 : decode cX6_judge 9 = .ok (.i2l, 1) := by decide +kernel
theorem dX6_judge_10 : decode cX6_judge 10 = .ok (.lconst 0, 1) := by decide +kernel
theorem dX6_judge_11 : decode cX6_judge 11 = .ok (.ldc2_w 58, 3) := by decide +kernel
theorem dX6_judge_14 : decode cX6_judge 14 = .ok (.invokestatic 51, 3) := by decide +kernel
theorem dX6_judge_17 : decode cX6_judge 17 = .ok (.ifCond .ne 6, 3) := by decide +kernel
theorem dX6_judge_20 : decode cX6_judge 20 = .ok (.bipush (-2), 2) := by decide +kernel
theorem dX6_judge_22 : decode cX6_judge 22 = .ok (.ireturn, 1) := by decide +kernel
theorem dX6_judge_23 : decode cX6_judge 23 = .ok (.aload_n 0, 1) := by decide +kernel
theorem dX6_judge_24 : decode cX6_judge 24 = .ok (.iload_n 1, 1) := by decide +kernel
theorem dX6_judge_25 : decode cX6_judge 25 = .ok (.invokevirtual 113, 3) := by decide +kernel
theorem dX6_judge_28 : decode cX6_judge 28 = .ok (.ifCond .eq 12, 3) := by decide +kernel
theorem dX6_judge_31 : decode cX6_judge 31 = .ok (.aload_n 0, 1) := by decide +kernel
theorem dX6_judge_32 : decode cX6_judge 32 = .ok (.iload_n 1, 1) := by decide +kernel
theorem dX6_judge_33 : decode cX6_judge 33 = .ok (.iload_n 2, 1) := by decide +kernel
theorem dX6_judge_34 : decode cX6_judge 34 = .ok (.invokevirtual 216, 3) := by decide +kernel
theorem dX6_judge_37 : decode cX6_judge 37 = .ok (.goto 5, 3) := by decide +kernel
theorem dX6_judge_40 : decode cX6_judge 40 = .ok (.bipush (-3), 2) := by decide +kernel
theorem dX6_judge_42 : decode cX6_judge 42 = .ok (.ireturn, 1) := by decide +kernel
theorem dX6_changeBy_0 : decode cX6_changeBy 0 = .ok (.iconst 0, 1) := by decide +kernel
theorem dX6_changeBy_1 : decode cX6_changeBy 1 = .ok (.istore 4, 2) := by decide +kernel
theorem dX6_changeBy_3 : decode cX6_changeBy 3 = .ok (.bipush 16, 2) := by decide +kernel
theorem dX6_changeBy_5 : decode cX6_changeBy 5 = .ok (.aload_n 0, 1) := by decide +kernel
theorem dX6_changeBy_6 : decode cX6_changeBy 6 = .ok (.getfield 31, 3) := by decide +kernel
theorem dX6_changeBy_9 : decode cX6_changeBy 9 = .ok (.iload_n 1, 1) := by decide +kernel
theorem dX6_changeBy_10 : decode cX6_changeBy 10 = .ok (.iaload, 1) := by decide +kernel
theorem dX6_changeBy_11 : decode cX6_changeBy 11 = .ok (.iconst 1, 1) := by decide +kernel
theorem dX6_changeBy_12 : decode cX6_changeBy 12 = .ok (.iadd, 1) := by decide +kernel
theorem dX6_changeBy_13 : decode cX6_changeBy 13 = .ok (.imul, 1) := by decide +kernel
theorem dX6_changeBy_14 : decode cX6_changeBy 14 = .ok (.istore 5, 2) := by decide +kernel
theorem dX6_changeBy_16 : decode cX6_changeBy 16 = .ok (.iload 5, 2) := by decide +kernel
theorem dX6_changeBy_18 : decode cX6_changeBy 18 = .ok (.bipush 16, 2) := by decide +kernel
theorem dX6_changeBy_20 : decode cX6_changeBy 20 = .ok (.aload_n 0, 1) := by decide +kernel
theorem dX6_changeBy_21 : decode cX6_changeBy 21 = .ok (.getfield 92, 3) := by decide +kernel
theorem dX6_changeBy_24 : decode cX6_changeBy 24 = .ok (.iconst 1, 1) := by decide +kernel
theorem dX6_changeBy_25 : decode cX6_changeBy 25 = .ok (.iadd, 1) := by decide +kernel
theorem dX6_changeBy_26 : decode cX6_changeBy 26 = .ok (.imul, 1) := by decide +kernel
theorem dX6_changeBy_27 : decode cX6_changeBy 27 = .ok (.if_icmp .ge 73, 3) := by decide +kernel
theorem dX6_changeBy_30 : decode cX6_changeBy 30 = .ok (.aload_n 0, 1) := by decide +kernel
theorem dX6_changeBy_31 : decode cX6_changeBy 31 = .ok (.iload 5, 2) := by decide +kernel
theorem dX6_changeBy_33 : decode cX6_changeBy 33 = .ok (.bipush 16, 2) := by decide +kernel
theorem dX6_changeBy_35 : decode cX6_changeBy 35 = .ok (.irem, 1) := by decide +kernel
theorem dX6_changeBy_36 : decode cX6_changeBy 36 = .ok (.iload 5, 2) := by decide +kernel
theorem dX6_changeBy_38 : decode cX6_changeBy 38 = .ok (.bipush 16, 2) := by decide +kernel
theorem dX6_changeBy_40 : decode cX6_changeBy 40 = .ok (.idiv, 1) := by decide +kernel
theorem dX6_changeBy_41 : decode cX6_changeBy 41 = .ok (.aload_n 0, 1) := by decide +kernel
theorem dX6_changeBy_42 : decode cX6_changeBy 42 = .ok (.getfield 31, 3) := by decide +kernel
theorem dX6_changeBy_45 : decode cX6_changeBy 45 = .ok (.iload_n 1, 1) := by decide +kernel
theorem dX6_changeBy_46 : decode cX6_changeBy 46 = .ok (.iaload, 1) := by decide +kernel
theorem dX6_changeBy_47 : decode cX6_changeBy 47 = .ok (.invokevirtual 201, 3) := by decide +kernel
theorem dX6_changeBy_50 : decode cX6_changeBy 50 = .ok (.istore 6, 2) := by decide +kernel
theorem dX6_changeBy_52 : decode cX6_changeBy 52 = .ok (.iload 6, 2) := by decide +kernel
theorem dX6_changeBy_54 : decode cX6_changeBy 54 = .ok (.ifCond .le 40, 3) := by decide +kernel
theorem dX6_changeBy_57 : decode cX6_changeBy 57 = .ok (.iload 4, 2) := by decide +kernel
theorem dX6_changeBy_59 : decode cX6_changeBy 59 = .ok (.iload_n 2, 1) := by decide +kernel
theorem dX6_changeBy_60 : decode cX6_changeBy 60 = .ok (.if_icmp .ne 31, 3) := by decide +kernel
theorem dX6_changeBy_63 : decode cX6_changeBy 63 = .ok (.iload_n 3, 1) := by decide +kernel
theorem dX6_changeBy_64 : decode cX6_changeBy 64 = .ok (.ifCond .ne 11, 3) := by decide +kernel
theorem dX6_changeBy_67 : decode cX6_changeBy 67 = .ok (.iload 5, 2) := by decide +kernel
theorem dX6_changeBy_69 : decode cX6_changeBy 69 = .ok (.bipush 16, 2) := by decide +kernel
theorem dX6_changeBy_71 : decode cX6_changeBy 71 = .ok (.idiv, 1) := by decide +kernel
theorem dX6_changeBy_72 : decode cX6_changeBy 72 = .ok (.goto 18, 3) := by decide +kernel
theorem dX6_changeBy_75 : decode cX6_changeBy 75 = .ok (.iload_n 3, 1) := by decide +kernel
theorem dX6_changeBy_76 : decode cX6_changeBy 76 = .ok (.iconst 1, 1) := by decide +kernel
theorem dX6_changeBy_77 : decode cX6_changeBy 77 = .ok (.if_icmp .ne 11, 3) := by decide +kernel
theorem dX6_changeBy_80 : decode cX6_changeBy 80 = .ok (.iload 5, 2) := by decide +kernel
theorem dX6_changeBy_82 : decode cX6_changeBy 82 = .ok (.bipush 16, 2) := by decide +kernel
theorem dX6_changeBy_84 : decode cX6_changeBy 84 = .ok (.irem, 1) := by decide +kernel
theorem dX6_changeBy_85 : decode cX6_changeBy 85 = .ok (.goto 5, 3) := by decide +kernel
theorem dX6_changeBy_88 : decode cX6_changeBy 88 = .ok (.iload 6, 2) := by decide +kernel
theorem dX6_changeBy_90 : decode cX6_changeBy 90 = .ok (.ireturn, 1) := by decide +kernel
theorem dX6_changeBy_91 : decode cX6_changeBy 91 = .ok (.iinc 4 1, 3) := by decide +kernel
theorem dX6_changeBy_94 : decode cX6_changeBy 94 = .ok (.iinc 5 1, 3) := by decide +kernel
theorem dX6_changeBy_97 : decode cX6_changeBy 97 = .ok (.goto (-81), 3) := by decide +kernel
theorem dX6_changeBy_100 : decode cX6_changeBy 100 = .ok (.iconst (-1), 1) := by decide +kernel
theorem dX6_changeBy_101 : decode cX6_changeBy 101 = .ok (.ireturn, 1) := by decide +kernel
theorem dX6_change_0 : decode cX6_change 0 = .ok (.aload_n 0, 1) := by decide +kernel
theorem dX6_change_1 : decode cX6_change 1 = .ok (.iload_n 1, 1) := by decide +kernel
theorem dX6_change_2 : decode cX6_change 2 = .ok (.invokevirtual 106, 3) := by decide +kernel
theorem dX6_change_5 : decode cX6_change 5 = .ok (.ifCond .eq 27, 3) := by decide +kernel
theorem dX6_change_8 : decode cX6_change 8 = .ok (.iload_n 2, 1) := by decide +kernel
theorem dX6_change_9 : decode cX6_change 9 = .ok (.i2l, 1) := by decide +kernel
theorem dX6_change_10 : decode cX6_change 10 = .ok (.lconst 0, 1) := by decide +kernel
theorem dX6_change_11 : decode cX6_change 11 = .ok (.ldc2_w 219, 3) := by decide +kernel
theorem dX6_change_14 : decode cX6_change 14 = .ok (.invokestatic 51, 3) := by decide +kernel
theorem dX6_change_17 : decode cX6_change 17 = .ok (.ifCond .eq 15, 3) := by decide +kernel
theorem dX6_change_20 : decode cX6_change 20 = .ok (.iload_n 3, 1) := by decide +kernel
theorem dX6_change_21 : decode cX6_change 21 = .ok (.i2l, 1) := by decide +kernel
theorem dX6_change_22 : decode cX6_change 22 = .ok (.lconst 0, 1) := by decide +kernel
theorem dX6_change_23 : decode cX6_change 23 = .ok (.ldc2_w 64, 3) := by decide +kernel
theorem dX6_change_26 : decode cX6_change 26 = .ok (.invokestatic 51, 3) := by decide +kernel
theorem dX6_change_29 : decode cX6_change 29 = .ok (.ifCond .ne 6, 3) := by decide +kernel
theorem dX6_change_32 : decode cX6_change 32 = .ok (.bipush (-2), 2) := by decide +kernel
theorem dX6_change_34 : decode cX6_change 34 = .ok (.ireturn, 1) := by decide +kernel
theorem dX6_change_35 : decode cX6_change 35 = .ok (.aload_n 0, 1) := by decide +kernel
theorem dX6_change_36 : decode cX6_change 36 = .ok (.iload_n 1, 1) := by decide +kernel
theorem dX6_change_37 : decode cX6_change 37 = .ok (.invokevirtual 113, 3) := by decide +kernel
theorem dX6_change_40 : decode cX6_change 40 = .ok (.ifCond .eq 13, 3) := by decide +kernel
theorem dX6_change_43 : decode cX6_change 43 = .ok (.aload_n 0, 1) := by decide +kernel
theorem dX6_change_44 : decode cX6_change 44 = .ok (.iload_n 1, 1) := by decide +kernel
theorem dX6_change_45 : decode cX6_change 45 = .ok (.iload_n 2, 1) := by decide +kernel
theorem dX6_change_46 : decode cX6_change 46 = .ok (.iload_n 3, 1) := by decide +kernel
theorem dX6_change_47 : decode cX6_change 47 = .ok (.invokevirtual 221, 3) := by decide +kernel
theorem dX6_change_50 : decode cX6_change 50 = .ok (.goto 5, 3) := by decide +kernel
theorem dX6_change_53 : decode cX6_change 53 = .ok (.bipush (-3), 2) := by decide +kernel
theorem dX6_change_55 : decode cX6_change 55 = .ok (.ireturn, 1) := by decide +kernel
theorem dX6_allowedIn_0 : decode cX6_allowedIn 0 = .ok (.iconst 3, 1) := by decide +kernel
theorem dX6_allowedIn_1 : decode cX6_allowedIn 1 = .ok (.istore_n 2, 1) := by decide +kernel
theorem dX6_allowedIn_2 : decode cX6_allowedIn 2 = .ok (.iconst 0, 1) := by decide +kernel
theorem dX6_allowedIn_3 : decode cX6_allowedIn 3 = .ok (.istore_n 3, 1) := by decide +kernel
theorem dX6_allowedIn_4 : decode cX6_allowedIn 4 = .ok (.iload_n 3, 1) := by decide +kernel
theorem dX6_allowedIn_5 : decode cX6_allowedIn 5 = .ok (.aload_n 0, 1) := by decide +kernel
theorem dX6_allowedIn_6 : decode cX6_allowedIn 6 = .ok (.getfield 89, 3) := by decide +kernel
theorem dX6_allowedIn_9 : decode cX6_allowedIn 9 = .ok (.if_icmp .ge 42, 3) := by decide +kernel
theorem dX6_allowedIn_12 : decode cX6_allowedIn 12 = .ok (.aload_n 0, 1) := by decide +kernel
theorem dX6_allowedIn_13 : decode cX6_allowedIn 13 = .ok (.iload_n 3, 1) := by decide +kernel
theorem dX6_allowedIn_14 : decode cX6_allowedIn 14 = .ok (.invokevirtual 101, 3) := by decide +kernel
theorem dX6_allowedIn_17 : decode cX6_allowedIn 17 = .ok (.ifCond .eq 26, 3) := by decide +kernel
theorem dX6_allowedIn_20 : decode cX6_allowedIn 20 = .ok (.aload_n 0, 1) := by decide +kernel
theorem dX6_allowedIn_21 : decode cX6_allowedIn 21 = .ok (.getfield 31, 3) := by decide +kernel
theorem dX6_allowedIn_24 : decode cX6_allowedIn 24 = .ok (.iload_n 3, 1) := by decide +kernel
theorem dX6_allowedIn_25 : decode cX6_allowedIn 25 = .ok (.iaload, 1) := by decide +kernel
theorem dX6_allowedIn_26 : decode cX6_allowedIn 26 = .ok (.iload_n 1, 1) := by decide +kernel
theorem dX6_allowedIn_27 : decode cX6_allowedIn 27 = .ok (.if_icmp .ge 16, 3) := by decide +kernel
theorem dX6_allowedIn_30 : decode cX6_allowedIn 30 = .ok (.aload_n 0, 1) := by decide +kernel
theorem dX6_allowedIn_31 : decode cX6_allowedIn 31 = .ok (.getfield 28, 3) := by decide +kernel
theorem dX6_allowedIn_34 : decode cX6_allowedIn 34 = .ok (.iload_n 3, 1) := by decide +kernel
theorem dX6_allowedIn_35 : decode cX6_allowedIn 35 = .ok (.iaload, 1) := by decide +kernel
theorem dX6_allowedIn_36 : decode cX6_allowedIn 36 = .ok (.iload_n 2, 1) := by decide +kernel
theorem dX6_allowedIn_37 : decode cX6_allowedIn 37 = .ok (.invokestatic 173, 3) := by decide +kernel
theorem dX6_allowedIn_40 : decode cX6_allowedIn 40 = .ok (.goto 4, 3) := by decide +kernel
theorem dX6_allowedIn_43 : decode cX6_allowedIn 43 = .ok (.iload_n 2, 1) := by decide +kernel
theorem dX6_allowedIn_44 : decode cX6_allowedIn 44 = .ok (.istore_n 2, 1) := by decide +kernel
theorem dX6_allowedIn_45 : decode cX6_allowedIn 45 = .ok (.iinc 3 1, 3) := by decide +kernel
theorem dX6_allowedIn_48 : decode cX6_allowedIn 48 = .ok (.goto (-44), 3) := by decide +kernel
theorem dX6_allowedIn_51 : decode cX6_allowedIn 51 = .ok (.iload_n 2, 1) := by decide +kernel
theorem dX6_allowedIn_52 : decode cX6_allowedIn 52 = .ok (.ireturn, 1) := by decide +kernel
theorem dX6_allowed_0 : decode cX6_allowed 0 = .ok (.aload_n 0, 1) := by decide +kernel
theorem dX6_allowed_1 : decode cX6_allowed 1 = .ok (.iload_n 1, 1) := by decide +kernel
theorem dX6_allowed_2 : decode cX6_allowed 2 = .ok (.invokevirtual 146, 3) := by decide +kernel
theorem dX6_allowed_5 : decode cX6_allowed 5 = .ok (.ifCond .eq 11, 3) := by decide +kernel
theorem dX6_allowed_8 : decode cX6_allowed 8 = .ok (.aload_n 0, 1) := by decide +kernel
theorem dX6_allowed_9 : decode cX6_allowed 9 = .ok (.iload_n 1, 1) := by decide +kernel
theorem dX6_allowed_10 : decode cX6_allowed 10 = .ok (.invokevirtual 224, 3) := by decide +kernel
theorem dX6_allowed_13 : decode cX6_allowed 13 = .ok (.goto 5, 3) := by decide +kernel
theorem dX6_allowed_16 : decode cX6_allowed 16 = .ok (.bipush (-2), 2) := by decide +kernel
theorem dX6_allowed_18 : decode cX6_allowed 18 = .ok (.ireturn, 1) := by decide +kernel
theorem dX6_firstBy_0 : decode cX6_firstBy 0 = .ok (.iconst 0, 1) := by decide +kernel
theorem dX6_firstBy_1 : decode cX6_firstBy 1 = .ok (.istore_n 2, 1) := by decide +kernel
theorem dX6_firstBy_2 : decode cX6_firstBy 2 = .ok (.iload_n 2, 1) := by decide +kernel
theorem dX6_firstBy_3 : decode cX6_firstBy 3 = .ok (.bipush 16, 2) := by decide +kernel
theorem dX6_firstBy_5 : decode cX6_firstBy 5 = .ok (.aload_n 0, 1) := by decide +kernel
theorem dX6_firstBy_6 : decode cX6_firstBy 6 = .ok (.getfield 92, 3) := by decide +kernel
theorem dX6_firstBy_9 : decode cX6_firstBy 9 = .ok (.iconst 1, 1) := by decide +kernel
theorem dX6_firstBy_10 : decode cX6_firstBy 10 = .ok (.iadd, 1) := by decide +kernel
theorem dX6_firstBy_11 : decode cX6_firstBy 11 = .ok (.imul, 1) := by decide +kernel
theorem dX6_firstBy_12 : decode cX6_firstBy 12 = .ok (.if_icmp .ge 98, 3) := by decide +kernel
theorem dX6_firstBy_15 : decode cX6_firstBy 15 = .ok (.iconst 0, 1) := by decide +kernel
theorem dX6_firstBy_16 : decode cX6_firstBy 16 = .ok (.istore_n 3, 1) := by decide +kernel
theorem dX6_firstBy_17 : decode cX6_firstBy 17 = .ok (.iload_n 3, 1) := by decide +kernel
theorem dX6_firstBy_18 : decode cX6_firstBy 18 = .ok (.aload_n 0, 1) := by decide +kernel
theorem dX6_firstBy_19 : decode cX6_firstBy 19 = .ok (.getfield 89, 3) := by decide +kernel
theorem dX6_firstBy_22 : decode cX6_firstBy 22 = .ok (.if_icmp .ge 82, 3) := by decide +kernel
theorem dX6_firstBy_25 : decode cX6_firstBy 25 = .ok (.aload_n 0, 1) := by decide +kernel
theorem dX6_firstBy_26 : decode cX6_firstBy 26 = .ok (.iload_n 3, 1) := by decide +kernel
theorem dX6_firstBy_27 : decode cX6_firstBy 27 = .ok (.invokevirtual 113, 3) := by decide +kernel
theorem dX6_firstBy_30 : decode cX6_firstBy 30 = .ok (.ifCond .eq 68, 3) := by decide +kernel
theorem dX6_firstBy_33 : decode cX6_firstBy 33 = .ok (.aload_n 0, 1) := by decide +kernel
theorem dX6_firstBy_34 : decode cX6_firstBy 34 = .ok (.getfield 31, 3) := by decide +kernel
theorem dX6_firstBy_37 : decode cX6_firstBy 37 = .ok (.iload_n 3, 1) := by decide +kernel
theorem dX6_firstBy_38 : decode cX6_firstBy 38 = .ok (.iaload, 1) := by decide +kernel
theorem dX6_firstBy_39 : decode cX6_firstBy 39 = .ok (.iload_n 2, 1) := by decide +kernel
theorem dX6_firstBy_40 : decode cX6_firstBy 40 = .ok (.bipush 16, 2) := by decide +kernel
theorem dX6_firstBy_42 : decode cX6_firstBy 42 = .ok (.idiv, 1) := by decide +kernel
theorem dX6_firstBy_43 : decode cX6_firstBy 43 = .ok (.if_icmp .ge 55, 3) := by decide +kernel
theorem dX6_firstBy_46 : decode cX6_firstBy 46 = .ok (.aload_n 0, 1) := by decide +kernel
theorem dX6_firstBy_47 : decode cX6_firstBy 47 = .ok (.iload_n 2, 1) := by decide +kernel
theorem dX6_firstBy_48 : decode cX6_firstBy 48 = .ok (.bipush 16, 2) := by decide +kernel
theorem dX6_firstBy_50 : decode cX6_firstBy 50 = .ok (.irem, 1) := by decide +kernel
theorem dX6_firstBy_51 : decode cX6_firstBy 51 = .ok (.iload_n 2, 1) := by decide +kernel
theorem dX6_firstBy_52 : decode cX6_firstBy 52 = .ok (.bipush 16, 2) := by decide +kernel
theorem dX6_firstBy_54 : decode cX6_firstBy 54 = .ok (.idiv, 1) := by decide +kernel
theorem dX6_firstBy_55 : decode cX6_firstBy 55 = .ok (.aload_n 0, 1) := by decide +kernel
theorem dX6_firstBy_56 : decode cX6_firstBy 56 = .ok (.getfield 31, 3) := by decide +kernel
theorem dX6_firstBy_59 : decode cX6_firstBy 59 = .ok (.iload_n 3, 1) := by decide +kernel
theorem dX6_firstBy_60 : decode cX6_firstBy 60 = .ok (.iaload, 1) := by decide +kernel
theorem dX6_firstBy_61 : decode cX6_firstBy 61 = .ok (.invokevirtual 201, 3) := by decide +kernel
theorem dX6_firstBy_64 : decode cX6_firstBy 64 = .ok (.aload_n 0, 1) := by decide +kernel
theorem dX6_firstBy_65 : decode cX6_firstBy 65 = .ok (.getfield 28, 3) := by decide +kernel
theorem dX6_firstBy_68 : decode cX6_firstBy 68 = .ok (.iload_n 3, 1) := by decide +kernel
theorem dX6_firstBy_69 : decode cX6_firstBy 69 = .ok (.iaload, 1) := by decide +kernel
theorem dX6_firstBy_70 : decode cX6_firstBy 70 = .ok (.if_icmp .le 28, 3) := by decide +kernel
theorem dX6_firstBy_73 : decode cX6_firstBy 73 = .ok (.iload_n 1, 1) := by decide +kernel
theorem dX6_firstBy_74 : decode cX6_firstBy 74 = .ok (.ifCond .ne 10, 3) := by decide +kernel
theorem dX6_firstBy_77 : decode cX6_firstBy 77 = .ok (.iload_n 2, 1) := by decide +kernel
theorem dX6_firstBy_78 : decode cX6_firstBy 78 = .ok (.bipush 16, 2) := by decide +kernel
theorem dX6_firstBy_80 : decode cX6_firstBy 80 = .ok (.idiv, 1) := by decide +kernel
theorem dX6_firstBy_81 : decode cX6_firstBy 81 = .ok (.goto 16, 3) := by decide +kernel
theorem dX6_firstBy_84 : decode cX6_firstBy 84 = .ok (.iload_n 1, 1) := by decide +kernel
theorem dX6_firstBy_85 : decode cX6_firstBy 85 = .ok (.iconst 1, 1) := by decide +kernel
theorem dX6_firstBy_86 : decode cX6_firstBy 86 = .ok (.if_icmp .ne 10, 3) := by decide +kernel
theorem dX6_firstBy_89 : decode cX6_firstBy 89 = .ok (.iload_n 2, 1) := by decide +kernel
theorem dX6_firstBy_90 : decode cX6_firstBy 90 = .ok (.bipush 16, 2) := by decide +kernel
theorem dX6_firstBy_92 : decode cX6_firstBy 92 = .ok (.irem, 1) := by decide +kernel
theorem dX6_firstBy_93 : decode cX6_firstBy 93 = .ok (.goto 4, 3) := by decide +kernel
theorem dX6_firstBy_96 : decode cX6_firstBy 96 = .ok (.iload_n 3, 1) := by decide +kernel
theorem dX6_firstBy_97 : decode cX6_firstBy 97 = .ok (.ireturn, 1) := by decide +kernel
theorem dX6_firstBy_98 : decode cX6_firstBy 98 = .ok (.iinc 3 1, 3) := by decide +kernel
theorem dX6_firstBy_101 : decode cX6_firstBy 101 = .ok (.goto (-84), 3) := by decide +kernel
theorem dX6_firstBy_104 : decode cX6_firstBy 104 = .ok (.iinc 2 1, 3) := by decide +kernel
theorem dX6_firstBy_107 : decode cX6_firstBy 107 = .ok (.goto (-105), 3) := by decide +kernel
theorem dX6_firstBy_110 : decode cX6_firstBy 110 = .ok (.iconst (-1), 1) := by decide +kernel
theorem dX6_firstBy_111 : decode cX6_firstBy 111 = .ok (.ireturn, 1) := by decide +kernel
theorem dX6_first_0 : decode cX6_first 0 = .ok (.iload_n 1, 1) := by decide +kernel
theorem dX6_first_1 : decode cX6_first 1 = .ok (.i2l, 1) := by decide +kernel
theorem dX6_first_2 : decode cX6_first 2 = .ok (.lconst 0, 1) := by decide +kernel
theorem dX6_first_3 : decode cX6_first 3 = .ok (.ldc2_w 64, 3) := by decide +kernel
theorem dX6_first_6 : decode cX6_first 6 = .ok (.invokestatic 51, 3) := by decide +kernel
theorem dX6_first_9 : decode cX6_first 9 = .ok (.ifCond .eq 11, 3) := by decide +kernel
theorem dX6_first_12 : decode cX6_first 12 = .ok (.aload_n 0, 1) := by decide +kernel
theorem dX6_first_13 : decode cX6_first 13 = .ok (.iload_n 1, 1) := by decide +kernel
theorem dX6_first_14 : decode cX6_first 14 = .ok (.invokevirtual 227, 3) := by decide +kernel
theorem dX6_first_17 : decode cX6_first 17 = .ok (.goto 5, 3) := by decide +kernel
theorem dX6_first_20 : decode cX6_first 20 = .ok (.bipush (-2), 2) := by decide +kernel
theorem dX6_first_22 : decode cX6_first 22 = .ok (.ireturn, 1) := by decide +kernel
theorem dX6_looks_0 : decode cX6_looks 0 = .ok (.iconst 0, 1) := by decide +kernel
theorem dX6_looks_1 : decode cX6_looks 1 = .ok (.istore_n 1, 1) := by decide +kernel
theorem dX6_looks_2 : decode cX6_looks 2 = .ok (.iload_n 1, 1) := by decide +kernel
theorem dX6_looks_3 : decode cX6_looks 3 = .ok (.aload_n 0, 1) := by decide +kernel
theorem dX6_looks_4 : decode cX6_looks 4 = .ok (.getfield 89, 3) := by decide +kernel
theorem dX6_looks_7 : decode cX6_looks 7 = .ok (.if_icmp .ge 32, 3) := by decide +kernel
theorem dX6_looks_10 : decode cX6_looks 10 = .ok (.aload_n 0, 1) := by decide +kernel
theorem dX6_looks_11 : decode cX6_looks 11 = .ok (.getfield 48, 3) := by decide +kernel
theorem dX6_looks_14 : decode cX6_looks 14 = .ok (.iload_n 1, 1) := by decide +kernel
theorem dX6_looks_15 : decode cX6_looks 15 = .ok (.aload_n 0, 1) := by decide +kernel
theorem dX6_looks_16 : decode cX6_looks 16 = .ok (.iload_n 1, 1) := by decide +kernel
theorem dX6_looks_17 : decode cX6_looks 17 = .ok (.invokevirtual 113, 3) := by decide +kernel
theorem dX6_looks_20 : decode cX6_looks 20 = .ok (.ifCond .eq 11, 3) := by decide +kernel
theorem dX6_looks_23 : decode cX6_looks 23 = .ok (.aload_n 0, 1) := by decide +kernel
theorem dX6_looks_24 : decode cX6_looks 24 = .ok (.iload_n 1, 1) := by decide +kernel
theorem dX6_looks_25 : decode cX6_looks 25 = .ok (.invokevirtual 185, 3) := by decide +kernel
theorem dX6_looks_28 : decode cX6_looks 28 = .ok (.goto 4, 3) := by decide +kernel
theorem dX6_looks_31 : decode cX6_looks 31 = .ok (.iconst 0, 1) := by decide +kernel
theorem dX6_looks_32 : decode cX6_looks 32 = .ok (.iastore, 1) := by decide +kernel
theorem dX6_looks_33 : decode cX6_looks 33 = .ok (.iinc 1 1, 3) := by decide +kernel
theorem dX6_looks_36 : decode cX6_looks 36 = .ok (.goto (-34), 3) := by decide +kernel
theorem dX6_looks_39 : decode cX6_looks 39 = .ok (.return_, 1) := by decide +kernel
theorem dX6_manyHold_0 : decode cX6_manyHold 0 = .ok (.iconst 0, 1) := by decide +kernel
theorem dX6_manyHold_1 : decode cX6_manyHold 1 = .ok (.istore_n 1, 1) := by decide +kernel
theorem dX6_manyHold_2 : decode cX6_manyHold 2 = .ok (.iconst 0, 1) := by decide +kernel
theorem dX6_manyHold_3 : decode cX6_manyHold 3 = .ok (.istore_n 2, 1) := by decide +kernel
theorem dX6_manyHold_4 : decode cX6_manyHold 4 = .ok (.iload_n 2, 1) := by decide +kernel
theorem dX6_manyHold_5 : decode cX6_manyHold 5 = .ok (.aload_n 0, 1) := by decide +kernel
theorem dX6_manyHold_6 : decode cX6_manyHold 6 = .ok (.getfield 89, 3) := by decide +kernel
theorem dX6_manyHold_9 : decode cX6_manyHold 9 = .ok (.if_icmp .ge 47, 3) := by decide +kernel
theorem dX6_manyHold_12 : decode cX6_manyHold 12 = .ok (.iload_n 1, 1) := by decide +kernel
theorem dX6_manyHold_13 : decode cX6_manyHold 13 = .ok (.aload_n 0, 1) := by decide +kernel
theorem dX6_manyHold_14 : decode cX6_manyHold 14 = .ok (.iload_n 2, 1) := by decide +kernel
theorem dX6_manyHold_15 : decode cX6_manyHold 15 = .ok (.invokevirtual 113, 3) := by decide +kernel
theorem dX6_manyHold_18 : decode cX6_manyHold 18 = .ok (.ifCond .eq 29, 3) := by decide +kernel
theorem dX6_manyHold_21 : decode cX6_manyHold 21 = .ok (.iload_n 2, 1) := by decide +kernel
theorem dX6_manyHold_22 : decode cX6_manyHold 22 = .ok (.aload_n 0, 1) := by decide +kernel
theorem dX6_manyHold_23 : decode cX6_manyHold 23 = .ok (.getfield 44, 3) := by decide +kernel
theorem dX6_manyHold_26 : decode cX6_manyHold 26 = .ok (.if_icmp .eq 21, 3) := by decide +kernel
theorem dX6_manyHold_29 : decode cX6_manyHold 29 = .ok (.aload_n 0, 1) := by decide +kernel
theorem dX6_manyHold_30 : decode cX6_manyHold 30 = .ok (.iload_n 2, 1) := by decide +kernel
theorem dX6_manyHold_31 : decode cX6_manyHold 31 = .ok (.aload_n 0, 1) := by decide +kernel
theorem dX6_manyHold_32 : decode cX6_manyHold 32 = .ok (.getfield 48, 3) := by decide +kernel
theorem dX6_manyHold_35 : decode cX6_manyHold 35 = .ok (.iload_n 2, 1) := by decide +kernel
theorem dX6_manyHold_36 : decode cX6_manyHold 36 = .ok (.iaload, 1) := by decide +kernel
theorem dX6_manyHold_37 : decode cX6_manyHold 37 = .ok (.invokevirtual 213, 3) := by decide +kernel
theorem dX6_manyHold_40 : decode cX6_manyHold 40 = .ok (.ifCond .eq 7, 3) := by decide +kernel
theorem dX6_manyHold_43 : decode cX6_manyHold 43 = .ok (.iconst 1, 1) := by decide +kernel
theorem dX6_manyHold_44 : decode cX6_manyHold 44 = .ok (.goto 4, 3) := by decide +kernel
theorem dX6_manyHold_47 : decode cX6_manyHold 47 = .ok (.iconst 0, 1) := by decide +kernel
theorem dX6_manyHold_48 : decode cX6_manyHold 48 = .ok (.iadd, 1) := by decide +kernel
theorem dX6_manyHold_49 : decode cX6_manyHold 49 = .ok (.istore_n 1, 1) := by decide +kernel
theorem dX6_manyHold_50 : decode cX6_manyHold 50 = .ok (.iinc 2 1, 3) := by decide +kernel
theorem dX6_manyHold_53 : decode cX6_manyHold 53 = .ok (.goto (-49), 3) := by decide +kernel
theorem dX6_manyHold_56 : decode cX6_manyHold 56 = .ok (.iload_n 1, 1) := by decide +kernel
theorem dX6_manyHold_57 : decode cX6_manyHold 57 = .ok (.ireturn, 1) := by decide +kernel
theorem dX6_manySeals_0 : decode cX6_manySeals 0 = .ok (.iconst 0, 1) := by decide +kernel
theorem dX6_manySeals_1 : decode cX6_manySeals 1 = .ok (.istore_n 1, 1) := by decide +kernel
theorem dX6_manySeals_2 : decode cX6_manySeals 2 = .ok (.iconst 0, 1) := by decide +kernel
theorem dX6_manySeals_3 : decode cX6_manySeals 3 = .ok (.istore_n 2, 1) := by decide +kernel
theorem dX6_manySeals_4 : decode cX6_manySeals 4 = .ok (.iload_n 2, 1) := by decide +kernel
theorem dX6_manySeals_5 : decode cX6_manySeals 5 = .ok (.aload_n 0, 1) := by decide +kernel
theorem dX6_manySeals_6 : decode cX6_manySeals 6 = .ok (.getfield 89, 3) := by decide +kernel
theorem dX6_manySeals_9 : decode cX6_manySeals 9 = .ok (.if_icmp .ge 25, 3) := by decide +kernel
theorem dX6_manySeals_12 : decode cX6_manySeals 12 = .ok (.iload_n 1, 1) := by decide +kernel
theorem dX6_manySeals_13 : decode cX6_manySeals 13 = .ok (.aload_n 0, 1) := by decide +kernel
theorem dX6_manySeals_14 : decode cX6_manySeals 14 = .ok (.iload_n 2, 1) := by decide +kernel
theorem dX6_manySeals_15 : decode cX6_manySeals 15 = .ok (.invokevirtual 113, 3) := by decide +kernel
theorem dX6_manySeals_18 : decode cX6_manySeals 18 = .ok (.ifCond .eq 7, 3) := by decide +kernel
theorem dX6_manySeals_21 : decode cX6_manySeals 21 = .ok (.iconst 1, 1) := by decide +kernel
theorem dX6_manySeals_22 : decode cX6_manySeals 22 = .ok (.goto 4, 3) := by decide +kernel
theorem dX6_manySeals_25 : decode cX6_manySeals 25 = .ok (.iconst 0, 1) := by decide +kernel
theorem dX6_manySeals_26 : decode cX6_manySeals 26 = .ok (.iadd, 1) := by decide +kernel
theorem dX6_manySeals_27 : decode cX6_manySeals 27 = .ok (.istore_n 1, 1) := by decide +kernel
theorem dX6_manySeals_28 : decode cX6_manySeals 28 = .ok (.iinc 2 1, 3) := by decide +kernel
theorem dX6_manySeals_31 : decode cX6_manySeals 31 = .ok (.goto (-27), 3) := by decide +kernel
theorem dX6_manySeals_34 : decode cX6_manySeals 34 = .ok (.iload_n 1, 1) := by decide +kernel
theorem dX6_manySeals_35 : decode cX6_manySeals 35 = .ok (.ireturn, 1) := by decide +kernel
theorem dX6_holdingBy_0 : decode cX6_holdingBy 0 = .ok (.aload_n 0, 1) := by decide +kernel
theorem dX6_holdingBy_1 : decode cX6_holdingBy 1 = .ok (.invokevirtual 230, 3) := by decide +kernel
theorem dX6_holdingBy_4 : decode cX6_holdingBy 4 = .ok (.iload_n 1, 1) := by decide +kernel
theorem dX6_holdingBy_5 : decode cX6_holdingBy 5 = .ok (.ifCond .ne 10, 3) := by decide +kernel
theorem dX6_holdingBy_8 : decode cX6_holdingBy 8 = .ok (.aload_n 0, 1) := by decide +kernel
theorem dX6_holdingBy_9 : decode cX6_holdingBy 9 = .ok (.invokevirtual 233, 3) := by decide +kernel
theorem dX6_holdingBy_12 : decode cX6_holdingBy 12 = .ok (.goto 7, 3) := by decide +kernel
theorem dX6_holdingBy_15 : decode cX6_holdingBy 15 = .ok (.aload_n 0, 1) := by decide +kernel
theorem dX6_holdingBy_16 : decode cX6_holdingBy 16 = .ok (.invokevirtual 236, 3) := by decide +kernel
theorem dX6_holdingBy_19 : decode cX6_holdingBy 19 = .ok (.ireturn, 1) := by decide +kernel
theorem dX6_holding_0 : decode cX6_holding 0 = .ok (.iload_n 1, 1) := by decide +kernel
theorem dX6_holding_1 : decode cX6_holding 1 = .ok (.invokestatic 179, 3) := by decide +kernel
theorem dX6_holding_4 : decode cX6_holding 4 = .ok (.ifCond .eq 11, 3) := by decide +kernel
theorem dX6_holding_7 : decode cX6_holding 7 = .ok (.aload_n 0, 1) := by decide +kernel
theorem dX6_holding_8 : decode cX6_holding 8 = .ok (.iload_n 1, 1) := by decide +kernel
theorem dX6_holding_9 : decode cX6_holding 9 = .ok (.invokevirtual 239, 3) := by decide +kernel
theorem dX6_holding_12 : decode cX6_holding 12 = .ok (.goto 5, 3) := by decide +kernel
theorem dX6_holding_15 : decode cX6_holding 15 = .ok (.bipush (-2), 2) := by decide +kernel
theorem dX6_holding_17 : decode cX6_holding 17 = .ok (.ireturn, 1) := by decide +kernel
theorem dX6_betterBy_0 : decode cX6_betterBy 0 = .ok (.iconst (-1), 1) := by decide +kernel
theorem dX6_betterBy_1 : decode cX6_betterBy 1 = .ok (.istore_n 2, 1) := by decide +kernel
theorem dX6_betterBy_2 : decode cX6_betterBy 2 = .ok (.iconst (-1), 1) := by decide +kernel
theorem dX6_betterBy_3 : decode cX6_betterBy 3 = .ok (.istore_n 3, 1) := by decide +kernel
theorem dX6_betterBy_4 : decode cX6_betterBy 4 = .ok (.aload_n 0, 1) := by decide +kernel
theorem dX6_betterBy_5 : decode cX6_betterBy 5 = .ok (.invokevirtual 230, 3) := by decide +kernel
theorem dX6_betterBy_8 : decode cX6_betterBy 8 = .ok (.iconst 0, 1) := by decide +kernel
theorem dX6_betterBy_9 : decode cX6_betterBy 9 = .ok (.istore 4, 2) := by decide +kernel
theorem dX6_betterBy_11 : decode cX6_betterBy 11 = .ok (.iload 4, 2) := by decide +kernel
theorem dX6_betterBy_13 : decode cX6_betterBy 13 = .ok (.aload_n 0, 1) := by decide +kernel
theorem dX6_betterBy_14 : decode cX6_betterBy 14 = .ok (.getfield 89, 3) := by decide +kernel
theorem dX6_betterBy_17 : decode cX6_betterBy 17 = .ok (.if_icmp .ge 41, 3) := by decide +kernel
theorem dX6_betterBy_20 : decode cX6_betterBy 20 = .ok (.aload_n 0, 1) := by decide +kernel
theorem dX6_betterBy_21 : decode cX6_betterBy 21 = .ok (.iload 4, 2) := by decide +kernel
theorem dX6_betterBy_23 : decode cX6_betterBy 23 = .ok (.putfield 44, 3) := by decide +kernel
theorem dX6_betterBy_26 : decode cX6_betterBy 26 = .ok (.aload_n 0, 1) := by decide +kernel
theorem dX6_betterBy_27 : decode cX6_betterBy 27 = .ok (.invokevirtual 233, 3) := by decide +kernel
theorem dX6_betterBy_30 : decode cX6_betterBy 30 = .ok (.istore 5, 2) := by decide +kernel
theorem dX6_betterBy_32 : decode cX6_betterBy 32 = .ok (.iload 5, 2) := by decide +kernel
theorem dX6_betterBy_34 : decode cX6_betterBy 34 = .ok (.iload_n 3, 1) := by decide +kernel
theorem dX6_betterBy_35 : decode cX6_betterBy 35 = .ok (.if_icmp .le 8, 3) := by decide +kernel
theorem dX6_betterBy_38 : decode cX6_betterBy 38 = .ok (.iload 4, 2) := by decide +kernel
theorem dX6_betterBy_40 : decode cX6_betterBy 40 = .ok (.goto 4, 3) := by decide +kernel
theorem dX6_betterBy_43 : decode cX6_betterBy 43 = .ok (.iload_n 2, 1) := by decide +kernel
theorem dX6_betterBy_44 : decode cX6_betterBy 44 = .ok (.istore_n 2, 1) := by decide +kernel
theorem dX6_betterBy_45 : decode cX6_betterBy 45 = .ok (.iload 5, 2) := by decide +kernel
theorem dX6_betterBy_47 : decode cX6_betterBy 47 = .ok (.iload_n 3, 1) := by decide +kernel
theorem dX6_betterBy_48 : decode cX6_betterBy 48 = .ok (.invokestatic 204, 3) := by decide +kernel
theorem dX6_betterBy_51 : decode cX6_betterBy 51 = .ok (.istore_n 3, 1) := by decide +kernel
theorem dX6_betterBy_52 : decode cX6_betterBy 52 = .ok (.iinc 4 1, 3) := by decide +kernel
theorem dX6_betterBy_55 : decode cX6_betterBy 55 = .ok (.goto (-44), 3) := by decide +kernel
theorem dX6_betterBy_58 : decode cX6_betterBy 58 = .ok (.aload_n 0, 1) := by decide +kernel
theorem dX6_betterBy_59 : decode cX6_betterBy 59 = .ok (.iconst (-1), 1) := by decide +kernel
theorem dX6_betterBy_60 : decode cX6_betterBy 60 = .ok (.putfield 44, 3) := by decide +kernel
theorem dX6_betterBy_63 : decode cX6_betterBy 63 = .ok (.iload_n 1, 1) := by decide +kernel
theorem dX6_betterBy_64 : decode cX6_betterBy 64 = .ok (.ifCond .ne 7, 3) := by decide +kernel
theorem dX6_betterBy_67 : decode cX6_betterBy 67 = .ok (.iload_n 2, 1) := by decide +kernel
theorem dX6_betterBy_68 : decode cX6_betterBy 68 = .ok (.goto 4, 3) := by decide +kernel
theorem dX6_betterBy_71 : decode cX6_betterBy 71 = .ok (.iload_n 3, 1) := by decide +kernel
theorem dX6_betterBy_72 : decode cX6_betterBy 72 = .ok (.ireturn, 1) := by decide +kernel
theorem dX6_better_0 : decode cX6_better 0 = .ok (.iload_n 1, 1) := by decide +kernel
theorem dX6_better_1 : decode cX6_better 1 = .ok (.invokestatic 179, 3) := by decide +kernel
theorem dX6_better_4 : decode cX6_better 4 = .ok (.ifCond .eq 11, 3) := by decide +kernel
theorem dX6_better_7 : decode cX6_better 7 = .ok (.aload_n 0, 1) := by decide +kernel
theorem dX6_better_8 : decode cX6_better 8 = .ok (.iload_n 1, 1) := by decide +kernel
theorem dX6_better_9 : decode cX6_better 9 = .ok (.invokevirtual 242, 3) := by decide +kernel
theorem dX6_better_12 : decode cX6_better 12 = .ok (.goto 5, 3) := by decide +kernel
theorem dX6_better_15 : decode cX6_better 15 = .ok (.bipush (-2), 2) := by decide +kernel
theorem dX6_better_17 : decode cX6_better 17 = .ok (.ireturn, 1) := by decide +kernel
theorem dX6_tell_0 : decode cX6_tell 0 = .ok (.iload_n 1, 1) := by decide +kernel
theorem dX6_tell_1 : decode cX6_tell 1 = .ok (.i2l, 1) := by decide +kernel
theorem dX6_tell_2 : decode cX6_tell 2 = .ok (.lconst 0, 1) := by decide +kernel
theorem dX6_tell_3 : decode cX6_tell 3 = .ok (.ldc2_w 104, 3) := by decide +kernel
theorem dX6_tell_6 : decode cX6_tell 6 = .ok (.invokestatic 51, 3) := by decide +kernel
theorem dX6_tell_9 : decode cX6_tell 9 = .ok (.ifCond .eq 10, 3) := by decide +kernel
theorem dX6_tell_12 : decode cX6_tell 12 = .ok (.iload_n 2, 1) := by decide +kernel
theorem dX6_tell_13 : decode cX6_tell 13 = .ok (.invokestatic 60, 3) := by decide +kernel
theorem dX6_tell_16 : decode cX6_tell 16 = .ok (.ifCond .ne 6, 3) := by decide +kernel
theorem dX6_tell_19 : decode cX6_tell 19 = .ok (.bipush (-2), 2) := by decide +kernel
theorem dX6_tell_21 : decode cX6_tell 21 = .ok (.ireturn, 1) := by decide +kernel
theorem dX6_tell_22 : decode cX6_tell 22 = .ok (.aload_n 0, 1) := by decide +kernel
theorem dX6_tell_23 : decode cX6_tell 23 = .ok (.getfield 7, 3) := by decide +kernel
theorem dX6_tell_26 : decode cX6_tell 26 = .ok (.iload_n 2, 1) := by decide +kernel
theorem dX6_tell_27 : decode cX6_tell 27 = .ok (.iaload, 1) := by decide +kernel
theorem dX6_tell_28 : decode cX6_tell 28 = .ok (.ifCond .ge 9, 3) := by decide +kernel
theorem dX6_tell_31 : decode cX6_tell 31 = .ok (.aload_n 0, 1) := by decide +kernel
theorem dX6_tell_32 : decode cX6_tell 32 = .ok (.iconst 1, 1) := by decide +kernel
theorem dX6_tell_33 : decode cX6_tell 33 = .ok (.invokevirtual 66, 3) := by decide +kernel
theorem dX6_tell_36 : decode cX6_tell 36 = .ok (.ireturn, 1) := by decide +kernel
theorem dX6_tell_37 : decode cX6_tell 37 = .ok (.aload_n 0, 1) := by decide +kernel
theorem dX6_tell_38 : decode cX6_tell 38 = .ok (.getfield 13, 3) := by decide +kernel
theorem dX6_tell_41 : decode cX6_tell 41 = .ok (.iload_n 2, 1) := by decide +kernel
theorem dX6_tell_42 : decode cX6_tell 42 = .ok (.iaload, 1) := by decide +kernel
theorem dX6_tell_43 : decode cX6_tell 43 = .ok (.aload_n 0, 1) := by decide +kernel
theorem dX6_tell_44 : decode cX6_tell 44 = .ok (.invokevirtual 128, 3) := by decide +kernel
theorem dX6_tell_47 : decode cX6_tell 47 = .ok (.iload_n 1, 1) := by decide +kernel
theorem dX6_tell_48 : decode cX6_tell 48 = .ok (.isub, 1) := by decide +kernel
theorem dX6_tell_49 : decode cX6_tell 49 = .ok (.iconst 0, 1) := by decide +kernel
theorem dX6_tell_50 : decode cX6_tell 50 = .ok (.invokestatic 204, 3) := by decide +kernel
theorem dX6_tell_53 : decode cX6_tell 53 = .ok (.invokestatic 173, 3) := by decide +kernel
theorem dX6_tell_56 : decode cX6_tell 56 = .ok (.istore_n 3, 1) := by decide +kernel
theorem dX6_tell_57 : decode cX6_tell 57 = .ok (.iconst 0, 1) := by decide +kernel
theorem dX6_tell_58 : decode cX6_tell 58 = .ok (.istore 4, 2) := by decide +kernel
theorem dX6_tell_60 : decode cX6_tell 60 = .ok (.iload 4, 2) := by decide +kernel
theorem dX6_tell_62 : decode cX6_tell 62 = .ok (.iload_n 3, 1) := by decide +kernel
theorem dX6_tell_63 : decode cX6_tell 63 = .ok (.if_icmp .ge 38, 3) := by decide +kernel
theorem dX6_tell_66 : decode cX6_tell 66 = .ok (.aload_n 0, 1) := by decide +kernel
theorem dX6_tell_67 : decode cX6_tell 67 = .ok (.getfield 16, 3) := by decide +kernel
theorem dX6_tell_70 : decode cX6_tell 70 = .ok (.bipush 60, 2) := by decide +kernel
theorem dX6_tell_72 : decode cX6_tell 72 = .ok (.iload_n 2, 1) := by decide +kernel
theorem dX6_tell_73 : decode cX6_tell 73 = .ok (.imul, 1) := by decide +kernel
theorem dX6_tell_74 : decode cX6_tell 74 = .ok (.iload 4, 2) := by decide +kernel
theorem dX6_tell_76 : decode cX6_tell 76 = .ok (.iadd, 1) := by decide +kernel
theorem dX6_tell_77 : decode cX6_tell 77 = .ok (.aload_n 0, 1) := by decide +kernel
theorem dX6_tell_78 : decode cX6_tell 78 = .ok (.getfield 7, 3) := by decide +kernel
theorem dX6_tell_81 : decode cX6_tell 81 = .ok (.iload_n 2, 1) := by decide +kernel
theorem dX6_tell_82 : decode cX6_tell 82 = .ok (.iaload, 1) := by decide +kernel
theorem dX6_tell_83 : decode cX6_tell 83 = .ok (.aload_n 0, 1) := by decide +kernel
theorem dX6_tell_84 : decode cX6_tell 84 = .ok (.iload_n 1, 1) := by decide +kernel
theorem dX6_tell_85 : decode cX6_tell 85 = .ok (.iload 4, 2) := by decide +kernel
theorem dX6_tell_87 : decode cX6_tell 87 = .ok (.iadd, 1) := by decide +kernel
theorem dX6_tell_88 : decode cX6_tell 88 = .ok (.invokevirtual 132, 3) := by decide +kernel
theorem dX6_tell_91 : decode cX6_tell 91 = .ok (.invokestatic 74, 3) := by decide +kernel
theorem dX6_tell_94 : decode cX6_tell 94 = .ok (.iastore, 1) := by decide +kernel
theorem dX6_tell_95 : decode cX6_tell 95 = .ok (.iinc 4 1, 3) := by decide +kernel
theorem dX6_tell_98 : decode cX6_tell 98 = .ok (.goto (-38), 3) := by decide +kernel
theorem dX6_tell_101 : decode cX6_tell 101 = .ok (.iload_n 3, 1) := by decide +kernel
theorem dX6_tell_102 : decode cX6_tell 102 = .ok (.ireturn, 1) := by decide +kernel
theorem dX6_manyThere_0 : decode cX6_manyThere 0 = .ok (.iconst 0, 1) := by decide +kernel
theorem dX6_manyThere_1 : decode cX6_manyThere 1 = .ok (.istore_n 1, 1) := by decide +kernel
theorem dX6_manyThere_2 : decode cX6_manyThere 2 = .ok (.iconst 0, 1) := by decide +kernel
theorem dX6_manyThere_3 : decode cX6_manyThere 3 = .ok (.istore_n 2, 1) := by decide +kernel
theorem dX6_manyThere_4 : decode cX6_manyThere 4 = .ok (.iload_n 2, 1) := by decide +kernel
theorem dX6_manyThere_5 : decode cX6_manyThere 5 = .ok (.bipush 16, 2) := by decide +kernel
theorem dX6_manyThere_7 : decode cX6_manyThere 7 = .ok (.if_icmp .ge 30, 3) := by decide +kernel
theorem dX6_manyThere_10 : decode cX6_manyThere 10 = .ok (.iload_n 1, 1) := by decide +kernel
theorem dX6_manyThere_11 : decode cX6_manyThere 11 = .ok (.aload_n 0, 1) := by decide +kernel
theorem dX6_manyThere_12 : decode cX6_manyThere 12 = .ok (.iload_n 2, 1) := by decide +kernel
theorem dX6_manyThere_13 : decode cX6_manyThere 13 = .ok (.aload_n 0, 1) := by decide +kernel
theorem dX6_manyThere_14 : decode cX6_manyThere 14 = .ok (.getfield 92, 3) := by decide +kernel
theorem dX6_manyThere_17 : decode cX6_manyThere 17 = .ok (.invokevirtual 152, 3) := by decide +kernel
theorem dX6_manyThere_20 : decode cX6_manyThere 20 = .ok (.iconst (-1), 1) := by decide +kernel
theorem dX6_manyThere_21 : decode cX6_manyThere 21 = .ok (.if_icmp .eq 7, 3) := by decide +kernel
theorem dX6_manyThere_24 : decode cX6_manyThere 24 = .ok (.iconst 1, 1) := by decide +kernel
theorem dX6_manyThere_25 : decode cX6_manyThere 25 = .ok (.goto 4, 3) := by decide +kernel
theorem dX6_manyThere_28 : decode cX6_manyThere 28 = .ok (.iconst 0, 1) := by decide +kernel
theorem dX6_manyThere_29 : decode cX6_manyThere 29 = .ok (.iadd, 1) := by decide +kernel
theorem dX6_manyThere_30 : decode cX6_manyThere 30 = .ok (.istore_n 1, 1) := by decide +kernel
theorem dX6_manyThere_31 : decode cX6_manyThere 31 = .ok (.iinc 2 1, 3) := by decide +kernel
theorem dX6_manyThere_34 : decode cX6_manyThere 34 = .ok (.goto (-30), 3) := by decide +kernel
theorem dX6_manyThere_37 : decode cX6_manyThere 37 = .ok (.iload_n 1, 1) := by decide +kernel
theorem dX6_manyThere_38 : decode cX6_manyThere 38 = .ok (.ireturn, 1) := by decide +kernel
theorem dX6_manyShadowed_0 : decode cX6_manyShadowed 0 = .ok (.iconst 0, 1) := by decide +kernel
theorem dX6_manyShadowed_1 : decode cX6_manyShadowed 1 = .ok (.istore_n 1, 1) := by decide +kernel
theorem dX6_manyShadowed_2 : decode cX6_manyShadowed 2 = .ok (.iconst 0, 1) := by decide +kernel
theorem dX6_manyShadowed_3 : decode cX6_manyShadowed 3 = .ok (.istore_n 2, 1) := by decide +kernel
theorem dX6_manyShadowed_4 : decode cX6_manyShadowed 4 = .ok (.iload_n 2, 1) := by decide +kernel
theorem dX6_manyShadowed_5 : decode cX6_manyShadowed 5 = .ok (.bipush 16, 2) := by decide +kernel
theorem dX6_manyShadowed_7 : decode cX6_manyShadowed 7 = .ok (.aload_n 0, 1) := by decide +kernel
theorem dX6_manyShadowed_8 : decode cX6_manyShadowed 8 = .ok (.getfield 92, 3) := by decide +kernel
theorem dX6_manyShadowed_11 : decode cX6_manyShadowed 11 = .ok (.iconst 1, 1) := by decide +kernel
theorem dX6_manyShadowed_12 : decode cX6_manyShadowed 12 = .ok (.iadd, 1) := by decide +kernel
theorem dX6_manyShadowed_13 : decode cX6_manyShadowed 13 = .ok (.imul, 1) := by decide +kernel
theorem dX6_manyShadowed_14 : decode cX6_manyShadowed 14 = .ok (.if_icmp .ge 32, 3) := by decide +kernel
theorem dX6_manyShadowed_17 : decode cX6_manyShadowed 17 = .ok (.iload_n 1, 1) := by decide +kernel
theorem dX6_manyShadowed_18 : decode cX6_manyShadowed 18 = .ok (.aload_n 0, 1) := by decide +kernel
theorem dX6_manyShadowed_19 : decode cX6_manyShadowed 19 = .ok (.iload_n 2, 1) := by decide +kernel
theorem dX6_manyShadowed_20 : decode cX6_manyShadowed 20 = .ok (.bipush 16, 2) := by decide +kernel
theorem dX6_manyShadowed_22 : decode cX6_manyShadowed 22 = .ok (.irem, 1) := by decide +kernel
theorem dX6_manyShadowed_23 : decode cX6_manyShadowed 23 = .ok (.iload_n 2, 1) := by decide +kernel
theorem dX6_manyShadowed_24 : decode cX6_manyShadowed 24 = .ok (.bipush 16, 2) := by decide +kernel
theorem dX6_manyShadowed_26 : decode cX6_manyShadowed 26 = .ok (.idiv, 1) := by decide +kernel
theorem dX6_manyShadowed_27 : decode cX6_manyShadowed 27 = .ok (.invokevirtual 161, 3) := by decide +kernel
theorem dX6_manyShadowed_30 : decode cX6_manyShadowed 30 = .ok (.ifCond .eq 7, 3) := by decide +kernel
theorem dX6_manyShadowed_33 : decode cX6_manyShadowed 33 = .ok (.iconst 1, 1) := by decide +kernel
theorem dX6_manyShadowed_34 : decode cX6_manyShadowed 34 = .ok (.goto 4, 3) := by decide +kernel
theorem dX6_manyShadowed_37 : decode cX6_manyShadowed 37 = .ok (.iconst 0, 1) := by decide +kernel
theorem dX6_manyShadowed_38 : decode cX6_manyShadowed 38 = .ok (.iadd, 1) := by decide +kernel
theorem dX6_manyShadowed_39 : decode cX6_manyShadowed 39 = .ok (.istore_n 1, 1) := by decide +kernel
theorem dX6_manyShadowed_40 : decode cX6_manyShadowed 40 = .ok (.iinc 2 1, 3) := by decide +kernel
theorem dX6_manyShadowed_43 : decode cX6_manyShadowed 43 = .ok (.goto (-39), 3) := by decide +kernel
theorem dX6_manyShadowed_46 : decode cX6_manyShadowed 46 = .ok (.iload_n 1, 1) := by decide +kernel
theorem dX6_manyShadowed_47 : decode cX6_manyShadowed 47 = .ok (.ireturn, 1) := by decide +kernel
theorem dX6_count_0 : decode cX6_count 0 = .ok (.iload_n 1, 1) := by decide +kernel
theorem dX6_count_1 : decode cX6_count 1 = .ok (.tableswitch 101 0 8 #[51, 56, 61, 66, 71, 77, 82, 87, 96], 51) := by decide +kernel
theorem dX6_count_52 : decode cX6_count 52 = .ok (.aload_n 0, 1) := by decide +kernel
theorem dX6_count_53 : decode cX6_count 53 = .ok (.getfield 89, 3) := by decide +kernel
theorem dX6_count_56 : decode cX6_count 56 = .ok (.ireturn, 1) := by decide +kernel
theorem dX6_count_57 : decode cX6_count 57 = .ok (.aload_n 0, 1) := by decide +kernel
theorem dX6_count_58 : decode cX6_count 58 = .ok (.getfield 92, 3) := by decide +kernel
theorem dX6_count_61 : decode cX6_count 61 = .ok (.ireturn, 1) := by decide +kernel
theorem dX6_count_62 : decode cX6_count 62 = .ok (.aload_n 0, 1) := by decide +kernel
theorem dX6_count_63 : decode cX6_count 63 = .ok (.invokevirtual 128, 3) := by decide +kernel
theorem dX6_count_66 : decode cX6_count 66 = .ok (.ireturn, 1) := by decide +kernel
theorem dX6_count_67 : decode cX6_count 67 = .ok (.aload_n 0, 1) := by decide +kernel
theorem dX6_count_68 : decode cX6_count 68 = .ok (.invokevirtual 236, 3) := by decide +kernel
theorem dX6_count_71 : decode cX6_count 71 = .ok (.ireturn, 1) := by decide +kernel
theorem dX6_count_72 : decode cX6_count 72 = .ok (.aload_n 0, 1) := by decide +kernel
theorem dX6_count_73 : decode cX6_count 73 = .ok (.iconst 0, 1) := by decide +kernel
theorem dX6_count_74 : decode cX6_count 74 = .ok (.invokevirtual 239, 3) := by decide +kernel
theorem dX6_count_77 : decode cX6_count 77 = .ok (.ireturn, 1) := by decide +kernel
theorem dX6_count_78 : decode cX6_count 78 = .ok (.aload_n 0, 1) := by decide +kernel
theorem dX6_count_79 : decode cX6_count 79 = .ok (.invokevirtual 245, 3) := by decide +kernel
theorem dX6_count_82 : decode cX6_count 82 = .ok (.ireturn, 1) := by decide +kernel
theorem dX6_count_83 : decode cX6_count 83 = .ok (.aload_n 0, 1) := by decide +kernel
theorem dX6_count_84 : decode cX6_count 84 = .ok (.invokevirtual 248, 3) := by decide +kernel
theorem dX6_count_87 : decode cX6_count 87 = .ok (.ireturn, 1) := by decide +kernel
theorem dX6_count_88 : decode cX6_count 88 = .ok (.aload_n 0, 1) := by decide +kernel
theorem dX6_count_89 : decode cX6_count 89 = .ok (.aload_n 0, 1) := by decide +kernel
theorem dX6_count_90 : decode cX6_count 90 = .ok (.getfield 92, 3) := by decide +kernel
theorem dX6_count_93 : decode cX6_count 93 = .ok (.invokevirtual 224, 3) := by decide +kernel
theorem dX6_count_96 : decode cX6_count 96 = .ok (.ireturn, 1) := by decide +kernel
theorem dX6_count_97 : decode cX6_count 97 = .ok (.aload_n 0, 1) := by decide +kernel
theorem dX6_count_98 : decode cX6_count 98 = .ok (.getfield 55, 3) := by decide +kernel
theorem dX6_count_101 : decode cX6_count 101 = .ok (.ireturn, 1) := by decide +kernel
theorem dX6_count_102 : decode cX6_count 102 = .ok (.bipush (-2), 2) := by decide +kernel
theorem dX6_count_104 : decode cX6_count 104 = .ok (.ireturn, 1) := by decide +kernel
theorem dX6_tellsWrite_0 : decode cX6_tellsWrite 0 = .ok (.lload_n 1, 1) := by decide +kernel
theorem dX6_tellsWrite_1 : decode cX6_tellsWrite 1 = .ok (.lstore 4, 2) := by decide +kernel
theorem dX6_tellsWrite_3 : decode cX6_tellsWrite 3 = .ok (.iconst 0, 1) := by decide +kernel
theorem dX6_tellsWrite_4 : decode cX6_tellsWrite 4 = .ok (.istore 6, 2) := by decide +kernel
theorem dX6_tellsWrite_6 : decode cX6_tellsWrite 6 = .ok (.iload 6, 2) := by decide +kernel
theorem dX6_tellsWrite_8 : decode cX6_tellsWrite 8 = .ok (.iconst 5, 1) := by decide +kernel
theorem dX6_tellsWrite_9 : decode cX6_tellsWrite 9 = .ok (.if_icmp .ge 26, 3) := by decide +kernel
theorem dX6_tellsWrite_12 : decode cX6_tellsWrite 12 = .ok (.ldc2_w 251, 3) := by decide +kernel
theorem dX6_tellsWrite_15 : decode cX6_tellsWrite 15 = .ok (.lload 4, 2) := by decide +kernel
theorem dX6_tellsWrite_17 : decode cX6_tellsWrite 17 = .ok (.lmul, 1) := by decide +kernel
theorem dX6_tellsWrite_18 : decode cX6_tellsWrite 18 = .ok (.aload_n 0, 1) := by decide +kernel
theorem dX6_tellsWrite_19 : decode cX6_tellsWrite 19 = .ok (.iload_n 3, 1) := by decide +kernel
theorem dX6_tellsWrite_20 : decode cX6_tellsWrite 20 = .ok (.iload 6, 2) := by decide +kernel
theorem dX6_tellsWrite_22 : decode cX6_tellsWrite 22 = .ok (.invokevirtual 140, 3) := by decide +kernel
theorem dX6_tellsWrite_25 : decode cX6_tellsWrite 25 = .ok (.i2l, 1) := by decide +kernel
theorem dX6_tellsWrite_26 : decode cX6_tellsWrite 26 = .ok (.ladd, 1) := by decide +kernel
theorem dX6_tellsWrite_27 : decode cX6_tellsWrite 27 = .ok (.lstore 4, 2) := by decide +kernel
theorem dX6_tellsWrite_29 : decode cX6_tellsWrite 29 = .ok (.iinc 6 1, 3) := by decide +kernel
theorem dX6_tellsWrite_32 : decode cX6_tellsWrite 32 = .ok (.goto (-26), 3) := by decide +kernel
theorem dX6_tellsWrite_35 : decode cX6_tellsWrite 35 = .ok (.iconst 0, 1) := by decide +kernel
theorem dX6_tellsWrite_36 : decode cX6_tellsWrite 36 = .ok (.istore 6, 2) := by decide +kernel
theorem dX6_tellsWrite_38 : decode cX6_tellsWrite 38 = .ok (.iload 6, 2) := by decide +kernel
theorem dX6_tellsWrite_40 : decode cX6_tellsWrite 40 = .ok (.iconst 4, 1) := by decide +kernel
theorem dX6_tellsWrite_41 : decode cX6_tellsWrite 41 = .ok (.if_icmp .ge 26, 3) := by decide +kernel
theorem dX6_tellsWrite_44 : decode cX6_tellsWrite 44 = .ok (.ldc2_w 251, 3) := by decide +kernel
theorem dX6_tellsWrite_47 : decode cX6_tellsWrite 47 = .ok (.lload 4, 2) := by decide +kernel
theorem dX6_tellsWrite_49 : decode cX6_tellsWrite 49 = .ok (.lmul, 1) := by decide +kernel
theorem dX6_tellsWrite_50 : decode cX6_tellsWrite 50 = .ok (.aload_n 0, 1) := by decide +kernel
theorem dX6_tellsWrite_51 : decode cX6_tellsWrite 51 = .ok (.iload_n 3, 1) := by decide +kernel
theorem dX6_tellsWrite_52 : decode cX6_tellsWrite 52 = .ok (.iload 6, 2) := by decide +kernel
theorem dX6_tellsWrite_54 : decode cX6_tellsWrite 54 = .ok (.invokevirtual 253, 3) := by decide +kernel
theorem dX6_tellsWrite_57 : decode cX6_tellsWrite 57 = .ok (.i2l, 1) := by decide +kernel
theorem dX6_tellsWrite_58 : decode cX6_tellsWrite 58 = .ok (.ladd, 1) := by decide +kernel
theorem dX6_tellsWrite_59 : decode cX6_tellsWrite 59 = .ok (.lstore 4, 2) := by decide +kernel
theorem dX6_tellsWrite_61 : decode cX6_tellsWrite 61 = .ok (.iinc 6 1, 3) := by decide +kernel
theorem dX6_tellsWrite_64 : decode cX6_tellsWrite 64 = .ok (.goto (-26), 3) := by decide +kernel
theorem dX6_tellsWrite_67 : decode cX6_tellsWrite 67 = .ok (.ldc2_w 251, 3) := by decide +kernel
theorem dX6_tellsWrite_70 : decode cX6_tellsWrite 70 = .ok (.lload 4, 2) := by decide +kernel
theorem dX6_tellsWrite_72 : decode cX6_tellsWrite 72 = .ok (.lmul, 1) := by decide +kernel
theorem dX6_tellsWrite_73 : decode cX6_tellsWrite 73 = .ok (.aload_n 0, 1) := by decide +kernel
theorem dX6_tellsWrite_74 : decode cX6_tellsWrite 74 = .ok (.iload_n 3, 1) := by decide +kernel
theorem dX6_tellsWrite_75 : decode cX6_tellsWrite 75 = .ok (.invokevirtual 256, 3) := by decide +kernel
theorem dX6_tellsWrite_78 : decode cX6_tellsWrite 78 = .ok (.i2l, 1) := by decide +kernel
theorem dX6_tellsWrite_79 : decode cX6_tellsWrite 79 = .ok (.ladd, 1) := by decide +kernel
theorem dX6_tellsWrite_80 : decode cX6_tellsWrite 80 = .ok (.lstore 4, 2) := by decide +kernel
theorem dX6_tellsWrite_82 : decode cX6_tellsWrite 82 = .ok (.ldc2_w 251, 3) := by decide +kernel
theorem dX6_tellsWrite_85 : decode cX6_tellsWrite 85 = .ok (.lload 4, 2) := by decide +kernel
theorem dX6_tellsWrite_87 : decode cX6_tellsWrite 87 = .ok (.lmul, 1) := by decide +kernel
theorem dX6_tellsWrite_88 : decode cX6_tellsWrite 88 = .ok (.aload_n 0, 1) := by decide +kernel
theorem dX6_tellsWrite_89 : decode cX6_tellsWrite 89 = .ok (.iload_n 3, 1) := by decide +kernel
theorem dX6_tellsWrite_90 : decode cX6_tellsWrite 90 = .ok (.iconst 0, 1) := by decide +kernel
theorem dX6_tellsWrite_91 : decode cX6_tellsWrite 91 = .ok (.invokevirtual 182, 3) := by decide +kernel
theorem dX6_tellsWrite_94 : decode cX6_tellsWrite 94 = .ok (.i2l, 1) := by decide +kernel
theorem dX6_tellsWrite_95 : decode cX6_tellsWrite 95 = .ok (.ladd, 1) := by decide +kernel
theorem dX6_tellsWrite_96 : decode cX6_tellsWrite 96 = .ok (.lstore 4, 2) := by decide +kernel
theorem dX6_tellsWrite_98 : decode cX6_tellsWrite 98 = .ok (.ldc2_w 251, 3) := by decide +kernel
theorem dX6_tellsWrite_101 : decode cX6_tellsWrite 101 = .ok (.lload 4, 2) := by decide +kernel
theorem dX6_tellsWrite_103 : decode cX6_tellsWrite 103 = .ok (.lmul, 1) := by decide +kernel
theorem dX6_tellsWrite_104 : decode cX6_tellsWrite 104 = .ok (.aload_n 0, 1) := by decide +kernel
theorem dX6_tellsWrite_105 : decode cX6_tellsWrite 105 = .ok (.iload_n 3, 1) := by decide +kernel
theorem dX6_tellsWrite_106 : decode cX6_tellsWrite 106 = .ok (.iconst 1, 1) := by decide +kernel
theorem dX6_tellsWrite_107 : decode cX6_tellsWrite 107 = .ok (.invokevirtual 182, 3) := by decide +kernel
theorem dX6_tellsWrite_110 : decode cX6_tellsWrite 110 = .ok (.i2l, 1) := by decide +kernel
theorem dX6_tellsWrite_111 : decode cX6_tellsWrite 111 = .ok (.ladd, 1) := by decide +kernel
theorem dX6_tellsWrite_112 : decode cX6_tellsWrite 112 = .ok (.lstore 4, 2) := by decide +kernel
theorem dX6_tellsWrite_114 : decode cX6_tellsWrite 114 = .ok (.ldc2_w 251, 3) := by decide +kernel
theorem dX6_tellsWrite_117 : decode cX6_tellsWrite 117 = .ok (.lload 4, 2) := by decide +kernel
theorem dX6_tellsWrite_119 : decode cX6_tellsWrite 119 = .ok (.lmul, 1) := by decide +kernel
theorem dX6_tellsWrite_120 : decode cX6_tellsWrite 120 = .ok (.aload_n 0, 1) := by decide +kernel
theorem dX6_tellsWrite_121 : decode cX6_tellsWrite 121 = .ok (.iload_n 3, 1) := by decide +kernel
theorem dX6_tellsWrite_122 : decode cX6_tellsWrite 122 = .ok (.invokevirtual 259, 3) := by decide +kernel
theorem dX6_tellsWrite_125 : decode cX6_tellsWrite 125 = .ok (.i2l, 1) := by decide +kernel
theorem dX6_tellsWrite_126 : decode cX6_tellsWrite 126 = .ok (.ladd, 1) := by decide +kernel
theorem dX6_tellsWrite_127 : decode cX6_tellsWrite 127 = .ok (.lstore 4, 2) := by decide +kernel
theorem dX6_tellsWrite_129 : decode cX6_tellsWrite 129 = .ok (.iconst 0, 1) := by decide +kernel
theorem dX6_tellsWrite_130 : decode cX6_tellsWrite 130 = .ok (.istore 6, 2) := by decide +kernel
theorem dX6_tellsWrite_132 : decode cX6_tellsWrite 132 = .ok (.iload 6, 2) := by decide +kernel
theorem dX6_tellsWrite_134 : decode cX6_tellsWrite 134 = .ok (.iconst 4, 1) := by decide +kernel
theorem dX6_tellsWrite_135 : decode cX6_tellsWrite 135 = .ok (.if_icmp .ge 26, 3) := by decide +kernel
theorem dX6_tellsWrite_138 : decode cX6_tellsWrite 138 = .ok (.ldc2_w 251, 3) := by decide +kernel
theorem dX6_tellsWrite_141 : decode cX6_tellsWrite 141 = .ok (.lload 4, 2) := by decide +kernel
theorem dX6_tellsWrite_143 : decode cX6_tellsWrite 143 = .ok (.lmul, 1) := by decide +kernel
theorem dX6_tellsWrite_144 : decode cX6_tellsWrite 144 = .ok (.aload_n 0, 1) := by decide +kernel
theorem dX6_tellsWrite_145 : decode cX6_tellsWrite 145 = .ok (.iload_n 3, 1) := by decide +kernel
theorem dX6_tellsWrite_146 : decode cX6_tellsWrite 146 = .ok (.iload 6, 2) := by decide +kernel
theorem dX6_tellsWrite_148 : decode cX6_tellsWrite 148 = .ok (.invokevirtual 262, 3) := by decide +kernel
theorem dX6_tellsWrite_151 : decode cX6_tellsWrite 151 = .ok (.i2l, 1) := by decide +kernel
theorem dX6_tellsWrite_152 : decode cX6_tellsWrite 152 = .ok (.ladd, 1) := by decide +kernel
theorem dX6_tellsWrite_153 : decode cX6_tellsWrite 153 = .ok (.lstore 4, 2) := by decide +kernel
theorem dX6_tellsWrite_155 : decode cX6_tellsWrite 155 = .ok (.iinc 6 1, 3) := by decide +kernel
theorem dX6_tellsWrite_158 : decode cX6_tellsWrite 158 = .ok (.goto (-26), 3) := by decide +kernel
theorem dX6_tellsWrite_161 : decode cX6_tellsWrite 161 = .ok (.iconst 0, 1) := by decide +kernel
theorem dX6_tellsWrite_162 : decode cX6_tellsWrite 162 = .ok (.istore 6, 2) := by decide +kernel
theorem dX6_tellsWrite_164 : decode cX6_tellsWrite 164 = .ok (.iload 6, 2) := by decide +kernel
theorem dX6_tellsWrite_166 : decode cX6_tellsWrite 166 = .ok (.iconst 5, 1) := by decide +kernel
theorem dX6_tellsWrite_167 : decode cX6_tellsWrite 167 = .ok (.if_icmp .ge 43, 3) := by decide +kernel
theorem dX6_tellsWrite_170 : decode cX6_tellsWrite 170 = .ok (.iconst 0, 1) := by decide +kernel
theorem dX6_tellsWrite_171 : decode cX6_tellsWrite 171 = .ok (.istore 7, 2) := by decide +kernel
theorem dX6_tellsWrite_173 : decode cX6_tellsWrite 173 = .ok (.iload 7, 2) := by decide +kernel
theorem dX6_tellsWrite_175 : decode cX6_tellsWrite 175 = .ok (.iconst 3, 1) := by decide +kernel
theorem dX6_tellsWrite_176 : decode cX6_tellsWrite 176 = .ok (.if_icmp .ge 28, 3) := by decide +kernel
theorem dX6_tellsWrite_179 : decode cX6_tellsWrite 179 = .ok (.ldc2_w 251, 3) := by decide +kernel
theorem dX6_tellsWrite_182 : decode cX6_tellsWrite 182 = .ok (.lload 4, 2) := by decide +kernel
theorem dX6_tellsWrite_184 : decode cX6_tellsWrite 184 = .ok (.lmul, 1) := by decide +kernel
theorem dX6_tellsWrite_185 : decode cX6_tellsWrite 185 = .ok (.aload_n 0, 1) := by decide +kernel
theorem dX6_tellsWrite_186 : decode cX6_tellsWrite 186 = .ok (.iload_n 3, 1) := by decide +kernel
theorem dX6_tellsWrite_187 : decode cX6_tellsWrite 187 = .ok (.iload 6, 2) := by decide +kernel
theorem dX6_tellsWrite_189 : decode cX6_tellsWrite 189 = .ok (.iload 7, 2) := by decide +kernel
theorem dX6_tellsWrite_191 : decode cX6_tellsWrite 191 = .ok (.invokevirtual 265, 3) := by decide +kernel
theorem dX6_tellsWrite_194 : decode cX6_tellsWrite 194 = .ok (.i2l, 1) := by decide +kernel
theorem dX6_tellsWrite_195 : decode cX6_tellsWrite 195 = .ok (.ladd, 1) := by decide +kernel
theorem dX6_tellsWrite_196 : decode cX6_tellsWrite 196 = .ok (.lstore 4, 2) := by decide +kernel
theorem dX6_tellsWrite_198 : decode cX6_tellsWrite 198 = .ok (.iinc 7 1, 3) := by decide +kernel
theorem dX6_tellsWrite_201 : decode cX6_tellsWrite 201 = .ok (.goto (-28), 3) := by decide +kernel
theorem dX6_tellsWrite_204 : decode cX6_tellsWrite 204 = .ok (.iinc 6 1, 3) := by decide +kernel
theorem dX6_tellsWrite_207 : decode cX6_tellsWrite 207 = .ok (.goto (-43), 3) := by decide +kernel
theorem dX6_tellsWrite_210 : decode cX6_tellsWrite 210 = .ok (.lload 4, 2) := by decide +kernel
theorem dX6_tellsWrite_212 : decode cX6_tellsWrite 212 = .ok (.lreturn, 1) := by decide +kernel
theorem dX6_digest_0 : decode cX6_digest 0 = .ok (.ldc2_w 268, 3) := by decide +kernel
theorem dX6_digest_3 : decode cX6_digest 3 = .ok (.lstore_n 1, 1) := by decide +kernel
theorem dX6_digest_4 : decode cX6_digest 4 = .ok (.iconst 0, 1) := by decide +kernel
theorem dX6_digest_5 : decode cX6_digest 5 = .ok (.istore_n 3, 1) := by decide +kernel
theorem dX6_digest_6 : decode cX6_digest 6 = .ok (.iload_n 3, 1) := by decide +kernel
theorem dX6_digest_7 : decode cX6_digest 7 = .ok (.bipush 8, 2) := by decide +kernel
theorem dX6_digest_9 : decode cX6_digest 9 = .ok (.if_icmp .ge 22, 3) := by decide +kernel
theorem dX6_digest_12 : decode cX6_digest 12 = .ok (.ldc2_w 251, 3) := by decide +kernel
theorem dX6_digest_15 : decode cX6_digest 15 = .ok (.lload_n 1, 1) := by decide +kernel
theorem dX6_digest_16 : decode cX6_digest 16 = .ok (.lmul, 1) := by decide +kernel
theorem dX6_digest_17 : decode cX6_digest 17 = .ok (.aload_n 0, 1) := by decide +kernel
theorem dX6_digest_18 : decode cX6_digest 18 = .ok (.iload_n 3, 1) := by decide +kernel
theorem dX6_digest_19 : decode cX6_digest 19 = .ok (.invokevirtual 270, 3) := by decide +kernel
theorem dX6_digest_22 : decode cX6_digest 22 = .ok (.i2l, 1) := by decide +kernel
theorem dX6_digest_23 : decode cX6_digest 23 = .ok (.ladd, 1) := by decide +kernel
theorem dX6_digest_24 : decode cX6_digest 24 = .ok (.lstore_n 1, 1) := by decide +kernel
theorem dX6_digest_25 : decode cX6_digest 25 = .ok (.iinc 3 1, 3) := by decide +kernel
theorem dX6_digest_28 : decode cX6_digest 28 = .ok (.goto (-22), 3) := by decide +kernel
theorem dX6_digest_31 : decode cX6_digest 31 = .ok (.iconst 0, 1) := by decide +kernel
theorem dX6_digest_32 : decode cX6_digest 32 = .ok (.istore_n 3, 1) := by decide +kernel
theorem dX6_digest_33 : decode cX6_digest 33 = .ok (.iload_n 3, 1) := by decide +kernel
theorem dX6_digest_34 : decode cX6_digest 34 = .ok (.bipush 8, 2) := by decide +kernel
theorem dX6_digest_36 : decode cX6_digest 36 = .ok (.if_icmp .ge 65, 3) := by decide +kernel
theorem dX6_digest_39 : decode cX6_digest 39 = .ok (.iconst 0, 1) := by decide +kernel
theorem dX6_digest_40 : decode cX6_digest 40 = .ok (.istore 4, 2) := by decide +kernel
theorem dX6_digest_42 : decode cX6_digest 42 = .ok (.iload 4, 2) := by decide +kernel
theorem dX6_digest_44 : decode cX6_digest 44 = .ok (.iconst 4, 1) := by decide +kernel
theorem dX6_digest_45 : decode cX6_digest 45 = .ok (.if_icmp .ge 24, 3) := by decide +kernel
theorem dX6_digest_48 : decode cX6_digest 48 = .ok (.ldc2_w 251, 3) := by decide +kernel
theorem dX6_digest_51 : decode cX6_digest 51 = .ok (.lload_n 1, 1) := by decide +kernel
theorem dX6_digest_52 : decode cX6_digest 52 = .ok (.lmul, 1) := by decide +kernel
theorem dX6_digest_53 : decode cX6_digest 53 = .ok (.aload_n 0, 1) := by decide +kernel
theorem dX6_digest_54 : decode cX6_digest 54 = .ok (.iload_n 3, 1) := by decide +kernel
theorem dX6_digest_55 : decode cX6_digest 55 = .ok (.iload 4, 2) := by decide +kernel
theorem dX6_digest_57 : decode cX6_digest 57 = .ok (.invokevirtual 273, 3) := by decide +kernel
theorem dX6_digest_60 : decode cX6_digest 60 = .ok (.i2l, 1) := by decide +kernel
theorem dX6_digest_61 : decode cX6_digest 61 = .ok (.ladd, 1) := by decide +kernel
theorem dX6_digest_62 : decode cX6_digest 62 = .ok (.lstore_n 1, 1) := by decide +kernel
theorem dX6_digest_63 : decode cX6_digest 63 = .ok (.iinc 4 1, 3) := by decide +kernel
theorem dX6_digest_66 : decode cX6_digest 66 = .ok (.goto (-24), 3) := by decide +kernel
theorem dX6_digest_69 : decode cX6_digest 69 = .ok (.ldc2_w 251, 3) := by decide +kernel
theorem dX6_digest_72 : decode cX6_digest 72 = .ok (.lload_n 1, 1) := by decide +kernel
theorem dX6_digest_73 : decode cX6_digest 73 = .ok (.lmul, 1) := by decide +kernel
theorem dX6_digest_74 : decode cX6_digest 74 = .ok (.aload_n 0, 1) := by decide +kernel
theorem dX6_digest_75 : decode cX6_digest 75 = .ok (.iload_n 3, 1) := by decide +kernel
theorem dX6_digest_76 : decode cX6_digest 76 = .ok (.invokevirtual 275, 3) := by decide +kernel
theorem dX6_digest_79 : decode cX6_digest 79 = .ok (.i2l, 1) := by decide +kernel
theorem dX6_digest_80 : decode cX6_digest 80 = .ok (.ladd, 1) := by decide +kernel
theorem dX6_digest_81 : decode cX6_digest 81 = .ok (.lstore_n 1, 1) := by decide +kernel
theorem dX6_digest_82 : decode cX6_digest 82 = .ok (.ldc2_w 251, 3) := by decide +kernel
theorem dX6_digest_85 : decode cX6_digest 85 = .ok (.lload_n 1, 1) := by decide +kernel
theorem dX6_digest_86 : decode cX6_digest 86 = .ok (.lmul, 1) := by decide +kernel
theorem dX6_digest_87 : decode cX6_digest 87 = .ok (.aload_n 0, 1) := by decide +kernel
theorem dX6_digest_88 : decode cX6_digest 88 = .ok (.iload_n 3, 1) := by decide +kernel
theorem dX6_digest_89 : decode cX6_digest 89 = .ok (.invokevirtual 278, 3) := by decide +kernel
theorem dX6_digest_92 : decode cX6_digest 92 = .ok (.i2l, 1) := by decide +kernel
theorem dX6_digest_93 : decode cX6_digest 93 = .ok (.ladd, 1) := by decide +kernel
theorem dX6_digest_94 : decode cX6_digest 94 = .ok (.lstore_n 1, 1) := by decide +kernel
theorem dX6_digest_95 : decode cX6_digest 95 = .ok (.iinc 3 1, 3) := by decide +kernel
theorem dX6_digest_98 : decode cX6_digest 98 = .ok (.goto (-65), 3) := by decide +kernel
theorem dX6_digest_101 : decode cX6_digest 101 = .ok (.iconst 0, 1) := by decide +kernel
theorem dX6_digest_102 : decode cX6_digest 102 = .ok (.istore_n 3, 1) := by decide +kernel
theorem dX6_digest_103 : decode cX6_digest 103 = .ok (.iload_n 3, 1) := by decide +kernel
theorem dX6_digest_104 : decode cX6_digest 104 = .ok (.bipush 16, 2) := by decide +kernel
theorem dX6_digest_106 : decode cX6_digest 106 = .ok (.if_icmp .ge 73, 3) := by decide +kernel
theorem dX6_digest_109 : decode cX6_digest 109 = .ok (.ldc2_w 251, 3) := by decide +kernel
theorem dX6_digest_112 : decode cX6_digest 112 = .ok (.lload_n 1, 1) := by decide +kernel
theorem dX6_digest_113 : decode cX6_digest 113 = .ok (.lmul, 1) := by decide +kernel
theorem dX6_digest_114 : decode cX6_digest 114 = .ok (.aload_n 0, 1) := by decide +kernel
theorem dX6_digest_115 : decode cX6_digest 115 = .ok (.iload_n 3, 1) := by decide +kernel
theorem dX6_digest_116 : decode cX6_digest 116 = .ok (.iconst 0, 1) := by decide +kernel
theorem dX6_digest_117 : decode cX6_digest 117 = .ok (.iconst 0, 1) := by decide +kernel
theorem dX6_digest_118 : decode cX6_digest 118 = .ok (.invokevirtual 281, 3) := by decide +kernel
theorem dX6_digest_121 : decode cX6_digest 121 = .ok (.i2l, 1) := by decide +kernel
theorem dX6_digest_122 : decode cX6_digest 122 = .ok (.ladd, 1) := by decide +kernel
theorem dX6_digest_123 : decode cX6_digest 123 = .ok (.lstore_n 1, 1) := by decide +kernel
theorem dX6_digest_124 : decode cX6_digest 124 = .ok (.ldc2_w 251, 3) := by decide +kernel
theorem dX6_digest_127 : decode cX6_digest 127 = .ok (.lload_n 1, 1) := by decide +kernel
theorem dX6_digest_128 : decode cX6_digest 128 = .ok (.lmul, 1) := by decide +kernel
theorem dX6_digest_129 : decode cX6_digest 129 = .ok (.aload_n 0, 1) := by decide +kernel
theorem dX6_digest_130 : decode cX6_digest 130 = .ok (.iload_n 3, 1) := by decide +kernel
theorem dX6_digest_131 : decode cX6_digest 131 = .ok (.iconst 2, 1) := by decide +kernel
theorem dX6_digest_132 : decode cX6_digest 132 = .ok (.iconst 1, 1) := by decide +kernel
theorem dX6_digest_133 : decode cX6_digest 133 = .ok (.invokevirtual 281, 3) := by decide +kernel
theorem dX6_digest_136 : decode cX6_digest 136 = .ok (.i2l, 1) := by decide +kernel
theorem dX6_digest_137 : decode cX6_digest 137 = .ok (.ladd, 1) := by decide +kernel
theorem dX6_digest_138 : decode cX6_digest 138 = .ok (.lstore_n 1, 1) := by decide +kernel
theorem dX6_digest_139 : decode cX6_digest 139 = .ok (.iconst 0, 1) := by decide +kernel
theorem dX6_digest_140 : decode cX6_digest 140 = .ok (.istore 4, 2) := by decide +kernel
theorem dX6_digest_142 : decode cX6_digest 142 = .ok (.iload 4, 2) := by decide +kernel
theorem dX6_digest_144 : decode cX6_digest 144 = .ok (.iconst 3, 1) := by decide +kernel
theorem dX6_digest_145 : decode cX6_digest 145 = .ok (.if_icmp .ge 28, 3) := by decide +kernel
theorem dX6_digest_148 : decode cX6_digest 148 = .ok (.ldc2_w 251, 3) := by decide +kernel
theorem dX6_digest_151 : decode cX6_digest 151 = .ok (.lload_n 1, 1) := by decide +kernel
theorem dX6_digest_152 : decode cX6_digest 152 = .ok (.lmul, 1) := by decide +kernel
theorem dX6_digest_153 : decode cX6_digest 153 = .ok (.aload_n 0, 1) := by decide +kernel
theorem dX6_digest_154 : decode cX6_digest 154 = .ok (.iload_n 3, 1) := by decide +kernel
theorem dX6_digest_155 : decode cX6_digest 155 = .ok (.aload_n 0, 1) := by decide +kernel
theorem dX6_digest_156 : decode cX6_digest 156 = .ok (.getfield 92, 3) := by decide +kernel
theorem dX6_digest_159 : decode cX6_digest 159 = .ok (.iload 4, 2) := by decide +kernel
theorem dX6_digest_161 : decode cX6_digest 161 = .ok (.invokevirtual 158, 3) := by decide +kernel
theorem dX6_digest_164 : decode cX6_digest 164 = .ok (.i2l, 1) := by decide +kernel
theorem dX6_digest_165 : decode cX6_digest 165 = .ok (.ladd, 1) := by decide +kernel
theorem dX6_digest_166 : decode cX6_digest 166 = .ok (.lstore_n 1, 1) := by decide +kernel
theorem dX6_digest_167 : decode cX6_digest 167 = .ok (.iinc 4 1, 3) := by decide +kernel
theorem dX6_digest_170 : decode cX6_digest 170 = .ok (.goto (-28), 3) := by decide +kernel
theorem dX6_digest_173 : decode cX6_digest 173 = .ok (.iinc 3 1, 3) := by decide +kernel
theorem dX6_digest_176 : decode cX6_digest 176 = .ok (.goto (-73), 3) := by decide +kernel
theorem dX6_digest_179 : decode cX6_digest 179 = .ok (.iconst 0, 1) := by decide +kernel
theorem dX6_digest_180 : decode cX6_digest 180 = .ok (.istore_n 3, 1) := by decide +kernel
theorem dX6_digest_181 : decode cX6_digest 181 = .ok (.iload_n 3, 1) := by decide +kernel
theorem dX6_digest_182 : decode cX6_digest 182 = .ok (.aload_n 0, 1) := by decide +kernel
theorem dX6_digest_183 : decode cX6_digest 183 = .ok (.getfield 89, 3) := by decide +kernel
theorem dX6_digest_186 : decode cX6_digest 186 = .ok (.if_icmp .ge 16, 3) := by decide +kernel
theorem dX6_digest_189 : decode cX6_digest 189 = .ok (.aload_n 0, 1) := by decide +kernel
theorem dX6_digest_190 : decode cX6_digest 190 = .ok (.lload_n 1, 1) := by decide +kernel
theorem dX6_digest_191 : decode cX6_digest 191 = .ok (.iload_n 3, 1) := by decide +kernel
theorem dX6_digest_192 : decode cX6_digest 192 = .ok (.invokevirtual 283, 3) := by decide +kernel
theorem dX6_digest_195 : decode cX6_digest 195 = .ok (.lstore_n 1, 1) := by decide +kernel
theorem dX6_digest_196 : decode cX6_digest 196 = .ok (.iinc 3 1, 3) := by decide +kernel
theorem dX6_digest_199 : decode cX6_digest 199 = .ok (.goto (-18), 3) := by decide +kernel
theorem dX6_digest_202 : decode cX6_digest 202 = .ok (.iconst 0, 1) := by decide +kernel
theorem dX6_digest_203 : decode cX6_digest 203 = .ok (.istore_n 3, 1) := by decide +kernel
theorem dX6_digest_204 : decode cX6_digest 204 = .ok (.iload_n 3, 1) := by decide +kernel
theorem dX6_digest_205 : decode cX6_digest 205 = .ok (.bipush 31, 2) := by decide +kernel
theorem dX6_digest_207 : decode cX6_digest 207 = .ok (.if_icmp .ge 22, 3) := by decide +kernel
theorem dX6_digest_210 : decode cX6_digest 210 = .ok (.ldc2_w 251, 3) := by decide +kernel
theorem dX6_digest_213 : decode cX6_digest 213 = .ok (.lload_n 1, 1) := by decide +kernel
theorem dX6_digest_214 : decode cX6_digest 214 = .ok (.lmul, 1) := by decide +kernel
theorem dX6_digest_215 : decode cX6_digest 215 = .ok (.aload_n 0, 1) := by decide +kernel
theorem dX6_digest_216 : decode cX6_digest 216 = .ok (.iload_n 3, 1) := by decide +kernel
theorem dX6_digest_217 : decode cX6_digest 217 = .ok (.invokevirtual 287, 3) := by decide +kernel
theorem dX6_digest_220 : decode cX6_digest 220 = .ok (.i2l, 1) := by decide +kernel
theorem dX6_digest_221 : decode cX6_digest 221 = .ok (.ladd, 1) := by decide +kernel
theorem dX6_digest_222 : decode cX6_digest 222 = .ok (.lstore_n 1, 1) := by decide +kernel
theorem dX6_digest_223 : decode cX6_digest 223 = .ok (.iinc 3 1, 3) := by decide +kernel
theorem dX6_digest_226 : decode cX6_digest 226 = .ok (.goto (-22), 3) := by decide +kernel
theorem dX6_digest_229 : decode cX6_digest 229 = .ok (.ldc2_w 251, 3) := by decide +kernel
theorem dX6_digest_232 : decode cX6_digest 232 = .ok (.lload_n 1, 1) := by decide +kernel
theorem dX6_digest_233 : decode cX6_digest 233 = .ok (.lmul, 1) := by decide +kernel
theorem dX6_digest_234 : decode cX6_digest 234 = .ok (.aload_n 0, 1) := by decide +kernel
theorem dX6_digest_235 : decode cX6_digest 235 = .ok (.invokevirtual 128, 3) := by decide +kernel
theorem dX6_digest_238 : decode cX6_digest 238 = .ok (.i2l, 1) := by decide +kernel
theorem dX6_digest_239 : decode cX6_digest 239 = .ok (.ladd, 1) := by decide +kernel
theorem dX6_digest_240 : decode cX6_digest 240 = .ok (.lstore_n 1, 1) := by decide +kernel
theorem dX6_digest_241 : decode cX6_digest 241 = .ok (.iconst 0, 1) := by decide +kernel
theorem dX6_digest_242 : decode cX6_digest 242 = .ok (.istore_n 3, 1) := by decide +kernel
theorem dX6_digest_243 : decode cX6_digest 243 = .ok (.iload_n 3, 1) := by decide +kernel
theorem dX6_digest_244 : decode cX6_digest 244 = .ok (.iconst 3, 1) := by decide +kernel
theorem dX6_digest_245 : decode cX6_digest 245 = .ok (.if_icmp .ge 22, 3) := by decide +kernel
theorem dX6_digest_248 : decode cX6_digest 248 = .ok (.ldc2_w 251, 3) := by decide +kernel
theorem dX6_digest_251 : decode cX6_digest 251 = .ok (.lload_n 1, 1) := by decide +kernel
theorem dX6_digest_252 : decode cX6_digest 252 = .ok (.lmul, 1) := by decide +kernel
theorem dX6_digest_253 : decode cX6_digest 253 = .ok (.aload_n 0, 1) := by decide +kernel
theorem dX6_digest_254 : decode cX6_digest 254 = .ok (.iload_n 3, 1) := by decide +kernel
theorem dX6_digest_255 : decode cX6_digest 255 = .ok (.invokevirtual 227, 3) := by decide +kernel
theorem dX6_digest_258 : decode cX6_digest 258 = .ok (.i2l, 1) := by decide +kernel
theorem dX6_digest_259 : decode cX6_digest 259 = .ok (.ladd, 1) := by decide +kernel
theorem dX6_digest_260 : decode cX6_digest 260 = .ok (.lstore_n 1, 1) := by decide +kernel
theorem dX6_digest_261 : decode cX6_digest 261 = .ok (.iinc 3 1, 3) := by decide +kernel
theorem dX6_digest_264 : decode cX6_digest 264 = .ok (.goto (-21), 3) := by decide +kernel
theorem dX6_digest_267 : decode cX6_digest 267 = .ok (.iconst 0, 1) := by decide +kernel
theorem dX6_digest_268 : decode cX6_digest 268 = .ok (.istore_n 3, 1) := by decide +kernel
theorem dX6_digest_269 : decode cX6_digest 269 = .ok (.iload_n 3, 1) := by decide +kernel
theorem dX6_digest_270 : decode cX6_digest 270 = .ok (.iconst 2, 1) := by decide +kernel
theorem dX6_digest_271 : decode cX6_digest 271 = .ok (.if_icmp .ge 22, 3) := by decide +kernel
theorem dX6_digest_274 : decode cX6_digest 274 = .ok (.ldc2_w 251, 3) := by decide +kernel
theorem dX6_digest_277 : decode cX6_digest 277 = .ok (.lload_n 1, 1) := by decide +kernel
theorem dX6_digest_278 : decode cX6_digest 278 = .ok (.lmul, 1) := by decide +kernel
theorem dX6_digest_279 : decode cX6_digest 279 = .ok (.aload_n 0, 1) := by decide +kernel
theorem dX6_digest_280 : decode cX6_digest 280 = .ok (.iload_n 3, 1) := by decide +kernel
theorem dX6_digest_281 : decode cX6_digest 281 = .ok (.invokevirtual 239, 3) := by decide +kernel
theorem dX6_digest_284 : decode cX6_digest 284 = .ok (.i2l, 1) := by decide +kernel
theorem dX6_digest_285 : decode cX6_digest 285 = .ok (.ladd, 1) := by decide +kernel
theorem dX6_digest_286 : decode cX6_digest 286 = .ok (.lstore_n 1, 1) := by decide +kernel
theorem dX6_digest_287 : decode cX6_digest 287 = .ok (.iinc 3 1, 3) := by decide +kernel
theorem dX6_digest_290 : decode cX6_digest 290 = .ok (.goto (-21), 3) := by decide +kernel
theorem dX6_digest_293 : decode cX6_digest 293 = .ok (.ldc2_w 251, 3) := by decide +kernel
theorem dX6_digest_296 : decode cX6_digest 296 = .ok (.lload_n 1, 1) := by decide +kernel
theorem dX6_digest_297 : decode cX6_digest 297 = .ok (.lmul, 1) := by decide +kernel
theorem dX6_digest_298 : decode cX6_digest 298 = .ok (.aload_n 0, 1) := by decide +kernel
theorem dX6_digest_299 : decode cX6_digest 299 = .ok (.iconst 0, 1) := by decide +kernel
theorem dX6_digest_300 : decode cX6_digest 300 = .ok (.invokevirtual 242, 3) := by decide +kernel
theorem dX6_digest_303 : decode cX6_digest 303 = .ok (.i2l, 1) := by decide +kernel
theorem dX6_digest_304 : decode cX6_digest 304 = .ok (.ladd, 1) := by decide +kernel
theorem dX6_digest_305 : decode cX6_digest 305 = .ok (.lstore_n 1, 1) := by decide +kernel
theorem dX6_digest_306 : decode cX6_digest 306 = .ok (.ldc2_w 251, 3) := by decide +kernel
theorem dX6_digest_309 : decode cX6_digest 309 = .ok (.lload_n 1, 1) := by decide +kernel
theorem dX6_digest_310 : decode cX6_digest 310 = .ok (.lmul, 1) := by decide +kernel
theorem dX6_digest_311 : decode cX6_digest 311 = .ok (.aload_n 0, 1) := by decide +kernel
theorem dX6_digest_312 : decode cX6_digest 312 = .ok (.iconst 1, 1) := by decide +kernel
theorem dX6_digest_313 : decode cX6_digest 313 = .ok (.invokevirtual 242, 3) := by decide +kernel
theorem dX6_digest_316 : decode cX6_digest 316 = .ok (.i2l, 1) := by decide +kernel
theorem dX6_digest_317 : decode cX6_digest 317 = .ok (.ladd, 1) := by decide +kernel
theorem dX6_digest_318 : decode cX6_digest 318 = .ok (.lreturn, 1) := by decide +kernel

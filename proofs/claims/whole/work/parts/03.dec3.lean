theorem dX5_allowed_59 : decode cX5_allowed 59 = .ok (.goto (-41), 3) := by decide +kernel
theorem dX5_allowed_62 : decode cX5_allowed 62 = .ok (.iload_n 2, 1) := by decide +kernel
theorem dX5_allowed_63 : decode cX5_allowed 63 = .ok (.ireturn, 1) := by decide +kernel
theorem dX5_first_0 : decode cX5_first 0 = .ok (.iload_n 1, 1) := by decide +kernel
theorem dX5_first_1 : decode cX5_first 1 = .ok (.ifCond .lt 8, 3) := by decide +kernel
theorem dX5_first_4 : decode cX5_first 4 = .ok (.iload_n 1, 1) := by decide +kernel
theorem dX5_first_5 : decode cX5_first 5 = .ok (.iconst 2, 1) := by decide +kernel
theorem dX5_first_6 : decode cX5_first 6 = .ok (.if_icmp .le 6, 3) := by decide +kernel
theorem dX5_first_9 : decode cX5_first 9 = .ok (.bipush (-2), 2) := by decide +kernel
theorem dX5_first_11 : decode cX5_first 11 = .ok (.ireturn, 1) := by decide +kernel
theorem dX5_first_12 : decode cX5_first 12 = .ok (.iconst 0, 1) := by decide +kernel
theorem dX5_first_13 : decode cX5_first 13 = .ok (.istore_n 2, 1) := by decide +kernel
theorem dX5_first_14 : decode cX5_first 14 = .ok (.iload_n 2, 1) := by decide +kernel
theorem dX5_first_15 : decode cX5_first 15 = .ok (.aload_n 0, 1) := by decide +kernel
theorem dX5_first_16 : decode cX5_first 16 = .ok (.getfield 37, 3) := by decide +kernel
theorem dX5_first_19 : decode cX5_first 19 = .ok (.getfield 221, 3) := by decide +kernel
theorem dX5_first_22 : decode cX5_first 22 = .ok (.if_icmp .ge 70, 3) := by decide +kernel
theorem dX5_first_25 : decode cX5_first 25 = .ok (.aload_n 0, 1) := by decide +kernel
theorem dX5_first_26 : decode cX5_first 26 = .ok (.iload_n 2, 1) := by decide +kernel
theorem dX5_first_27 : decode cX5_first 27 = .ok (.invokevirtual 224, 3) := by decide +kernel
theorem dX5_first_30 : decode cX5_first 30 = .ok (.istore_n 3, 1) := by decide +kernel
theorem dX5_first_31 : decode cX5_first 31 = .ok (.iload_n 3, 1) := by decide +kernel
theorem dX5_first_32 : decode cX5_first 32 = .ok (.iconst (-1), 1) := by decide +kernel
theorem dX5_first_33 : decode cX5_first 33 = .ok (.if_icmp .eq 53, 3) := by decide +kernel
theorem dX5_first_36 : decode cX5_first 36 = .ok (.iload_n 1, 1) := by decide +kernel
theorem dX5_first_37 : decode cX5_first 37 = .ok (.lookupswitch 47 #[(0, 27), (1, 37)], 27) := by decide +kernel
theorem dX5_first_64 : decode cX5_first 64 = .ok (.aload_n 0, 1) := by decide +kernel
theorem dX5_first_65 : decode cX5_first 65 = .ok (.getfield 37, 3) := by decide +kernel
theorem dX5_first_68 : decode cX5_first 68 = .ok (.getfield 207, 3) := by decide +kernel
theorem dX5_first_71 : decode cX5_first 71 = .ok (.iload_n 2, 1) := by decide +kernel
theorem dX5_first_72 : decode cX5_first 72 = .ok (.iaload, 1) := by decide +kernel
theorem dX5_first_73 : decode cX5_first 73 = .ok (.ireturn, 1) := by decide +kernel
theorem dX5_first_74 : decode cX5_first 74 = .ok (.aload_n 0, 1) := by decide +kernel
theorem dX5_first_75 : decode cX5_first 75 = .ok (.getfield 37, 3) := by decide +kernel
theorem dX5_first_78 : decode cX5_first 78 = .ok (.getfield 210, 3) := by decide +kernel
theorem dX5_first_81 : decode cX5_first 81 = .ok (.iload_n 2, 1) := by decide +kernel
theorem dX5_first_82 : decode cX5_first 82 = .ok (.iaload, 1) := by decide +kernel
theorem dX5_first_83 : decode cX5_first 83 = .ok (.ireturn, 1) := by decide +kernel
theorem dX5_first_84 : decode cX5_first 84 = .ok (.iload_n 3, 1) := by decide +kernel
theorem dX5_first_85 : decode cX5_first 85 = .ok (.ireturn, 1) := by decide +kernel
theorem dX5_first_86 : decode cX5_first 86 = .ok (.iinc 2 1, 3) := by decide +kernel
theorem dX5_first_89 : decode cX5_first 89 = .ok (.goto (-75), 3) := by decide +kernel
theorem dX5_first_92 : decode cX5_first 92 = .ok (.iconst (-1), 1) := by decide +kernel
theorem dX5_first_93 : decode cX5_first 93 = .ok (.ireturn, 1) := by decide +kernel
theorem dX5_holding_0 : decode cX5_holding 0 = .ok (.iload_n 1, 1) := by decide +kernel
theorem dX5_holding_1 : decode cX5_holding 1 = .ok (.lookupswitch 42 #[(0, 27), (1, 37)], 27) := by decide +kernel
theorem dX5_holding_28 : decode cX5_holding 28 = .ok (.aload_n 0, 1) := by decide +kernel
theorem dX5_holding_29 : decode cX5_holding 29 = .ok (.aload_n 0, 1) := by decide +kernel
theorem dX5_holding_30 : decode cX5_holding 30 = .ok (.getfield 37, 3) := by decide +kernel
theorem dX5_holding_33 : decode cX5_holding 33 = .ok (.iconst (-1), 1) := by decide +kernel
theorem dX5_holding_34 : decode cX5_holding 34 = .ok (.invokevirtual 227, 3) := by decide +kernel
theorem dX5_holding_37 : decode cX5_holding 37 = .ok (.ireturn, 1) := by decide +kernel
theorem dX5_holding_38 : decode cX5_holding 38 = .ok (.aload_n 0, 1) := by decide +kernel
theorem dX5_holding_39 : decode cX5_holding 39 = .ok (.invokevirtual 231, 3) := by decide +kernel
theorem dX5_holding_42 : decode cX5_holding 42 = .ok (.ireturn, 1) := by decide +kernel
theorem dX5_holding_43 : decode cX5_holding 43 = .ok (.bipush (-2), 2) := by decide +kernel
theorem dX5_holding_45 : decode cX5_holding 45 = .ok (.ireturn, 1) := by decide +kernel
theorem dX5_better_0 : decode cX5_better 0 = .ok (.iload_n 1, 1) := by decide +kernel
theorem dX5_better_1 : decode cX5_better 1 = .ok (.ifCond .lt 8, 3) := by decide +kernel
theorem dX5_better_4 : decode cX5_better 4 = .ok (.iload_n 1, 1) := by decide +kernel
theorem dX5_better_5 : decode cX5_better 5 = .ok (.iconst 1, 1) := by decide +kernel
theorem dX5_better_6 : decode cX5_better 6 = .ok (.if_icmp .le 6, 3) := by decide +kernel
theorem dX5_better_9 : decode cX5_better 9 = .ok (.bipush (-2), 2) := by decide +kernel
theorem dX5_better_11 : decode cX5_better 11 = .ok (.ireturn, 1) := by decide +kernel
theorem dX5_better_12 : decode cX5_better 12 = .ok (.iconst (-1), 1) := by decide +kernel
theorem dX5_better_13 : decode cX5_better 13 = .ok (.istore_n 2, 1) := by decide +kernel
theorem dX5_better_14 : decode cX5_better 14 = .ok (.iconst (-1), 1) := by decide +kernel
theorem dX5_better_15 : decode cX5_better 15 = .ok (.istore_n 3, 1) := by decide +kernel
theorem dX5_better_16 : decode cX5_better 16 = .ok (.iconst 0, 1) := by decide +kernel
theorem dX5_better_17 : decode cX5_better 17 = .ok (.istore 4, 2) := by decide +kernel
theorem dX5_better_19 : decode cX5_better 19 = .ok (.iload 4, 2) := by decide +kernel
theorem dX5_better_21 : decode cX5_better 21 = .ok (.aload_n 0, 1) := by decide +kernel
theorem dX5_better_22 : decode cX5_better 22 = .ok (.getfield 12, 3) := by decide +kernel
theorem dX5_better_25 : decode cX5_better 25 = .ok (.getfield 82, 3) := by decide +kernel
theorem dX5_better_28 : decode cX5_better 28 = .ok (.if_icmp .ge 42, 3) := by decide +kernel
theorem dX5_better_31 : decode cX5_better 31 = .ok (.aload_n 0, 1) := by decide +kernel
theorem dX5_better_32 : decode cX5_better 32 = .ok (.getfield 41, 3) := by decide +kernel
theorem dX5_better_35 : decode cX5_better 35 = .ok (.iload 4, 2) := by decide +kernel
theorem dX5_better_37 : decode cX5_better 37 = .ok (.invokevirtual 55, 3) := by decide +kernel
theorem dX5_better_40 : decode cX5_better 40 = .ok (.aload_n 0, 1) := by decide +kernel
theorem dX5_better_41 : decode cX5_better 41 = .ok (.aload_n 0, 1) := by decide +kernel
theorem dX5_better_42 : decode cX5_better 42 = .ok (.getfield 41, 3) := by decide +kernel
theorem dX5_better_45 : decode cX5_better 45 = .ok (.iload 4, 2) := by decide +kernel
theorem dX5_better_47 : decode cX5_better 47 = .ok (.invokevirtual 227, 3) := by decide +kernel
theorem dX5_better_50 : decode cX5_better 50 = .ok (.istore 5, 2) := by decide +kernel
theorem dX5_better_52 : decode cX5_better 52 = .ok (.iload 5, 2) := by decide +kernel
theorem dX5_better_54 : decode cX5_better 54 = .ok (.iload_n 3, 1) := by decide +kernel
theorem dX5_better_55 : decode cX5_better 55 = .ok (.if_icmp .le 9, 3) := by decide +kernel
theorem dX5_better_58 : decode cX5_better 58 = .ok (.iload 4, 2) := by decide +kernel
theorem dX5_better_60 : decode cX5_better 60 = .ok (.istore_n 2, 1) := by decide +kernel
theorem dX5_better_61 : decode cX5_better 61 = .ok (.iload 5, 2) := by decide +kernel
theorem dX5_better_63 : decode cX5_better 63 = .ok (.istore_n 3, 1) := by decide +kernel
theorem dX5_better_64 : decode cX5_better 64 = .ok (.iinc 4 1, 3) := by decide +kernel
theorem dX5_better_67 : decode cX5_better 67 = .ok (.goto (-48), 3) := by decide +kernel
theorem dX5_better_70 : decode cX5_better 70 = .ok (.iload_n 1, 1) := by decide +kernel
theorem dX5_better_71 : decode cX5_better 71 = .ok (.ifCond .ne 7, 3) := by decide +kernel
theorem dX5_better_74 : decode cX5_better 74 = .ok (.iload_n 2, 1) := by decide +kernel
theorem dX5_better_75 : decode cX5_better 75 = .ok (.goto 4, 3) := by decide +kernel
theorem dX5_better_78 : decode cX5_better 78 = .ok (.iload_n 3, 1) := by decide +kernel
theorem dX5_better_79 : decode cX5_better 79 = .ok (.ireturn, 1) := by decide +kernel
theorem dX5_sheet_0 : decode cX5_sheet 0 = .ok (.iload_n 1, 1) := by decide +kernel
theorem dX5_sheet_1 : decode cX5_sheet 1 = .ok (.invokestatic 121, 3) := by decide +kernel
theorem dX5_sheet_4 : decode cX5_sheet 4 = .ok (.ifCond .eq 16, 3) := by decide +kernel
theorem dX5_sheet_7 : decode cX5_sheet 7 = .ok (.iload_n 2, 1) := by decide +kernel
theorem dX5_sheet_8 : decode cX5_sheet 8 = .ok (.invokestatic 235, 3) := by decide +kernel
theorem dX5_sheet_11 : decode cX5_sheet 11 = .ok (.ifCond .eq 9, 3) := by decide +kernel
theorem dX5_sheet_14 : decode cX5_sheet 14 = .ok (.iload_n 3, 1) := by decide +kernel
theorem dX5_sheet_15 : decode cX5_sheet 15 = .ok (.bipush 60, 2) := by decide +kernel
theorem dX5_sheet_17 : decode cX5_sheet 17 = .ok (.if_icmp .le 6, 3) := by decide +kernel
theorem dX5_sheet_20 : decode cX5_sheet 20 = .ok (.bipush (-2), 2) := by decide +kernel
theorem dX5_sheet_22 : decode cX5_sheet 22 = .ok (.ireturn, 1) := by decide +kernel
theorem dX5_sheet_23 : decode cX5_sheet 23 = .ok (.iload_n 3, 1) := by decide +kernel
theorem dX5_sheet_24 : decode cX5_sheet 24 = .ok (.ifCond .ge 9, 3) := by decide +kernel
theorem dX5_sheet_27 : decode cX5_sheet 27 = .ok (.aload_n 0, 1) := by decide +kernel
theorem dX5_sheet_28 : decode cX5_sheet 28 = .ok (.iconst 5, 1) := by decide +kernel
theorem dX5_sheet_29 : decode cX5_sheet 29 = .ok (.invokevirtual 128, 3) := by decide +kernel
theorem dX5_sheet_32 : decode cX5_sheet 32 = .ok (.ireturn, 1) := by decide +kernel
theorem dX5_sheet_33 : decode cX5_sheet 33 = .ok (.aload_n 0, 1) := by decide +kernel
theorem dX5_sheet_34 : decode cX5_sheet 34 = .ok (.getfield 46, 3) := by decide +kernel
theorem dX5_sheet_37 : decode cX5_sheet 37 = .ok (.iload_n 1, 1) := by decide +kernel
theorem dX5_sheet_38 : decode cX5_sheet 38 = .ok (.aaload, 1) := by decide +kernel
theorem dX5_sheet_39 : decode cX5_sheet 39 = .ok (.iload_n 2, 1) := by decide +kernel
theorem dX5_sheet_40 : decode cX5_sheet 40 = .ok (.iload_n 3, 1) := by decide +kernel
theorem dX5_sheet_41 : decode cX5_sheet 41 = .ok (.invokevirtual 238, 3) := by decide +kernel
theorem dX5_sheet_44 : decode cX5_sheet 44 = .ok (.iload_n 3, 1) := by decide +kernel
theorem dX5_sheet_45 : decode cX5_sheet 45 = .ok (.ireturn, 1) := by decide +kernel
theorem dX5_lose_0 : decode cX5_lose 0 = .ok (.iload_n 1, 1) := by decide +kernel
theorem dX5_lose_1 : decode cX5_lose 1 = .ok (.invokestatic 121, 3) := by decide +kernel
theorem dX5_lose_4 : decode cX5_lose 4 = .ok (.ifCond .ne 6, 3) := by decide +kernel
theorem dX5_lose_7 : decode cX5_lose 7 = .ok (.bipush (-2), 2) := by decide +kernel
theorem dX5_lose_9 : decode cX5_lose 9 = .ok (.ireturn, 1) := by decide +kernel
theorem dX5_lose_10 : decode cX5_lose 10 = .ok (.aload_n 0, 1) := by decide +kernel
theorem dX5_lose_11 : decode cX5_lose 11 = .ok (.getfield 46, 3) := by decide +kernel
theorem dX5_lose_14 : decode cX5_lose 14 = .ok (.iload_n 1, 1) := by decide +kernel
theorem dX5_lose_15 : decode cX5_lose 15 = .ok (.aaload, 1) := by decide +kernel
theorem dX5_lose_16 : decode cX5_lose 16 = .ok (.getfield 124, 3) := by decide +kernel
theorem dX5_lose_19 : decode cX5_lose 19 = .ok (.ifCond .eq 9, 3) := by decide +kernel
theorem dX5_lose_22 : decode cX5_lose 22 = .ok (.aload_n 0, 1) := by decide +kernel
theorem dX5_lose_23 : decode cX5_lose 23 = .ok (.iconst 1, 1) := by decide +kernel
theorem dX5_lose_24 : decode cX5_lose 24 = .ok (.invokevirtual 128, 3) := by decide +kernel
theorem dX5_lose_27 : decode cX5_lose 27 = .ok (.ireturn, 1) := by decide +kernel
theorem dX5_lose_28 : decode cX5_lose 28 = .ok (.aload_n 0, 1) := by decide +kernel
theorem dX5_lose_29 : decode cX5_lose 29 = .ok (.getfield 46, 3) := by decide +kernel
theorem dX5_lose_32 : decode cX5_lose 32 = .ok (.iload_n 1, 1) := by decide +kernel
theorem dX5_lose_33 : decode cX5_lose 33 = .ok (.aaload, 1) := by decide +kernel
theorem dX5_lose_34 : decode cX5_lose 34 = .ok (.iconst 1, 1) := by decide +kernel
theorem dX5_lose_35 : decode cX5_lose 35 = .ok (.putfield 124, 3) := by decide +kernel
theorem dX5_lose_38 : decode cX5_lose 38 = .ok (.aload_n 0, 1) := by decide +kernel
theorem dX5_lose_39 : decode cX5_lose 39 = .ok (.getfield 46, 3) := by decide +kernel
theorem dX5_lose_42 : decode cX5_lose 42 = .ok (.iload_n 1, 1) := by decide +kernel
theorem dX5_lose_43 : decode cX5_lose 43 = .ok (.aaload, 1) := by decide +kernel
theorem dX5_lose_44 : decode cX5_lose 44 = .ok (.getfield 131, 3) := by decide +kernel
theorem dX5_lose_47 : decode cX5_lose 47 = .ok (.ireturn, 1) := by decide +kernel
theorem dX5_lay_0 : decode cX5_lay 0 = .ok (.iload_n 1, 1) := by decide +kernel
theorem dX5_lay_1 : decode cX5_lay 1 = .ok (.invokestatic 121, 3) := by decide +kernel
theorem dX5_lay_4 : decode cX5_lay 4 = .ok (.ifCond .eq 10, 3) := by decide +kernel
theorem dX5_lay_7 : decode cX5_lay 7 = .ok (.iload_n 2, 1) := by decide +kernel
theorem dX5_lay_8 : decode cX5_lay 8 = .ok (.invokestatic 235, 3) := by decide +kernel
theorem dX5_lay_11 : decode cX5_lay 11 = .ok (.ifCond .ne 6, 3) := by decide +kernel
theorem dX5_lay_14 : decode cX5_lay 14 = .ok (.bipush (-2), 2) := by decide +kernel
theorem dX5_lay_16 : decode cX5_lay 16 = .ok (.ireturn, 1) := by decide +kernel
theorem dX5_lay_17 : decode cX5_lay 17 = .ok (.aload_n 0, 1) := by decide +kernel
theorem dX5_lay_18 : decode cX5_lay 18 = .ok (.getfield 46, 3) := by decide +kernel
theorem dX5_lay_21 : decode cX5_lay 21 = .ok (.iload_n 1, 1) := by decide +kernel
theorem dX5_lay_22 : decode cX5_lay 22 = .ok (.aaload, 1) := by decide +kernel
theorem dX5_lay_23 : decode cX5_lay 23 = .ok (.iload_n 2, 1) := by decide +kernel
theorem dX5_lay_24 : decode cX5_lay 24 = .ok (.iload_n 3, 1) := by decide +kernel
theorem dX5_lay_25 : decode cX5_lay 25 = .ok (.invokevirtual 241, 3) := by decide +kernel
theorem dX5_lay_28 : decode cX5_lay 28 = .ok (.istore 5, 2) := by decide +kernel
theorem dX5_lay_30 : decode cX5_lay 30 = .ok (.iload 5, 2) := by decide +kernel
theorem dX5_lay_32 : decode cX5_lay 32 = .ok (.ifCond .eq 10, 3) := by decide +kernel
theorem dX5_lay_35 : decode cX5_lay 35 = .ok (.aload_n 0, 1) := by decide +kernel
theorem dX5_lay_36 : decode cX5_lay 36 = .ok (.iload 5, 2) := by decide +kernel
theorem dX5_lay_38 : decode cX5_lay 38 = .ok (.invokevirtual 128, 3) := by decide +kernel
theorem dX5_lay_41 : decode cX5_lay 41 = .ok (.ireturn, 1) := by decide +kernel
theorem dX5_lay_42 : decode cX5_lay 42 = .ok (.aload_n 0, 1) := by decide +kernel
theorem dX5_lay_43 : decode cX5_lay 43 = .ok (.getfield 46, 3) := by decide +kernel
theorem dX5_lay_46 : decode cX5_lay 46 = .ok (.iload_n 1, 1) := by decide +kernel
theorem dX5_lay_47 : decode cX5_lay 47 = .ok (.aaload, 1) := by decide +kernel
theorem dX5_lay_48 : decode cX5_lay 48 = .ok (.iload_n 3, 1) := by decide +kernel
theorem dX5_lay_49 : decode cX5_lay 49 = .ok (.iload 4, 2) := by decide +kernel
theorem dX5_lay_51 : decode cX5_lay 51 = .ok (.invokevirtual 244, 3) := by decide +kernel
theorem dX5_lay_54 : decode cX5_lay 54 = .ok (.iconst 1, 1) := by decide +kernel
theorem dX5_lay_55 : decode cX5_lay 55 = .ok (.ireturn, 1) := by decide +kernel
theorem dX5_get_0 : decode cX5_get 0 = .ok (.iload_n 1, 1) := by decide +kernel
theorem dX5_get_1 : decode cX5_get 1 = .ok (.invokestatic 121, 3) := by decide +kernel
theorem dX5_get_4 : decode cX5_get 4 = .ok (.ifCond .eq 10, 3) := by decide +kernel
theorem dX5_get_7 : decode cX5_get 7 = .ok (.iload_n 2, 1) := by decide +kernel
theorem dX5_get_8 : decode cX5_get 8 = .ok (.invokestatic 235, 3) := by decide +kernel
theorem dX5_get_11 : decode cX5_get 11 = .ok (.ifCond .ne 6, 3) := by decide +kernel
theorem dX5_get_14 : decode cX5_get 14 = .ok (.ldc 181, 2) := by decide +kernel
theorem dX5_get_16 : decode cX5_get 16 = .ok (.ireturn, 1) := by decide +kernel
theorem dX5_get_17 : decode cX5_get 17 = .ok (.aload_n 0, 1) := by decide +kernel
theorem dX5_get_18 : decode cX5_get 18 = .ok (.getfield 46, 3) := by decide +kernel
theorem dX5_get_21 : decode cX5_get 21 = .ok (.iload_n 1, 1) := by decide +kernel
theorem dX5_get_22 : decode cX5_get 22 = .ok (.aaload, 1) := by decide +kernel
theorem dX5_get_23 : decode cX5_get 23 = .ok (.iload_n 2, 1) := by decide +kernel
theorem dX5_get_24 : decode cX5_get 24 = .ok (.iload_n 3, 1) := by decide +kernel
theorem dX5_get_25 : decode cX5_get 25 = .ok (.invokevirtual 241, 3) := by decide +kernel
theorem dX5_get_28 : decode cX5_get 28 = .ok (.istore 4, 2) := by decide +kernel
theorem dX5_get_30 : decode cX5_get 30 = .ok (.iload 4, 2) := by decide +kernel
theorem dX5_get_32 : decode cX5_get 32 = .ok (.ifCond .eq 13, 3) := by decide +kernel
theorem dX5_get_35 : decode cX5_get 35 = .ok (.aload_n 0, 1) := by decide +kernel
theorem dX5_get_36 : decode cX5_get 36 = .ok (.iload 4, 2) := by decide +kernel
theorem dX5_get_38 : decode cX5_get 38 = .ok (.invokevirtual 128, 3) := by decide +kernel
theorem dX5_get_41 : decode cX5_get 41 = .ok (.pop, 1) := by decide +kernel
theorem dX5_get_42 : decode cX5_get 42 = .ok (.ldc 181, 2) := by decide +kernel
theorem dX5_get_44 : decode cX5_get 44 = .ok (.ireturn, 1) := by decide +kernel
theorem dX5_get_45 : decode cX5_get 45 = .ok (.aload_n 0, 1) := by decide +kernel
theorem dX5_get_46 : decode cX5_get 46 = .ok (.getfield 46, 3) := by decide +kernel
theorem dX5_get_49 : decode cX5_get 49 = .ok (.iload_n 1, 1) := by decide +kernel
theorem dX5_get_50 : decode cX5_get 50 = .ok (.aaload, 1) := by decide +kernel
theorem dX5_get_51 : decode cX5_get 51 = .ok (.getfield 132, 3) := by decide +kernel
theorem dX5_get_54 : decode cX5_get 54 = .ok (.iload_n 3, 1) := by decide +kernel
theorem dX5_get_55 : decode cX5_get 55 = .ok (.iaload, 1) := by decide +kernel
theorem dX5_get_56 : decode cX5_get 56 = .ok (.ireturn, 1) := by decide +kernel
theorem dX5_copy_0 : decode cX5_copy 0 = .ok (.iload_n 1, 1) := by decide +kernel
theorem dX5_copy_1 : decode cX5_copy 1 = .ok (.invokestatic 121, 3) := by decide +kernel
theorem dX5_copy_4 : decode cX5_copy 4 = .ok (.ifCond .eq 10, 3) := by decide +kernel
theorem dX5_copy_7 : decode cX5_copy 7 = .ok (.iload_n 3, 1) := by decide +kernel
theorem dX5_copy_8 : decode cX5_copy 8 = .ok (.invokestatic 121, 3) := by decide +kernel
theorem dX5_copy_11 : decode cX5_copy 11 = .ok (.ifCond .ne 6, 3) := by decide +kernel
theorem dX5_copy_14 : decode cX5_copy 14 = .ok (.bipush (-2), 2) := by decide +kernel
theorem dX5_copy_16 : decode cX5_copy 16 = .ok (.ireturn, 1) := by decide +kernel
theorem dX5_copy_17 : decode cX5_copy 17 = .ok (.aload_n 0, 1) := by decide +kernel
theorem dX5_copy_18 : decode cX5_copy 18 = .ok (.getfield 46, 3) := by decide +kernel
theorem dX5_copy_21 : decode cX5_copy 21 = .ok (.iload_n 1, 1) := by decide +kernel
theorem dX5_copy_22 : decode cX5_copy 22 = .ok (.aaload, 1) := by decide +kernel
theorem dX5_copy_23 : decode cX5_copy 23 = .ok (.astore 6, 2) := by decide +kernel
theorem dX5_copy_25 : decode cX5_copy 25 = .ok (.aload_n 0, 1) := by decide +kernel
theorem dX5_copy_26 : decode cX5_copy 26 = .ok (.getfield 46, 3) := by decide +kernel
theorem dX5_copy_29 : decode cX5_copy 29 = .ok (.iload_n 3, 1) := by decide +kernel
theorem dX5_copy_30 : decode cX5_copy 30 = .ok (.aaload, 1) := by decide +kernel
theorem dX5_copy_31 : decode cX5_copy 31 = .ok (.astore 7, 2) := by decide +kernel
theorem dX5_copy_33 : decode cX5_copy 33 = .ok (.aload 6, 2) := by decide +kernel
theorem dX5_copy_35 : decode cX5_copy 35 = .ok (.getfield 124, 3) := by decide +kernel
theorem dX5_copy_38 : decode cX5_copy 38 = .ok (.ifCond .ne 11, 3) := by decide +kernel
theorem dX5_copy_41 : decode cX5_copy 41 = .ok (.aload 7, 2) := by decide +kernel
theorem dX5_copy_43 : decode cX5_copy 43 = .ok (.getfield 124, 3) := by decide +kernel
theorem dX5_copy_46 : decode cX5_copy 46 = .ok (.ifCond .eq 9, 3) := by decide +kernel
theorem dX5_copy_49 : decode cX5_copy 49 = .ok (.aload_n 0, 1) := by decide +kernel
theorem dX5_copy_50 : decode cX5_copy 50 = .ok (.iconst 1, 1) := by decide +kernel
theorem dX5_copy_51 : decode cX5_copy 51 = .ok (.invokevirtual 128, 3) := by decide +kernel
theorem dX5_copy_54 : decode cX5_copy 54 = .ok (.ireturn, 1) := by decide +kernel
theorem dX5_copy_55 : decode cX5_copy 55 = .ok (.aload 6, 2) := by decide +kernel
theorem dX5_copy_57 : decode cX5_copy 57 = .ok (.getfield 247, 3) := by decide +kernel
theorem dX5_copy_60 : decode cX5_copy 60 = .ok (.aload 7, 2) := by decide +kernel
theorem dX5_copy_62 : decode cX5_copy 62 = .ok (.getfield 247, 3) := by decide +kernel
theorem dX5_copy_65 : decode cX5_copy 65 = .ok (.if_icmp .eq 9, 3) := by decide +kernel
theorem dX5_copy_68 : decode cX5_copy 68 = .ok (.aload_n 0, 1) := by decide +kernel
theorem dX5_copy_69 : decode cX5_copy 69 = .ok (.iconst 4, 1) := by decide +kernel
theorem dX5_copy_70 : decode cX5_copy 70 = .ok (.invokevirtual 128, 3) := by decide +kernel
theorem dX5_copy_73 : decode cX5_copy 73 = .ok (.ireturn, 1) := by decide +kernel
theorem dX5_copy_74 : decode cX5_copy 74 = .ok (.aload 6, 2) := by decide +kernel
theorem dX5_copy_76 : decode cX5_copy 76 = .ok (.iload_n 2, 1) := by decide +kernel
theorem dX5_copy_77 : decode cX5_copy 77 = .ok (.iload 5, 2) := by decide +kernel
theorem dX5_copy_79 : decode cX5_copy 79 = .ok (.invokevirtual 250, 3) := by decide +kernel
theorem dX5_copy_82 : decode cX5_copy 82 = .ok (.ifCond .eq 15, 3) := by decide +kernel
theorem dX5_copy_85 : decode cX5_copy 85 = .ok (.aload 7, 2) := by decide +kernel
theorem dX5_copy_87 : decode cX5_copy 87 = .ok (.iload 4, 2) := by decide +kernel
theorem dX5_copy_89 : decode cX5_copy 89 = .ok (.iload 5, 2) := by decide +kernel
theorem dX5_copy_91 : decode cX5_copy 91 = .ok (.invokevirtual 250, 3) := by decide +kernel
theorem dX5_copy_94 : decode cX5_copy 94 = .ok (.ifCond .ne 9, 3) := by decide +kernel
theorem dX5_copy_97 : decode cX5_copy 97 = .ok (.aload_n 0, 1) := by decide +kernel
theorem dX5_copy_98 : decode cX5_copy 98 = .ok (.iconst 2, 1) := by decide +kernel
theorem dX5_copy_99 : decode cX5_copy 99 = .ok (.invokevirtual 128, 3) := by decide +kernel
theorem dX5_copy_102 : decode cX5_copy 102 = .ok (.ireturn, 1) := by decide +kernel
theorem dX5_copy_103 : decode cX5_copy 103 = .ok (.aload 6, 2) := by decide +kernel
theorem dX5_copy_105 : decode cX5_copy 105 = .ok (.getfield 132, 3) := by decide +kernel
theorem dX5_copy_108 : decode cX5_copy 108 = .ok (.iload_n 2, 1) := by decide +kernel
theorem dX5_copy_109 : decode cX5_copy 109 = .ok (.aload 7, 2) := by decide +kernel
theorem dX5_copy_111 : decode cX5_copy 111 = .ok (.getfield 132, 3) := by decide +kernel
theorem dX5_copy_114 : decode cX5_copy 114 = .ok (.iload 4, 2) := by decide +kernel
theorem dX5_copy_116 : decode cX5_copy 116 = .ok (.iload 5, 2) := by decide +kernel
theorem dX5_copy_118 : decode cX5_copy 118 = .ok (.invokestatic 253, 3) := by decide +kernel
theorem dX5_copy_121 : decode cX5_copy 121 = .ok (.iconst 1, 1) := by decide +kernel
theorem dX5_copy_122 : decode cX5_copy 122 = .ok (.ireturn, 1) := by decide +kernel
theorem dX5_tell_0 : decode cX5_tell 0 = .ok (.iload_n 1, 1) := by decide +kernel
theorem dX5_tell_1 : decode cX5_tell 1 = .ok (.ifCond .lt 17, 3) := by decide +kernel
theorem dX5_tell_4 : decode cX5_tell 4 = .ok (.iload_n 1, 1) := by decide +kernel
theorem dX5_tell_5 : decode cX5_tell 5 = .ok (.sipush 400, 3) := by decide +kernel
theorem dX5_tell_8 : decode cX5_tell 8 = .ok (.if_icmp .gt 10, 3) := by decide +kernel
theorem dX5_tell_11 : decode cX5_tell 11 = .ok (.iload_n 2, 1) := by decide +kernel
theorem dX5_tell_12 : decode cX5_tell 12 = .ok (.invokestatic 121, 3) := by decide +kernel
theorem dX5_tell_15 : decode cX5_tell 15 = .ok (.ifCond .ne 6, 3) := by decide +kernel
theorem dX5_tell_18 : decode cX5_tell 18 = .ok (.bipush (-2), 2) := by decide +kernel
theorem dX5_tell_20 : decode cX5_tell 20 = .ok (.ireturn, 1) := by decide +kernel
theorem dX5_tell_21 : decode cX5_tell 21 = .ok (.aload_n 0, 1) := by decide +kernel
theorem dX5_tell_22 : decode cX5_tell 22 = .ok (.getfield 46, 3) := by decide +kernel
theorem dX5_tell_25 : decode cX5_tell 25 = .ok (.iload_n 2, 1) := by decide +kernel
theorem dX5_tell_26 : decode cX5_tell 26 = .ok (.aaload, 1) := by decide +kernel
theorem dX5_tell_27 : decode cX5_tell 27 = .ok (.astore_n 3, 1) := by decide +kernel
theorem dX5_tell_28 : decode cX5_tell 28 = .ok (.aload_n 3, 1) := by decide +kernel
theorem dX5_tell_29 : decode cX5_tell 29 = .ok (.getfield 124, 3) := by decide +kernel
theorem dX5_tell_32 : decode cX5_tell 32 = .ok (.ifCond .eq 9, 3) := by decide +kernel
theorem dX5_tell_35 : decode cX5_tell 35 = .ok (.aload_n 0, 1) := by decide +kernel
theorem dX5_tell_36 : decode cX5_tell 36 = .ok (.iconst 1, 1) := by decide +kernel
theorem dX5_tell_37 : decode cX5_tell 37 = .ok (.invokevirtual 128, 3) := by decide +kernel
theorem dX5_tell_40 : decode cX5_tell 40 = .ok (.ireturn, 1) := by decide +kernel
theorem dX5_tell_41 : decode cX5_tell 41 = .ok (.aload_n 3, 1) := by decide +kernel
theorem dX5_tell_42 : decode cX5_tell 42 = .ok (.getfield 131, 3) := by decide +kernel
theorem dX5_tell_45 : decode cX5_tell 45 = .ok (.iconst 0, 1) := by decide +kernel
theorem dX5_tell_46 : decode cX5_tell 46 = .ok (.aload_n 0, 1) := by decide +kernel
theorem dX5_tell_47 : decode cX5_tell 47 = .ok (.getfield 19, 3) := by decide +kernel
theorem dX5_tell_50 : decode cX5_tell 50 = .ok (.getfield 156, 3) := by decide +kernel
theorem dX5_tell_53 : decode cX5_tell 53 = .ok (.iload_n 1, 1) := by decide +kernel
theorem dX5_tell_54 : decode cX5_tell 54 = .ok (.isub, 1) := by decide +kernel
theorem dX5_tell_55 : decode cX5_tell 55 = .ok (.invokestatic 259, 3) := by decide +kernel
theorem dX5_tell_58 : decode cX5_tell 58 = .ok (.invokestatic 216, 3) := by decide +kernel
theorem dX5_tell_61 : decode cX5_tell 61 = .ok (.istore 4, 2) := by decide +kernel
theorem dX5_tell_63 : decode cX5_tell 63 = .ok (.iconst 0, 1) := by decide +kernel
theorem dX5_tell_64 : decode cX5_tell 64 = .ok (.istore 5, 2) := by decide +kernel
theorem dX5_tell_66 : decode cX5_tell 66 = .ok (.iload 5, 2) := by decide +kernel
theorem dX5_tell_68 : decode cX5_tell 68 = .ok (.iload 4, 2) := by decide +kernel
theorem dX5_tell_70 : decode cX5_tell 70 = .ok (.if_icmp .ge 27, 3) := by decide +kernel
theorem dX5_tell_73 : decode cX5_tell 73 = .ok (.aload_n 3, 1) := by decide +kernel
theorem dX5_tell_74 : decode cX5_tell 74 = .ok (.iload 5, 2) := by decide +kernel
theorem dX5_tell_76 : decode cX5_tell 76 = .ok (.aload_n 0, 1) := by decide +kernel
theorem dX5_tell_77 : decode cX5_tell 77 = .ok (.getfield 19, 3) := by decide +kernel
theorem dX5_tell_80 : decode cX5_tell 80 = .ok (.getfield 158, 3) := by decide +kernel
theorem dX5_tell_83 : decode cX5_tell 83 = .ok (.iload_n 1, 1) := by decide +kernel
theorem dX5_tell_84 : decode cX5_tell 84 = .ok (.iload 5, 2) := by decide +kernel
theorem dX5_tell_86 : decode cX5_tell 86 = .ok (.iadd, 1) := by decide +kernel
theorem dX5_tell_87 : decode cX5_tell 87 = .ok (.iaload, 1) := by decide +kernel
theorem dX5_tell_88 : decode cX5_tell 88 = .ok (.invokevirtual 244, 3) := by decide +kernel
theorem dX5_tell_91 : decode cX5_tell 91 = .ok (.iinc 5 1, 3) := by decide +kernel
theorem dX5_tell_94 : decode cX5_tell 94 = .ok (.goto (-28), 3) := by decide +kernel
theorem dX5_tell_97 : decode cX5_tell 97 = .ok (.iload 4, 2) := by decide +kernel
theorem dX5_tell_99 : decode cX5_tell 99 = .ok (.ireturn, 1) := by decide +kernel
theorem dX5_count_0 : decode cX5_count 0 = .ok (.iload_n 1, 1) := by decide +kernel
theorem dX5_count_1 : decode cX5_count 1 = .ok (.tableswitch 131 0 8 #[51, 59, 67, 75, 80, 90, 109, 114, 126], 51) := by decide +kernel
theorem dX5_count_52 : decode cX5_count 52 = .ok (.aload_n 0, 1) := by decide +kernel
theorem dX5_count_53 : decode cX5_count 53 = .ok (.getfield 12, 3) := by decide +kernel
theorem dX5_count_56 : decode cX5_count 56 = .ok (.getfield 82, 3) := by decide +kernel
theorem dX5_count_59 : decode cX5_count 59 = .ok (.ireturn, 1) := by decide +kernel
theorem dX5_count_60 : decode cX5_count 60 = .ok (.aload_n 0, 1) := by decide +kernel
theorem dX5_count_61 : decode cX5_count 61 = .ok (.getfield 12, 3) := by decide +kernel
theorem dX5_count_64 : decode cX5_count 64 = .ok (.getfield 70, 3) := by decide +kernel
theorem dX5_count_67 : decode cX5_count 67 = .ok (.ireturn, 1) := by decide +kernel
theorem dX5_count_68 : decode cX5_count 68 = .ok (.aload_n 0, 1) := by decide +kernel
theorem dX5_count_69 : decode cX5_count 69 = .ok (.getfield 19, 3) := by decide +kernel
theorem dX5_count_72 : decode cX5_count 72 = .ok (.getfield 156, 3) := by decide +kernel
theorem dX5_count_75 : decode cX5_count 75 = .ok (.ireturn, 1) := by decide +kernel
theorem dX5_count_76 : decode cX5_count 76 = .ok (.aload_n 0, 1) := by decide +kernel
theorem dX5_count_77 : decode cX5_count 77 = .ok (.invokevirtual 231, 3) := by decide +kernel
theorem dX5_count_80 : decode cX5_count 80 = .ok (.ireturn, 1) := by decide +kernel
theorem dX5_count_81 : decode cX5_count 81 = .ok (.aload_n 0, 1) := by decide +kernel
theorem dX5_count_82 : decode cX5_count 82 = .ok (.aload_n 0, 1) := by decide +kernel
theorem dX5_count_83 : decode cX5_count 83 = .ok (.getfield 37, 3) := by decide +kernel
theorem dX5_count_86 : decode cX5_count 86 = .ok (.iconst (-1), 1) := by decide +kernel
theorem dX5_count_87 : decode cX5_count 87 = .ok (.invokevirtual 227, 3) := by decide +kernel
theorem dX5_count_90 : decode cX5_count 90 = .ok (.ireturn, 1) := by decide +kernel
theorem dX5_count_91 : decode cX5_count 91 = .ok (.aload_n 0, 1) := by decide +kernel
theorem dX5_count_92 : decode cX5_count 92 = .ok (.getfield 37, 3) := by decide +kernel
theorem dX5_count_95 : decode cX5_count 95 = .ok (.getfield 262, 3) := by decide +kernel
theorem dX5_count_98 : decode cX5_count 98 = .ok (.aload_n 0, 1) := by decide +kernel
theorem dX5_count_99 : decode cX5_count 99 = .ok (.getfield 12, 3) := by decide +kernel
theorem dX5_count_102 : decode cX5_count 102 = .ok (.getfield 70, 3) := by decide +kernel
theorem dX5_count_105 : decode cX5_count 105 = .ok (.iaload, 1) := by decide +kernel
theorem dX5_count_106 : decode cX5_count 106 = .ok (.invokestatic 265, 3) := by decide +kernel
theorem dX5_count_109 : decode cX5_count 109 = .ok (.ireturn, 1) := by decide +kernel
theorem dX5_count_110 : decode cX5_count 110 = .ok (.aload_n 0, 1) := by decide +kernel
theorem dX5_count_111 : decode cX5_count 111 = .ok (.invokevirtual 270, 3) := by decide +kernel
theorem dX5_count_114 : decode cX5_count 114 = .ok (.ireturn, 1) := by decide +kernel
theorem dX5_count_115 : decode cX5_count 115 = .ok (.aload_n 0, 1) := by decide +kernel
theorem dX5_count_116 : decode cX5_count 116 = .ok (.aload_n 0, 1) := by decide +kernel
theorem dX5_count_117 : decode cX5_count 117 = .ok (.getfield 12, 3) := by decide +kernel
theorem dX5_count_120 : decode cX5_count 120 = .ok (.getfield 70, 3) := by decide +kernel
theorem dX5_count_123 : decode cX5_count 123 = .ok (.invokevirtual 273, 3) := by decide +kernel
theorem dX5_count_126 : decode cX5_count 126 = .ok (.ireturn, 1) := by decide +kernel
theorem dX5_count_127 : decode cX5_count 127 = .ok (.aload_n 0, 1) := by decide +kernel
theorem dX5_count_128 : decode cX5_count 128 = .ok (.getfield 50, 3) := by decide +kernel
theorem dX5_count_131 : decode cX5_count 131 = .ok (.ireturn, 1) := by decide +kernel
theorem dX5_count_132 : decode cX5_count 132 = .ok (.bipush (-2), 2) := by decide +kernel
theorem dX5_count_134 : decode cX5_count 134 = .ok (.ireturn, 1) := by decide +kernel
theorem dX5_digest_0 : decode cX5_digest 0 = .ok (.ldc2_w 276, 3) := by decide +kernel
theorem dX5_digest_3 : decode cX5_digest 3 = .ok (.lstore_n 1, 1) := by decide +kernel
theorem dX5_digest_4 : decode cX5_digest 4 = .ok (.iconst 0, 1) := by decide +kernel
theorem dX5_digest_5 : decode cX5_digest 5 = .ok (.istore_n 3, 1) := by decide +kernel
theorem dX5_digest_6 : decode cX5_digest 6 = .ok (.iload_n 3, 1) := by decide +kernel
theorem dX5_digest_7 : decode cX5_digest 7 = .ok (.bipush 7, 2) := by decide +kernel
theorem dX5_digest_9 : decode cX5_digest 9 = .ok (.if_icmp .gt 22, 3) := by decide +kernel
theorem dX5_digest_12 : decode cX5_digest 12 = .ok (.ldc2_w 278, 3) := by decide +kernel
theorem dX5_digest_15 : decode cX5_digest 15 = .ok (.lload_n 1, 1) := by decide +kernel
theorem dX5_digest_16 : decode cX5_digest 16 = .ok (.lmul, 1) := by decide +kernel
theorem dX5_digest_17 : decode cX5_digest 17 = .ok (.aload_n 0, 1) := by decide +kernel
theorem dX5_digest_18 : decode cX5_digest 18 = .ok (.iload_n 3, 1) := by decide +kernel
theorem dX5_digest_19 : decode cX5_digest 19 = .ok (.invokevirtual 280, 3) := by decide +kernel
theorem dX5_digest_22 : decode cX5_digest 22 = .ok (.i2l, 1) := by decide +kernel
theorem dX5_digest_23 : decode cX5_digest 23 = .ok (.ladd, 1) := by decide +kernel
theorem dX5_digest_24 : decode cX5_digest 24 = .ok (.lstore_n 1, 1) := by decide +kernel
theorem dX5_digest_25 : decode cX5_digest 25 = .ok (.iinc 3 1, 3) := by decide +kernel
theorem dX5_digest_28 : decode cX5_digest 28 = .ok (.goto (-22), 3) := by decide +kernel
theorem dX5_digest_31 : decode cX5_digest 31 = .ok (.iconst 0, 1) := by decide +kernel
theorem dX5_digest_32 : decode cX5_digest 32 = .ok (.istore_n 3, 1) := by decide +kernel
theorem dX5_digest_33 : decode cX5_digest 33 = .ok (.iload_n 3, 1) := by decide +kernel
theorem dX5_digest_34 : decode cX5_digest 34 = .ok (.bipush 8, 2) := by decide +kernel
theorem dX5_digest_36 : decode cX5_digest 36 = .ok (.if_icmp .ge 16, 3) := by decide +kernel
theorem dX5_digest_39 : decode cX5_digest 39 = .ok (.aload_n 0, 1) := by decide +kernel
theorem dX5_digest_40 : decode cX5_digest 40 = .ok (.lload_n 1, 1) := by decide +kernel
theorem dX5_digest_41 : decode cX5_digest 41 = .ok (.iload_n 3, 1) := by decide +kernel
theorem dX5_digest_42 : decode cX5_digest 42 = .ok (.invokevirtual 283, 3) := by decide +kernel
theorem dX5_digest_45 : decode cX5_digest 45 = .ok (.lstore_n 1, 1) := by decide +kernel
theorem dX5_digest_46 : decode cX5_digest 46 = .ok (.iinc 3 1, 3) := by decide +kernel
theorem dX5_digest_49 : decode cX5_digest 49 = .ok (.goto (-16), 3) := by decide +kernel
theorem dX5_digest_52 : decode cX5_digest 52 = .ok (.iconst 0, 1) := by decide +kernel
theorem dX5_digest_53 : decode cX5_digest 53 = .ok (.istore_n 3, 1) := by decide +kernel
theorem dX5_digest_54 : decode cX5_digest 54 = .ok (.iload_n 3, 1) := by decide +kernel
theorem dX5_digest_55 : decode cX5_digest 55 = .ok (.bipush 16, 2) := by decide +kernel
theorem dX5_digest_57 : decode cX5_digest 57 = .ok (.if_icmp .ge 16, 3) := by decide +kernel
theorem dX5_digest_60 : decode cX5_digest 60 = .ok (.aload_n 0, 1) := by decide +kernel
theorem dX5_digest_61 : decode cX5_digest 61 = .ok (.lload_n 1, 1) := by decide +kernel
theorem dX5_digest_62 : decode cX5_digest 62 = .ok (.iload_n 3, 1) := by decide +kernel
theorem dX5_digest_63 : decode cX5_digest 63 = .ok (.invokevirtual 287, 3) := by decide +kernel
theorem dX5_digest_66 : decode cX5_digest 66 = .ok (.lstore_n 1, 1) := by decide +kernel
theorem dX5_digest_67 : decode cX5_digest 67 = .ok (.iinc 3 1, 3) := by decide +kernel
theorem dX5_digest_70 : decode cX5_digest 70 = .ok (.goto (-16), 3) := by decide +kernel
theorem dX5_digest_73 : decode cX5_digest 73 = .ok (.iconst 0, 1) := by decide +kernel
theorem dX5_digest_74 : decode cX5_digest 74 = .ok (.istore_n 3, 1) := by decide +kernel
theorem dX5_digest_75 : decode cX5_digest 75 = .ok (.iload_n 3, 1) := by decide +kernel
theorem dX5_digest_76 : decode cX5_digest 76 = .ok (.aload_n 0, 1) := by decide +kernel
theorem dX5_digest_77 : decode cX5_digest 77 = .ok (.getfield 12, 3) := by decide +kernel
theorem dX5_digest_80 : decode cX5_digest 80 = .ok (.getfield 82, 3) := by decide +kernel
theorem dX5_digest_83 : decode cX5_digest 83 = .ok (.if_icmp .ge 21, 3) := by decide +kernel
theorem dX5_digest_86 : decode cX5_digest 86 = .ok (.aload_n 0, 1) := by decide +kernel
theorem dX5_digest_87 : decode cX5_digest 87 = .ok (.aload_n 0, 1) := by decide +kernel
theorem dX5_digest_88 : decode cX5_digest 88 = .ok (.lload_n 1, 1) := by decide +kernel
theorem dX5_digest_89 : decode cX5_digest 89 = .ok (.iload_n 3, 1) := by decide +kernel
theorem dX5_digest_90 : decode cX5_digest 90 = .ok (.invokevirtual 290, 3) := by decide +kernel
theorem dX5_digest_93 : decode cX5_digest 93 = .ok (.iload_n 3, 1) := by decide +kernel
theorem dX5_digest_94 : decode cX5_digest 94 = .ok (.invokevirtual 293, 3) := by decide +kernel
theorem dX5_digest_97 : decode cX5_digest 97 = .ok (.lstore_n 1, 1) := by decide +kernel
theorem dX5_digest_98 : decode cX5_digest 98 = .ok (.iinc 3 1, 3) := by decide +kernel
theorem dX5_digest_101 : decode cX5_digest 101 = .ok (.goto (-26), 3) := by decide +kernel
theorem dX5_digest_104 : decode cX5_digest 104 = .ok (.iconst 0, 1) := by decide +kernel
theorem dX5_digest_105 : decode cX5_digest 105 = .ok (.istore_n 3, 1) := by decide +kernel
theorem dX5_digest_106 : decode cX5_digest 106 = .ok (.iload_n 3, 1) := by decide +kernel
theorem dX5_digest_107 : decode cX5_digest 107 = .ok (.bipush 30, 2) := by decide +kernel
theorem dX5_digest_109 : decode cX5_digest 109 = .ok (.if_icmp .gt 22, 3) := by decide +kernel
theorem dX5_digest_112 : decode cX5_digest 112 = .ok (.ldc2_w 278, 3) := by decide +kernel
theorem dX5_digest_115 : decode cX5_digest 115 = .ok (.lload_n 1, 1) := by decide +kernel
theorem dX5_digest_116 : decode cX5_digest 116 = .ok (.lmul, 1) := by decide +kernel
theorem dX5_digest_117 : decode cX5_digest 117 = .ok (.aload_n 0, 1) := by decide +kernel
theorem dX5_digest_118 : decode cX5_digest 118 = .ok (.iload_n 3, 1) := by decide +kernel
theorem dX5_digest_119 : decode cX5_digest 119 = .ok (.invokevirtual 296, 3) := by decide +kernel
theorem dX5_digest_122 : decode cX5_digest 122 = .ok (.i2l, 1) := by decide +kernel
theorem dX5_digest_123 : decode cX5_digest 123 = .ok (.ladd, 1) := by decide +kernel
theorem dX5_digest_124 : decode cX5_digest 124 = .ok (.lstore_n 1, 1) := by decide +kernel
theorem dX5_digest_125 : decode cX5_digest 125 = .ok (.iinc 3 1, 3) := by decide +kernel
theorem dX5_digest_128 : decode cX5_digest 128 = .ok (.goto (-22), 3) := by decide +kernel
theorem dX5_digest_131 : decode cX5_digest 131 = .ok (.aload_n 0, 1) := by decide +kernel
theorem dX5_digest_132 : decode cX5_digest 132 = .ok (.lload_n 1, 1) := by decide +kernel
theorem dX5_digest_133 : decode cX5_digest 133 = .ok (.invokevirtual 299, 3) := by decide +kernel
theorem dX5_digest_136 : decode cX5_digest 136 = .ok (.lreturn, 1) := by decide +kernel
theorem dX5_digestRevision_0 : decode cX5_digestRevision 0 = .ok (.lload_n 1, 1) := by decide +kernel
theorem dX5_digestRevision_1 : decode cX5_digestRevision 1 = .ok (.lstore 4, 2) := by decide +kernel
theorem dX5_digestRevision_3 : decode cX5_digestRevision 3 = .ok (.iconst 0, 1) := by decide +kernel
theorem dX5_digestRevision_4 : decode cX5_digestRevision 4 = .ok (.istore 6, 2) := by decide +kernel
theorem dX5_digestRevision_6 : decode cX5_digestRevision 6 = .ok (.iload 6, 2) := by decide +kernel
theorem dX5_digestRevision_8 : decode cX5_digestRevision 8 = .ok (.iconst 3, 1) := by decide +kernel
theorem dX5_digestRevision_9 : decode cX5_digestRevision 9 = .ok (.if_icmp .gt 26, 3) := by decide +kernel
theorem dX5_digestRevision_12 : decode cX5_digestRevision 12 = .ok (.ldc2_w 278, 3) := by decide +kernel
theorem dX5_digestRevision_15 : decode cX5_digestRevision 15 = .ok (.lload 4, 2) := by decide +kernel
theorem dX5_digestRevision_17 : decode cX5_digestRevision 17 = .ok (.lmul, 1) := by decide +kernel
theorem dX5_digestRevision_18 : decode cX5_digestRevision 18 = .ok (.aload_n 0, 1) := by decide +kernel
theorem dX5_digestRevision_19 : decode cX5_digestRevision 19 = .ok (.iload_n 3, 1) := by decide +kernel
theorem dX5_digestRevision_20 : decode cX5_digestRevision 20 = .ok (.iload 6, 2) := by decide +kernel
theorem dX5_digestRevision_22 : decode cX5_digestRevision 22 = .ok (.invokevirtual 303, 3) := by decide +kernel
theorem dX5_digestRevision_25 : decode cX5_digestRevision 25 = .ok (.i2l, 1) := by decide +kernel
theorem dX5_digestRevision_26 : decode cX5_digestRevision 26 = .ok (.ladd, 1) := by decide +kernel
theorem dX5_digestRevision_27 : decode cX5_digestRevision 27 = .ok (.lstore 4, 2) := by decide +kernel
theorem dX5_digestRevision_29 : decode cX5_digestRevision 29 = .ok (.iinc 6 1, 3) := by decide +kernel
theorem dX5_digestRevision_32 : decode cX5_digestRevision 32 = .ok (.goto (-26), 3) := by decide +kernel
theorem dX5_digestRevision_35 : decode cX5_digestRevision 35 = .ok (.ldc2_w 278, 3) := by decide +kernel
theorem dX5_digestRevision_38 : decode cX5_digestRevision 38 = .ok (.lload 4, 2) := by decide +kernel
theorem dX5_digestRevision_40 : decode cX5_digestRevision 40 = .ok (.lmul, 1) := by decide +kernel
theorem dX5_digestRevision_41 : decode cX5_digestRevision 41 = .ok (.aload_n 0, 1) := by decide +kernel
theorem dX5_digestRevision_42 : decode cX5_digestRevision 42 = .ok (.iload_n 3, 1) := by decide +kernel
theorem dX5_digestRevision_43 : decode cX5_digestRevision 43 = .ok (.invokevirtual 306, 3) := by decide +kernel
theorem dX5_digestRevision_46 : decode cX5_digestRevision 46 = .ok (.i2l, 1) := by decide +kernel
theorem dX5_digestRevision_47 : decode cX5_digestRevision 47 = .ok (.ladd, 1) := by decide +kernel
theorem dX5_digestRevision_48 : decode cX5_digestRevision 48 = .ok (.lstore 4, 2) := by decide +kernel
theorem dX5_digestRevision_50 : decode cX5_digestRevision 50 = .ok (.ldc2_w 278, 3) := by decide +kernel
theorem dX5_digestRevision_53 : decode cX5_digestRevision 53 = .ok (.lload 4, 2) := by decide +kernel
theorem dX5_digestRevision_55 : decode cX5_digestRevision 55 = .ok (.lmul, 1) := by decide +kernel
theorem dX5_digestRevision_56 : decode cX5_digestRevision 56 = .ok (.aload_n 0, 1) := by decide +kernel
theorem dX5_digestRevision_57 : decode cX5_digestRevision 57 = .ok (.iload_n 3, 1) := by decide +kernel
theorem dX5_digestRevision_58 : decode cX5_digestRevision 58 = .ok (.invokevirtual 273, 3) := by decide +kernel
theorem dX5_digestRevision_61 : decode cX5_digestRevision 61 = .ok (.i2l, 1) := by decide +kernel
theorem dX5_digestRevision_62 : decode cX5_digestRevision 62 = .ok (.ladd, 1) := by decide +kernel
theorem dX5_digestRevision_63 : decode cX5_digestRevision 63 = .ok (.lreturn, 1) := by decide +kernel
theorem dX5_digestThing_0 : decode cX5_digestThing 0 = .ok (.ldc2_w 278, 3) := by decide +kernel
theorem dX5_digestThing_3 : decode cX5_digestThing 3 = .ok (.lload_n 1, 1) := by decide +kernel
theorem dX5_digestThing_4 : decode cX5_digestThing 4 = .ok (.lmul, 1) := by decide +kernel
theorem dX5_digestThing_5 : decode cX5_digestThing 5 = .ok (.aload_n 0, 1) := by decide +kernel
theorem dX5_digestThing_6 : decode cX5_digestThing 6 = .ok (.iload_n 3, 1) := by decide +kernel
theorem dX5_digestThing_7 : decode cX5_digestThing 7 = .ok (.iconst 0, 1) := by decide +kernel
theorem dX5_digestThing_8 : decode cX5_digestThing 8 = .ok (.iconst 0, 1) := by decide +kernel
theorem dX5_digestThing_9 : decode cX5_digestThing 9 = .ok (.invokevirtual 309, 3) := by decide +kernel
theorem dX5_digestThing_12 : decode cX5_digestThing 12 = .ok (.i2l, 1) := by decide +kernel
theorem dX5_digestThing_13 : decode cX5_digestThing 13 = .ok (.ladd, 1) := by decide +kernel
theorem dX5_digestThing_14 : decode cX5_digestThing 14 = .ok (.lstore 4, 2) := by decide +kernel
theorem dX5_digestThing_16 : decode cX5_digestThing 16 = .ok (.ldc2_w 278, 3) := by decide +kernel
theorem dX5_digestThing_19 : decode cX5_digestThing 19 = .ok (.lload 4, 2) := by decide +kernel
theorem dX5_digestThing_21 : decode cX5_digestThing 21 = .ok (.lmul, 1) := by decide +kernel
theorem dX5_digestThing_22 : decode cX5_digestThing 22 = .ok (.aload_n 0, 1) := by decide +kernel
theorem dX5_digestThing_23 : decode cX5_digestThing 23 = .ok (.iload_n 3, 1) := by decide +kernel
theorem dX5_digestThing_24 : decode cX5_digestThing 24 = .ok (.iconst 2, 1) := by decide +kernel
theorem dX5_digestThing_25 : decode cX5_digestThing 25 = .ok (.iconst 1, 1) := by decide +kernel
theorem dX5_digestThing_26 : decode cX5_digestThing 26 = .ok (.invokevirtual 309, 3) := by decide +kernel
theorem dX5_digestThing_29 : decode cX5_digestThing 29 = .ok (.i2l, 1) := by decide +kernel
theorem dX5_digestThing_30 : decode cX5_digestThing 30 = .ok (.ladd, 1) := by decide +kernel
theorem dX5_digestThing_31 : decode cX5_digestThing 31 = .ok (.lstore 4, 2) := by decide +kernel
theorem dX5_digestThing_33 : decode cX5_digestThing 33 = .ok (.iconst 0, 1) := by decide +kernel
theorem dX5_digestThing_34 : decode cX5_digestThing 34 = .ok (.istore 6, 2) := by decide +kernel
theorem dX5_digestThing_36 : decode cX5_digestThing 36 = .ok (.iload 6, 2) := by decide +kernel
theorem dX5_digestThing_38 : decode cX5_digestThing 38 = .ok (.iconst 2, 1) := by decide +kernel
theorem dX5_digestThing_39 : decode cX5_digestThing 39 = .ok (.if_icmp .gt 33, 3) := by decide +kernel
theorem dX5_digestThing_42 : decode cX5_digestThing 42 = .ok (.ldc2_w 278, 3) := by decide +kernel
theorem dX5_digestThing_45 : decode cX5_digestThing 45 = .ok (.lload 4, 2) := by decide +kernel
theorem dX5_digestThing_47 : decode cX5_digestThing 47 = .ok (.lmul, 1) := by decide +kernel
theorem dX5_digestThing_48 : decode cX5_digestThing 48 = .ok (.aload_n 0, 1) := by decide +kernel
theorem dX5_digestThing_49 : decode cX5_digestThing 49 = .ok (.iload_n 3, 1) := by decide +kernel
theorem dX5_digestThing_50 : decode cX5_digestThing 50 = .ok (.aload_n 0, 1) := by decide +kernel
theorem dX5_digestThing_51 : decode cX5_digestThing 51 = .ok (.getfield 12, 3) := by decide +kernel
theorem dX5_digestThing_54 : decode cX5_digestThing 54 = .ok (.getfield 70, 3) := by decide +kernel
theorem dX5_digestThing_57 : decode cX5_digestThing 57 = .ok (.iload 6, 2) := by decide +kernel
theorem dX5_digestThing_59 : decode cX5_digestThing 59 = .ok (.invokevirtual 309, 3) := by decide +kernel
theorem dX5_digestThing_62 : decode cX5_digestThing 62 = .ok (.i2l, 1) := by decide +kernel
theorem dX5_digestThing_63 : decode cX5_digestThing 63 = .ok (.ladd, 1) := by decide +kernel
theorem dX5_digestThing_64 : decode cX5_digestThing 64 = .ok (.lstore 4, 2) := by decide +kernel
theorem dX5_digestThing_66 : decode cX5_digestThing 66 = .ok (.iinc 6 1, 3) := by decide +kernel
theorem dX5_digestThing_69 : decode cX5_digestThing 69 = .ok (.goto (-33), 3) := by decide +kernel
theorem dX5_digestThing_72 : decode cX5_digestThing 72 = .ok (.lload 4, 2) := by decide +kernel
theorem dX5_digestThing_74 : decode cX5_digestThing 74 = .ok (.lreturn, 1) := by decide +kernel
theorem dX5_digestWrite_0 : decode cX5_digestWrite 0 = .ok (.lload_n 1, 1) := by decide +kernel
theorem dX5_digestWrite_1 : decode cX5_digestWrite 1 = .ok (.lstore 4, 2) := by decide +kernel
theorem dX5_digestWrite_3 : decode cX5_digestWrite 3 = .ok (.iconst 0, 1) := by decide +kernel
theorem dX5_digestWrite_4 : decode cX5_digestWrite 4 = .ok (.istore 6, 2) := by decide +kernel
theorem dX5_digestWrite_6 : decode cX5_digestWrite 6 = .ok (.iload 6, 2) := by decide +kernel
theorem dX5_digestWrite_8 : decode cX5_digestWrite 8 = .ok (.iconst 4, 1) := by decide +kernel
theorem dX5_digestWrite_9 : decode cX5_digestWrite 9 = .ok (.if_icmp .gt 26, 3) := by decide +kernel
theorem dX5_digestWrite_12 : decode cX5_digestWrite 12 = .ok (.ldc2_w 278, 3) := by decide +kernel
theorem dX5_digestWrite_15 : decode cX5_digestWrite 15 = .ok (.lload 4, 2) := by decide +kernel
theorem dX5_digestWrite_17 : decode cX5_digestWrite 17 = .ok (.lmul, 1) := by decide +kernel
theorem dX5_digestWrite_18 : decode cX5_digestWrite 18 = .ok (.aload_n 0, 1) := by decide +kernel
theorem dX5_digestWrite_19 : decode cX5_digestWrite 19 = .ok (.iload_n 3, 1) := by decide +kernel
theorem dX5_digestWrite_20 : decode cX5_digestWrite 20 = .ok (.iload 6, 2) := by decide +kernel
theorem dX5_digestWrite_22 : decode cX5_digestWrite 22 = .ok (.invokevirtual 312, 3) := by decide +kernel
theorem dX5_digestWrite_25 : decode cX5_digestWrite 25 = .ok (.i2l, 1) := by decide +kernel
theorem dX5_digestWrite_26 : decode cX5_digestWrite 26 = .ok (.ladd, 1) := by decide +kernel
theorem dX5_digestWrite_27 : decode cX5_digestWrite 27 = .ok (.lstore 4, 2) := by decide +kernel
theorem dX5_digestWrite_29 : decode cX5_digestWrite 29 = .ok (.iinc 6 1, 3) := by decide +kernel
theorem dX5_digestWrite_32 : decode cX5_digestWrite 32 = .ok (.goto (-26), 3) := by decide +kernel
theorem dX5_digestWrite_35 : decode cX5_digestWrite 35 = .ok (.iconst 0, 1) := by decide +kernel
theorem dX5_digestWrite_36 : decode cX5_digestWrite 36 = .ok (.istore 6, 2) := by decide +kernel
theorem dX5_digestWrite_38 : decode cX5_digestWrite 38 = .ok (.iload 6, 2) := by decide +kernel
theorem dX5_digestWrite_40 : decode cX5_digestWrite 40 = .ok (.iconst 3, 1) := by decide +kernel
theorem dX5_digestWrite_41 : decode cX5_digestWrite 41 = .ok (.if_icmp .gt 26, 3) := by decide +kernel
theorem dX5_digestWrite_44 : decode cX5_digestWrite 44 = .ok (.ldc2_w 278, 3) := by decide +kernel
theorem dX5_digestWrite_47 : decode cX5_digestWrite 47 = .ok (.lload 4, 2) := by decide +kernel
theorem dX5_digestWrite_49 : decode cX5_digestWrite 49 = .ok (.lmul, 1) := by decide +kernel
theorem dX5_digestWrite_50 : decode cX5_digestWrite 50 = .ok (.aload_n 0, 1) := by decide +kernel
theorem dX5_digestWrite_51 : decode cX5_digestWrite 51 = .ok (.iload_n 3, 1) := by decide +kernel
theorem dX5_digestWrite_52 : decode cX5_digestWrite 52 = .ok (.iload 6, 2) := by decide +kernel
theorem dX5_digestWrite_54 : decode cX5_digestWrite 54 = .ok (.invokevirtual 315, 3) := by decide +kernel
theorem dX5_digestWrite_57 : decode cX5_digestWrite 57 = .ok (.i2l, 1) := by decide +kernel
theorem dX5_digestWrite_58 : decode cX5_digestWrite 58 = .ok (.ladd, 1) := by decide +kernel
theorem dX5_digestWrite_59 : decode cX5_digestWrite 59 = .ok (.lstore 4, 2) := by decide +kernel
theorem dX5_digestWrite_61 : decode cX5_digestWrite 61 = .ok (.iinc 6 1, 3) := by decide +kernel
theorem dX5_digestWrite_64 : decode cX5_digestWrite 64 = .ok (.goto (-26), 3) := by decide +kernel
theorem dX5_digestWrite_67 : decode cX5_digestWrite 67 = .ok (.ldc2_w 278, 3) := by decide +kernel
theorem dX5_digestWrite_70 : decode cX5_digestWrite 70 = .ok (.lload 4, 2) := by decide +kernel
theorem dX5_digestWrite_72 : decode cX5_digestWrite 72 = .ok (.lmul, 1) := by decide +kernel
theorem dX5_digestWrite_73 : decode cX5_digestWrite 73 = .ok (.aload_n 0, 1) := by decide +kernel
theorem dX5_digestWrite_74 : decode cX5_digestWrite 74 = .ok (.iload_n 3, 1) := by decide +kernel
theorem dX5_digestWrite_75 : decode cX5_digestWrite 75 = .ok (.invokevirtual 318, 3) := by decide +kernel
theorem dX5_digestWrite_78 : decode cX5_digestWrite 78 = .ok (.i2l, 1) := by decide +kernel
theorem dX5_digestWrite_79 : decode cX5_digestWrite 79 = .ok (.ladd, 1) := by decide +kernel
theorem dX5_digestWrite_80 : decode cX5_digestWrite 80 = .ok (.lstore 4, 2) := by decide +kernel
theorem dX5_digestWrite_82 : decode cX5_digestWrite 82 = .ok (.ldc2_w 278, 3) := by decide +kernel
theorem dX5_digestWrite_85 : decode cX5_digestWrite 85 = .ok (.lload 4, 2) := by decide +kernel
theorem dX5_digestWrite_87 : decode cX5_digestWrite 87 = .ok (.lmul, 1) := by decide +kernel
theorem dX5_digestWrite_88 : decode cX5_digestWrite 88 = .ok (.aload_n 0, 1) := by decide +kernel
theorem dX5_digestWrite_89 : decode cX5_digestWrite 89 = .ok (.iload_n 3, 1) := by decide +kernel
theorem dX5_digestWrite_90 : decode cX5_digestWrite 90 = .ok (.iconst 0, 1) := by decide +kernel
theorem dX5_digestWrite_91 : decode cX5_digestWrite 91 = .ok (.invokevirtual 321, 3) := by decide +kernel
theorem dX5_digestWrite_94 : decode cX5_digestWrite 94 = .ok (.i2l, 1) := by decide +kernel
theorem dX5_digestWrite_95 : decode cX5_digestWrite 95 = .ok (.ladd, 1) := by decide +kernel
theorem dX5_digestWrite_96 : decode cX5_digestWrite 96 = .ok (.lstore 4, 2) := by decide +kernel
theorem dX5_digestWrite_98 : decode cX5_digestWrite 98 = .ok (.ldc2_w 278, 3) := by decide +kernel
theorem dX5_digestWrite_101 : decode cX5_digestWrite 101 = .ok (.lload 4, 2) := by decide +kernel
theorem dX5_digestWrite_103 : decode cX5_digestWrite 103 = .ok (.lmul, 1) := by decide +kernel
theorem dX5_digestWrite_104 : decode cX5_digestWrite 104 = .ok (.aload_n 0, 1) := by decide +kernel
theorem dX5_digestWrite_105 : decode cX5_digestWrite 105 = .ok (.iload_n 3, 1) := by decide +kernel
theorem dX5_digestWrite_106 : decode cX5_digestWrite 106 = .ok (.iconst 1, 1) := by decide +kernel
theorem dX5_digestWrite_107 : decode cX5_digestWrite 107 = .ok (.invokevirtual 321, 3) := by decide +kernel
theorem dX5_digestWrite_110 : decode cX5_digestWrite 110 = .ok (.i2l, 1) := by decide +kernel
theorem dX5_digestWrite_111 : decode cX5_digestWrite 111 = .ok (.ladd, 1) := by decide +kernel
theorem dX5_digestWrite_112 : decode cX5_digestWrite 112 = .ok (.lstore 4, 2) := by decide +kernel
theorem dX5_digestWrite_114 : decode cX5_digestWrite 114 = .ok (.ldc2_w 278, 3) := by decide +kernel
theorem dX5_digestWrite_117 : decode cX5_digestWrite 117 = .ok (.lload 4, 2) := by decide +kernel
theorem dX5_digestWrite_119 : decode cX5_digestWrite 119 = .ok (.lmul, 1) := by decide +kernel
theorem dX5_digestWrite_120 : decode cX5_digestWrite 120 = .ok (.aload_n 0, 1) := by decide +kernel
theorem dX5_digestWrite_121 : decode cX5_digestWrite 121 = .ok (.iload_n 3, 1) := by decide +kernel
theorem dX5_digestWrite_122 : decode cX5_digestWrite 122 = .ok (.invokevirtual 324, 3) := by decide +kernel
theorem dX5_digestWrite_125 : decode cX5_digestWrite 125 = .ok (.i2l, 1) := by decide +kernel
theorem dX5_digestWrite_126 : decode cX5_digestWrite 126 = .ok (.ladd, 1) := by decide +kernel
theorem dX5_digestWrite_127 : decode cX5_digestWrite 127 = .ok (.lstore 4, 2) := by decide +kernel
theorem dX5_digestWrite_129 : decode cX5_digestWrite 129 = .ok (.iconst 0, 1) := by decide +kernel
theorem dX5_digestWrite_130 : decode cX5_digestWrite 130 = .ok (.istore 6, 2) := by decide +kernel
theorem dX5_digestWrite_132 : decode cX5_digestWrite 132 = .ok (.iload 6, 2) := by decide +kernel
theorem dX5_digestWrite_134 : decode cX5_digestWrite 134 = .ok (.iconst 3, 1) := by decide +kernel
theorem dX5_digestWrite_135 : decode cX5_digestWrite 135 = .ok (.if_icmp .gt 26, 3) := by decide +kernel
theorem dX5_digestWrite_138 : decode cX5_digestWrite 138 = .ok (.ldc2_w 278, 3) := by decide +kernel
theorem dX5_digestWrite_141 : decode cX5_digestWrite 141 = .ok (.lload 4, 2) := by decide +kernel
theorem dX5_digestWrite_143 : decode cX5_digestWrite 143 = .ok (.lmul, 1) := by decide +kernel
theorem dX5_digestWrite_144 : decode cX5_digestWrite 144 = .ok (.aload_n 0, 1) := by decide +kernel
theorem dX5_digestWrite_145 : decode cX5_digestWrite 145 = .ok (.iload_n 3, 1) := by decide +kernel
theorem dX5_digestWrite_146 : decode cX5_digestWrite 146 = .ok (.iload 6, 2) := by decide +kernel
theorem dX5_digestWrite_148 : decode cX5_digestWrite 148 = .ok (.invokevirtual 327, 3) := by decide +kernel
theorem dX5_digestWrite_151 : decode cX5_digestWrite 151 = .ok (.i2l, 1) := by decide +kernel
theorem dX5_digestWrite_152 : decode cX5_digestWrite 152 = .ok (.ladd, 1) := by decide +kernel
theorem dX5_digestWrite_153 : decode cX5_digestWrite 153 = .ok (.lstore 4, 2) := by decide +kernel
theorem dX5_digestWrite_155 : decode cX5_digestWrite 155 = .ok (.iinc 6 1, 3) := by decide +kernel
theorem dX5_digestWrite_158 : decode cX5_digestWrite 158 = .ok (.goto (-26), 3) := by decide +kernel
theorem dX5_digestWrite_161 : decode cX5_digestWrite 161 = .ok (.lload 4, 2) := by decide +kernel
theorem dX5_digestWrite_163 : decode cX5_digestWrite 163 = .ok (.lreturn, 1) := by decide +kernel
theorem dX5_digestChanges_0 : decode cX5_digestChanges 0 = .ok (.lload_n 1, 1) := by decide +kernel
theorem dX5_digestChanges_1 : decode cX5_digestChanges 1 = .ok (.lstore 4, 2) := by decide +kernel
theorem dX5_digestChanges_3 : decode cX5_digestChanges 3 = .ok (.iconst 0, 1) := by decide +kernel
theorem dX5_digestChanges_4 : decode cX5_digestChanges 4 = .ok (.istore 6, 2) := by decide +kernel
theorem dX5_digestChanges_6 : decode cX5_digestChanges 6 = .ok (.iload 6, 2) := by decide +kernel
theorem dX5_digestChanges_8 : decode cX5_digestChanges 8 = .ok (.iconst 4, 1) := by decide +kernel
theorem dX5_digestChanges_9 : decode cX5_digestChanges 9 = .ok (.if_icmp .gt 43, 3) := by decide +kernel
theorem dX5_digestChanges_12 : decode cX5_digestChanges 12 = .ok (.iconst 0, 1) := by decide +kernel
theorem dX5_digestChanges_13 : decode cX5_digestChanges 13 = .ok (.istore 7, 2) := by decide +kernel
theorem dX5_digestChanges_15 : decode cX5_digestChanges 15 = .ok (.iload 7, 2) := by decide +kernel
theorem dX5_digestChanges_17 : decode cX5_digestChanges 17 = .ok (.iconst 2, 1) := by decide +kernel
theorem dX5_digestChanges_18 : decode cX5_digestChanges 18 = .ok (.if_icmp .gt 28, 3) := by decide +kernel
theorem dX5_digestChanges_21 : decode cX5_digestChanges 21 = .ok (.ldc2_w 278, 3) := by decide +kernel
theorem dX5_digestChanges_24 : decode cX5_digestChanges 24 = .ok (.lload 4, 2) := by decide +kernel
theorem dX5_digestChanges_26 : decode cX5_digestChanges 26 = .ok (.lmul, 1) := by decide +kernel
theorem dX5_digestChanges_27 : decode cX5_digestChanges 27 = .ok (.aload_n 0, 1) := by decide +kernel
theorem dX5_digestChanges_28 : decode cX5_digestChanges 28 = .ok (.iload_n 3, 1) := by decide +kernel
theorem dX5_digestChanges_29 : decode cX5_digestChanges 29 = .ok (.iload 6, 2) := by decide +kernel
theorem dX5_digestChanges_31 : decode cX5_digestChanges 31 = .ok (.iload 7, 2) := by decide +kernel
theorem dX5_digestChanges_33 : decode cX5_digestChanges 33 = .ok (.invokevirtual 330, 3) := by decide +kernel
theorem dX5_digestChanges_36 : decode cX5_digestChanges 36 = .ok (.i2l, 1) := by decide +kernel
theorem dX5_digestChanges_37 : decode cX5_digestChanges 37 = .ok (.ladd, 1) := by decide +kernel
theorem dX5_digestChanges_38 : decode cX5_digestChanges 38 = .ok (.lstore 4, 2) := by decide +kernel
theorem dX5_digestChanges_40 : decode cX5_digestChanges 40 = .ok (.iinc 7 1, 3) := by decide +kernel
theorem dX5_digestChanges_43 : decode cX5_digestChanges 43 = .ok (.goto (-28), 3) := by decide +kernel
theorem dX5_digestChanges_46 : decode cX5_digestChanges 46 = .ok (.iinc 6 1, 3) := by decide +kernel
theorem dX5_digestChanges_49 : decode cX5_digestChanges 49 = .ok (.goto (-43), 3) := by decide +kernel
theorem dX5_digestChanges_52 : decode cX5_digestChanges 52 = .ok (.lload 4, 2) := by decide +kernel
theorem dX5_digestChanges_54 : decode cX5_digestChanges 54 = .ok (.lreturn, 1) := by decide +kernel
theorem dX5_digestFile_0 : decode cX5_digestFile 0 = .ok (.ldc2_w 278, 3) := by decide +kernel
theorem dX5_digestFile_3 : decode cX5_digestFile 3 = .ok (.lload_n 1, 1) := by decide +kernel
theorem dX5_digestFile_4 : decode cX5_digestFile 4 = .ok (.lmul, 1) := by decide +kernel
theorem dX5_digestFile_5 : decode cX5_digestFile 5 = .ok (.aload_n 0, 1) := by decide +kernel
theorem dX5_digestFile_6 : decode cX5_digestFile 6 = .ok (.iconst (-1), 1) := by decide +kernel
theorem dX5_digestFile_7 : decode cX5_digestFile 7 = .ok (.invokevirtual 296, 3) := by decide +kernel
theorem dX5_digestFile_10 : decode cX5_digestFile 10 = .ok (.i2l, 1) := by decide +kernel
theorem dX5_digestFile_11 : decode cX5_digestFile 11 = .ok (.ladd, 1) := by decide +kernel
theorem dX5_digestFile_12 : decode cX5_digestFile 12 = .ok (.lstore_n 3, 1) := by decide +kernel
theorem dX5_digestFile_13 : decode cX5_digestFile 13 = .ok (.iconst 0, 1) := by decide +kernel
theorem dX5_digestFile_14 : decode cX5_digestFile 14 = .ok (.istore 5, 2) := by decide +kernel
theorem dX5_digestFile_16 : decode cX5_digestFile 16 = .ok (.iload 5, 2) := by decide +kernel
theorem dX5_digestFile_18 : decode cX5_digestFile 18 = .ok (.iconst 2, 1) := by decide +kernel
theorem dX5_digestFile_19 : decode cX5_digestFile 19 = .ok (.if_icmp .gt 23, 3) := by decide +kernel
theorem dX5_digestFile_22 : decode cX5_digestFile 22 = .ok (.ldc2_w 278, 3) := by decide +kernel
theorem dX5_digestFile_25 : decode cX5_digestFile 25 = .ok (.lload_n 3, 1) := by decide +kernel
theorem dX5_digestFile_26 : decode cX5_digestFile 26 = .ok (.lmul, 1) := by decide +kernel
theorem dX5_digestFile_27 : decode cX5_digestFile 27 = .ok (.aload_n 0, 1) := by decide +kernel
theorem dX5_digestFile_28 : decode cX5_digestFile 28 = .ok (.iload 5, 2) := by decide +kernel
theorem dX5_digestFile_30 : decode cX5_digestFile 30 = .ok (.invokevirtual 333, 3) := by decide +kernel
theorem dX5_digestFile_33 : decode cX5_digestFile 33 = .ok (.i2l, 1) := by decide +kernel
theorem dX5_digestFile_34 : decode cX5_digestFile 34 = .ok (.ladd, 1) := by decide +kernel
theorem dX5_digestFile_35 : decode cX5_digestFile 35 = .ok (.lstore_n 3, 1) := by decide +kernel
theorem dX5_digestFile_36 : decode cX5_digestFile 36 = .ok (.iinc 5 1, 3) := by decide +kernel
theorem dX5_digestFile_39 : decode cX5_digestFile 39 = .ok (.goto (-23), 3) := by decide +kernel
theorem dX5_digestFile_42 : decode cX5_digestFile 42 = .ok (.ldc2_w 278, 3) := by decide +kernel
theorem dX5_digestFile_45 : decode cX5_digestFile 45 = .ok (.lload_n 3, 1) := by decide +kernel
theorem dX5_digestFile_46 : decode cX5_digestFile 46 = .ok (.lmul, 1) := by decide +kernel
theorem dX5_digestFile_47 : decode cX5_digestFile 47 = .ok (.aload_n 0, 1) := by decide +kernel
theorem dX5_digestFile_48 : decode cX5_digestFile 48 = .ok (.iconst 0, 1) := by decide +kernel
theorem dX5_digestFile_49 : decode cX5_digestFile 49 = .ok (.invokevirtual 336, 3) := by decide +kernel
theorem dX5_digestFile_52 : decode cX5_digestFile 52 = .ok (.i2l, 1) := by decide +kernel
theorem dX5_digestFile_53 : decode cX5_digestFile 53 = .ok (.ladd, 1) := by decide +kernel
theorem dX5_digestFile_54 : decode cX5_digestFile 54 = .ok (.lstore_n 3, 1) := by decide +kernel
theorem dX5_digestFile_55 : decode cX5_digestFile 55 = .ok (.ldc2_w 278, 3) := by decide +kernel
theorem dX5_digestFile_58 : decode cX5_digestFile 58 = .ok (.lload_n 3, 1) := by decide +kernel
theorem dX5_digestFile_59 : decode cX5_digestFile 59 = .ok (.lmul, 1) := by decide +kernel
theorem dX5_digestFile_60 : decode cX5_digestFile 60 = .ok (.aload_n 0, 1) := by decide +kernel
theorem dX5_digestFile_61 : decode cX5_digestFile 61 = .ok (.iconst 1, 1) := by decide +kernel
theorem dX5_digestFile_62 : decode cX5_digestFile 62 = .ok (.invokevirtual 336, 3) := by decide +kernel
theorem dX5_digestFile_65 : decode cX5_digestFile 65 = .ok (.i2l, 1) := by decide +kernel
theorem dX5_digestFile_66 : decode cX5_digestFile 66 = .ok (.ladd, 1) := by decide +kernel
theorem dX5_digestFile_67 : decode cX5_digestFile 67 = .ok (.lstore_n 3, 1) := by decide +kernel
theorem dX5_digestFile_68 : decode cX5_digestFile 68 = .ok (.ldc2_w 278, 3) := by decide +kernel
theorem dX5_digestFile_71 : decode cX5_digestFile 71 = .ok (.lload_n 3, 1) := by decide +kernel
theorem dX5_digestFile_72 : decode cX5_digestFile 72 = .ok (.lmul, 1) := by decide +kernel
theorem dX5_digestFile_73 : decode cX5_digestFile 73 = .ok (.aload_n 0, 1) := by decide +kernel
theorem dX5_digestFile_74 : decode cX5_digestFile 74 = .ok (.iconst 0, 1) := by decide +kernel
theorem dX5_digestFile_75 : decode cX5_digestFile 75 = .ok (.invokevirtual 339, 3) := by decide +kernel
theorem dX5_digestFile_78 : decode cX5_digestFile 78 = .ok (.i2l, 1) := by decide +kernel
theorem dX5_digestFile_79 : decode cX5_digestFile 79 = .ok (.ladd, 1) := by decide +kernel
theorem dX5_digestFile_80 : decode cX5_digestFile 80 = .ok (.lstore_n 3, 1) := by decide +kernel
theorem dX5_digestFile_81 : decode cX5_digestFile 81 = .ok (.ldc2_w 278, 3) := by decide +kernel
theorem dX5_digestFile_84 : decode cX5_digestFile 84 = .ok (.lload_n 3, 1) := by decide +kernel
theorem dX5_digestFile_85 : decode cX5_digestFile 85 = .ok (.lmul, 1) := by decide +kernel
theorem dX5_digestFile_86 : decode cX5_digestFile 86 = .ok (.aload_n 0, 1) := by decide +kernel
theorem dX5_digestFile_87 : decode cX5_digestFile 87 = .ok (.iconst 1, 1) := by decide +kernel
theorem dX5_digestFile_88 : decode cX5_digestFile 88 = .ok (.invokevirtual 339, 3) := by decide +kernel
theorem dX5_digestFile_91 : decode cX5_digestFile 91 = .ok (.i2l, 1) := by decide +kernel
theorem dX5_digestFile_92 : decode cX5_digestFile 92 = .ok (.ladd, 1) := by decide +kernel
theorem dX5_digestFile_93 : decode cX5_digestFile 93 = .ok (.lreturn, 1) := by decide +kernel
theorem dX5_isThing_0 : decode cX5_isThing 0 = .ok (.iload_n 0, 1) := by decide +kernel
theorem dX5_isThing_1 : decode cX5_isThing 1 = .ok (.ifCond .lt 13, 3) := by decide +kernel
theorem dX5_isThing_4 : decode cX5_isThing 4 = .ok (.iload_n 0, 1) := by decide +kernel
theorem dX5_isThing_5 : decode cX5_isThing 5 = .ok (.bipush 16, 2) := by decide +kernel
theorem dX5_isThing_7 : decode cX5_isThing 7 = .ok (.if_icmp .ge 7, 3) := by decide +kernel
theorem dX5_isThing_10 : decode cX5_isThing 10 = .ok (.iconst 1, 1) := by decide +kernel
theorem dX5_isThing_11 : decode cX5_isThing 11 = .ok (.goto 4, 3) := by decide +kernel
theorem dX5_isThing_14 : decode cX5_isThing 14 = .ok (.iconst 0, 1) := by decide +kernel
theorem dX5_isThing_15 : decode cX5_isThing 15 = .ok (.ireturn, 1) := by decide +kernel
theorem dX5_mayBeValue_0 : decode cX5_mayBeValue 0 = .ok (.iload_n 1, 1) := by decide +kernel
theorem dX5_mayBeValue_1 : decode cX5_mayBeValue 1 = .ok (.ifCond .lt 23, 3) := by decide +kernel
theorem dX5_mayBeValue_4 : decode cX5_mayBeValue 4 = .ok (.iload_n 1, 1) := by decide +kernel
theorem dX5_mayBeValue_5 : decode cX5_mayBeValue 5 = .ok (.iload_n 0, 1) := by decide +kernel
theorem dX5_mayBeValue_6 : decode cX5_mayBeValue 6 = .ok (.iconst 4, 1) := by decide +kernel
theorem dX5_mayBeValue_7 : decode cX5_mayBeValue 7 = .ok (.if_icmp .ne 7, 3) := by decide +kernel
theorem dX5_mayBeValue_10 : decode cX5_mayBeValue 10 = .ok (.iconst 2, 1) := by decide +kernel
theorem dX5_mayBeValue_11 : decode cX5_mayBeValue 11 = .ok (.goto 6, 3) := by decide +kernel
theorem dX5_mayBeValue_14 : decode cX5_mayBeValue 14 = .ok (.ldc_w 342, 3) := by decide +kernel
theorem dX5_mayBeValue_17 : decode cX5_mayBeValue 17 = .ok (.if_icmp .gt 7, 3) := by decide +kernel
theorem dX5_mayBeValue_20 : decode cX5_mayBeValue 20 = .ok (.iconst 1, 1) := by decide +kernel
theorem dX5_mayBeValue_21 : decode cX5_mayBeValue 21 = .ok (.goto 4, 3) := by decide +kernel
theorem dX5_mayBeValue_24 : decode cX5_mayBeValue 24 = .ok (.iconst 0, 1) := by decide +kernel
theorem dX5_mayBeValue_25 : decode cX5_mayBeValue 25 = .ok (.ireturn, 1) := by decide +kernel
theorem dX5_mayBeWrite_0 : decode cX5_mayBeWrite 0 = .ok (.iload_n 0, 1) := by decide +kernel
theorem dX5_mayBeWrite_1 : decode cX5_mayBeWrite 1 = .ok (.invokestatic 159, 3) := by decide +kernel
theorem dX5_mayBeWrite_4 : decode cX5_mayBeWrite 4 = .ok (.ifCond .eq 24, 3) := by decide +kernel
theorem dX5_mayBeWrite_7 : decode cX5_mayBeWrite 7 = .ok (.iload_n 1, 1) := by decide +kernel
theorem dX5_mayBeWrite_8 : decode cX5_mayBeWrite 8 = .ok (.ifCond .lt 20, 3) := by decide +kernel
theorem dX5_mayBeWrite_11 : decode cX5_mayBeWrite 11 = .ok (.iload_n 1, 1) := by decide +kernel
theorem dX5_mayBeWrite_12 : decode cX5_mayBeWrite 12 = .ok (.iconst 5, 1) := by decide +kernel
theorem dX5_mayBeWrite_13 : decode cX5_mayBeWrite 13 = .ok (.if_icmp .gt 15, 3) := by decide +kernel
theorem dX5_mayBeWrite_16 : decode cX5_mayBeWrite 16 = .ok (.iload_n 1, 1) := by decide +kernel
theorem dX5_mayBeWrite_17 : decode cX5_mayBeWrite 17 = .ok (.iload_n 2, 1) := by decide +kernel
theorem dX5_mayBeWrite_18 : decode cX5_mayBeWrite 18 = .ok (.invokestatic 106, 3) := by decide +kernel
theorem dX5_mayBeWrite_21 : decode cX5_mayBeWrite 21 = .ok (.ifCond .eq 7, 3) := by decide +kernel
theorem dX5_mayBeWrite_24 : decode cX5_mayBeWrite 24 = .ok (.iconst 1, 1) := by decide +kernel
theorem dX5_mayBeWrite_25 : decode cX5_mayBeWrite 25 = .ok (.goto 4, 3) := by decide +kernel
theorem dX5_mayBeWrite_28 : decode cX5_mayBeWrite 28 = .ok (.iconst 0, 1) := by decide +kernel
theorem dX5_mayBeWrite_29 : decode cX5_mayBeWrite 29 = .ok (.ireturn, 1) := by decide +kernel
theorem dX5_isSheet_0 : decode cX5_isSheet 0 = .ok (.iload_n 0, 1) := by decide +kernel
theorem dX5_isSheet_1 : decode cX5_isSheet 1 = .ok (.ifCond .lt 12, 3) := by decide +kernel
theorem dX5_isSheet_4 : decode cX5_isSheet 4 = .ok (.iload_n 0, 1) := by decide +kernel
theorem dX5_isSheet_5 : decode cX5_isSheet 5 = .ok (.iconst 4, 1) := by decide +kernel
theorem dX5_isSheet_6 : decode cX5_isSheet 6 = .ok (.if_icmp .ge 7, 3) := by decide +kernel
theorem dX5_isSheet_9 : decode cX5_isSheet 9 = .ok (.iconst 1, 1) := by decide +kernel
theorem dX5_isSheet_10 : decode cX5_isSheet 10 = .ok (.goto 4, 3) := by decide +kernel
theorem dX5_isSheet_13 : decode cX5_isSheet 13 = .ok (.iconst 0, 1) := by decide +kernel
theorem dX5_isSheet_14 : decode cX5_isSheet 14 = .ok (.ireturn, 1) := by decide +kernel
theorem dX5_isForm_0 : decode cX5_isForm 0 = .ok (.iload_n 0, 1) := by decide +kernel
theorem dX5_isForm_1 : decode cX5_isForm 1 = .ok (.ifCond .lt 12, 3) := by decide +kernel
theorem dX5_isForm_4 : decode cX5_isForm 4 = .ok (.iload_n 0, 1) := by decide +kernel
theorem dX5_isForm_5 : decode cX5_isForm 5 = .ok (.iconst 3, 1) := by decide +kernel
theorem dX5_isForm_6 : decode cX5_isForm 6 = .ok (.if_icmp .ge 7, 3) := by decide +kernel
theorem dX5_isForm_9 : decode cX5_isForm 9 = .ok (.iconst 1, 1) := by decide +kernel
theorem dX5_isForm_10 : decode cX5_isForm 10 = .ok (.goto 4, 3) := by decide +kernel
theorem dX5_isForm_13 : decode cX5_isForm 13 = .ok (.iconst 0, 1) := by decide +kernel
theorem dX5_isForm_14 : decode cX5_isForm 14 = .ok (.ireturn, 1) := by decide +kernel
theorem dX5_find_0 : decode cX5_find 0 = .ok (.aload_n 0, 1) := by decide +kernel
theorem dX5_find_1 : decode cX5_find 1 = .ok (.iload_n 1, 1) := by decide +kernel
theorem dX5_find_2 : decode cX5_find 2 = .ok (.putfield 50, 3) := by decide +kernel
theorem dX5_find_5 : decode cX5_find 5 = .ok (.bipush (-10), 2) := by decide +kernel
theorem dX5_find_7 : decode cX5_find 7 = .ok (.iload_n 1, 1) := by decide +kernel
theorem dX5_find_8 : decode cX5_find 8 = .ok (.isub, 1) := by decide +kernel
theorem dX5_find_9 : decode cX5_find 9 = .ok (.ireturn, 1) := by decide +kernel
theorem dX5_takeWrite_0 : decode cX5_takeWrite 0 = .ok (.iload_n 1, 1) := by decide +kernel
theorem dX5_takeWrite_1 : decode cX5_takeWrite 1 = .ok (.iload_n 2, 1) := by decide +kernel
theorem dX5_takeWrite_2 : decode cX5_takeWrite 2 = .ok (.iload_n 3, 1) := by decide +kernel
theorem dX5_takeWrite_3 : decode cX5_takeWrite 3 = .ok (.invokestatic 343, 3) := by decide +kernel
theorem dX5_takeWrite_6 : decode cX5_takeWrite 6 = .ok (.ifCond .ne 6, 3) := by decide +kernel
theorem dX5_takeWrite_9 : decode cX5_takeWrite 9 = .ok (.bipush (-2), 2) := by decide +kernel
theorem dX5_takeWrite_11 : decode cX5_takeWrite 11 = .ok (.ireturn, 1) := by decide +kernel
theorem dX5_takeWrite_12 : decode cX5_takeWrite 12 = .ok (.aload_n 0, 1) := by decide +kernel
theorem dX5_takeWrite_13 : decode cX5_takeWrite 13 = .ok (.getfield 12, 3) := by decide +kernel
theorem dX5_takeWrite_16 : decode cX5_takeWrite 16 = .ok (.getfield 82, 3) := by decide +kernel
theorem dX5_takeWrite_19 : decode cX5_takeWrite 19 = .ok (.bipush 40, 2) := by decide +kernel
theorem dX5_takeWrite_21 : decode cX5_takeWrite 21 = .ok (.if_icmp .lt 6, 3) := by decide +kernel
theorem dX5_takeWrite_24 : decode cX5_takeWrite 24 = .ok (.bipush (-4), 2) := by decide +kernel
theorem dX5_takeWrite_26 : decode cX5_takeWrite 26 = .ok (.ireturn, 1) := by decide +kernel
theorem dX5_takeWrite_27 : decode cX5_takeWrite 27 = .ok (.aload_n 0, 1) := by decide +kernel
theorem dX5_takeWrite_28 : decode cX5_takeWrite 28 = .ok (.getfield 28, 3) := by decide +kernel
theorem dX5_takeWrite_31 : decode cX5_takeWrite 31 = .ok (.aload_n 0, 1) := by decide +kernel
theorem dX5_takeWrite_32 : decode cX5_takeWrite 32 = .ok (.getfield 12, 3) := by decide +kernel
theorem dX5_takeWrite_35 : decode cX5_takeWrite 35 = .ok (.getfield 82, 3) := by decide +kernel
theorem dX5_takeWrite_38 : decode cX5_takeWrite 38 = .ok (.invokevirtual 347, 3) := by decide +kernel
theorem dX5_takeWrite_41 : decode cX5_takeWrite 41 = .ok (.aload_n 0, 1) := by decide +kernel
theorem dX5_takeWrite_42 : decode cX5_takeWrite 42 = .ok (.getfield 12, 3) := by decide +kernel
theorem dX5_takeWrite_45 : decode cX5_takeWrite 45 = .ok (.iload_n 1, 1) := by decide +kernel
theorem dX5_takeWrite_46 : decode cX5_takeWrite 46 = .ok (.iload_n 2, 1) := by decide +kernel
theorem dX5_takeWrite_47 : decode cX5_takeWrite 47 = .ok (.iload_n 3, 1) := by decide +kernel
theorem dX5_takeWrite_48 : decode cX5_takeWrite 48 = .ok (.invokevirtual 350, 3) := by decide +kernel
theorem dX5_takeWrite_51 : decode cX5_takeWrite 51 = .ok (.aload_n 0, 1) := by decide +kernel
theorem dX5_takeWrite_52 : decode cX5_takeWrite 52 = .ok (.getfield 19, 3) := by decide +kernel
theorem dX5_takeWrite_55 : decode cX5_takeWrite 55 = .ok (.iload_n 1, 1) := by decide +kernel
theorem dX5_takeWrite_56 : decode cX5_takeWrite 56 = .ok (.iload_n 2, 1) := by decide +kernel
theorem dX5_takeWrite_57 : decode cX5_takeWrite 57 = .ok (.iload_n 3, 1) := by decide +kernel
theorem dX5_takeWrite_58 : decode cX5_takeWrite 58 = .ok (.invokevirtual 354, 3) := by decide +kernel
theorem dX5_takeWrite_61 : decode cX5_takeWrite 61 = .ok (.aload_n 0, 1) := by decide +kernel
theorem dX5_takeWrite_62 : decode cX5_takeWrite 62 = .ok (.getfield 12, 3) := by decide +kernel
theorem dX5_takeWrite_65 : decode cX5_takeWrite 65 = .ok (.getfield 82, 3) := by decide +kernel
theorem dX5_takeWrite_68 : decode cX5_takeWrite 68 = .ok (.ireturn, 1) := by decide +kernel
theorem dX5_reckon_0 : decode cX5_reckon 0 = .ok (.aload_n 0, 1) := by decide +kernel
theorem dX5_reckon_1 : decode cX5_reckon 1 = .ok (.getfield 28, 3) := by decide +kernel
theorem dX5_reckon_4 : decode cX5_reckon 4 = .ok (.invokevirtual 357, 3) := by decide +kernel
theorem dX5_reckon_7 : decode cX5_reckon 7 = .ok (.aload_n 0, 1) := by decide +kernel
theorem dX5_reckon_8 : decode cX5_reckon 8 = .ok (.getfield 37, 3) := by decide +kernel
theorem dX5_reckon_11 : decode cX5_reckon 11 = .ok (.iconst (-1), 1) := by decide +kernel
theorem dX5_reckon_12 : decode cX5_reckon 12 = .ok (.invokevirtual 55, 3) := by decide +kernel
theorem dX5_reckon_15 : decode cX5_reckon 15 = .ok (.return_, 1) := by decide +kernel
theorem dX5_holds_0 : decode cX5_holds 0 = .ok (.aload_n 2, 1) := by decide +kernel
theorem dX5_holds_1 : decode cX5_holds 1 = .ok (.getfield 191, 3) := by decide +kernel
theorem dX5_holds_4 : decode cX5_holds 4 = .ok (.aload_n 0, 1) := by decide +kernel
theorem dX5_holds_5 : decode cX5_holds 5 = .ok (.getfield 12, 3) := by decide +kernel
theorem dX5_holds_8 : decode cX5_holds 8 = .ok (.getfield 138, 3) := by decide +kernel
theorem dX5_holds_11 : decode cX5_holds 11 = .ok (.iload_n 1, 1) := by decide +kernel
theorem dX5_holds_12 : decode cX5_holds 12 = .ok (.iaload, 1) := by decide +kernel
theorem dX5_holds_13 : decode cX5_holds 13 = .ok (.iaload, 1) := by decide +kernel
theorem dX5_holds_14 : decode cX5_holds 14 = .ok (.aload_n 0, 1) := by decide +kernel
theorem dX5_holds_15 : decode cX5_holds 15 = .ok (.getfield 12, 3) := by decide +kernel
theorem dX5_holds_18 : decode cX5_holds 18 = .ok (.getfield 110, 3) := by decide +kernel
theorem dX5_holds_21 : decode cX5_holds 21 = .ok (.iload_n 1, 1) := by decide +kernel
theorem dX5_holds_22 : decode cX5_holds 22 = .ok (.iaload, 1) := by decide +kernel
theorem dX5_holds_23 : decode cX5_holds 23 = .ok (.if_icmp .gt 19, 3) := by decide +kernel
theorem dX5_holds_26 : decode cX5_holds 26 = .ok (.aload_n 0, 1) := by decide +kernel
theorem dX5_holds_27 : decode cX5_holds 27 = .ok (.getfield 28, 3) := by decide +kernel
theorem dX5_holds_30 : decode cX5_holds 30 = .ok (.getfield 188, 3) := by decide +kernel
theorem dX5_holds_33 : decode cX5_holds 33 = .ok (.iload_n 1, 1) := by decide +kernel
theorem dX5_holds_34 : decode cX5_holds 34 = .ok (.iaload, 1) := by decide +kernel
theorem dX5_holds_35 : decode cX5_holds 35 = .ok (.ifCond .ne 7, 3) := by decide +kernel
theorem dX5_holds_38 : decode cX5_holds 38 = .ok (.iconst 1, 1) := by decide +kernel
theorem dX5_holds_39 : decode cX5_holds 39 = .ok (.goto 4, 3) := by decide +kernel
theorem dX5_holds_42 : decode cX5_holds 42 = .ok (.iconst 0, 1) := by decide +kernel
theorem dX5_holds_43 : decode cX5_holds 43 = .ok (.ireturn, 1) := by decide +kernel
theorem dX5_howManyHold_0 : decode cX5_howManyHold 0 = .ok (.iconst 0, 1) := by decide +kernel
theorem dX5_howManyHold_1 : decode cX5_howManyHold 1 = .ok (.istore_n 3, 1) := by decide +kernel
theorem dX5_howManyHold_2 : decode cX5_howManyHold 2 = .ok (.iconst 0, 1) := by decide +kernel
theorem dX5_howManyHold_3 : decode cX5_howManyHold 3 = .ok (.istore 4, 2) := by decide +kernel
theorem dX5_howManyHold_5 : decode cX5_howManyHold 5 = .ok (.iload 4, 2) := by decide +kernel
theorem dX5_howManyHold_7 : decode cX5_howManyHold 7 = .ok (.aload_n 0, 1) := by decide +kernel
theorem dX5_howManyHold_8 : decode cX5_howManyHold 8 = .ok (.getfield 12, 3) := by decide +kernel
theorem dX5_howManyHold_11 : decode cX5_howManyHold 11 = .ok (.getfield 82, 3) := by decide +kernel
theorem dX5_howManyHold_14 : decode cX5_howManyHold 14 = .ok (.if_icmp .ge 40, 3) := by decide +kernel
theorem dX5_howManyHold_17 : decode cX5_howManyHold 17 = .ok (.iload 4, 2) := by decide +kernel
theorem dX5_howManyHold_19 : decode cX5_howManyHold 19 = .ok (.iload_n 2, 1) := by decide +kernel
theorem dX5_howManyHold_20 : decode cX5_howManyHold 20 = .ok (.if_icmp .eq 28, 3) := by decide +kernel
theorem dX5_howManyHold_23 : decode cX5_howManyHold 23 = .ok (.aload_n 0, 1) := by decide +kernel
theorem dX5_howManyHold_24 : decode cX5_howManyHold 24 = .ok (.getfield 12, 3) := by decide +kernel
theorem dX5_howManyHold_27 : decode cX5_howManyHold 27 = .ok (.iload 4, 2) := by decide +kernel
theorem dX5_howManyHold_29 : decode cX5_howManyHold 29 = .ok (.invokevirtual 178, 3) := by decide +kernel
theorem dX5_howManyHold_32 : decode cX5_howManyHold 32 = .ok (.ifCond .eq 16, 3) := by decide +kernel
theorem dX5_howManyHold_35 : decode cX5_howManyHold 35 = .ok (.aload_n 0, 1) := by decide +kernel
theorem dX5_howManyHold_36 : decode cX5_howManyHold 36 = .ok (.iload 4, 2) := by decide +kernel
theorem dX5_howManyHold_38 : decode cX5_howManyHold 38 = .ok (.aload_n 1, 1) := by decide +kernel
theorem dX5_howManyHold_39 : decode cX5_howManyHold 39 = .ok (.invokevirtual 200, 3) := by decide +kernel
theorem dX5_howManyHold_42 : decode cX5_howManyHold 42 = .ok (.ifCond .eq 6, 3) := by decide +kernel
theorem dX5_howManyHold_45 : decode cX5_howManyHold 45 = .ok (.iinc 3 1, 3) := by decide +kernel
theorem dX5_howManyHold_48 : decode cX5_howManyHold 48 = .ok (.iinc 4 1, 3) := by decide +kernel
theorem dX5_howManyHold_51 : decode cX5_howManyHold 51 = .ok (.goto (-46), 3) := by decide +kernel
theorem dX5_howManyHold_54 : decode cX5_howManyHold 54 = .ok (.iload_n 3, 1) := by decide +kernel
theorem dX5_howManyHold_55 : decode cX5_howManyHold 55 = .ok (.ireturn, 1) := by decide +kernel
theorem dX5_howManyClosedSeals_0 : decode cX5_howManyClosedSeals 0 = .ok (.iconst 0, 1) := by decide +kernel
theorem dX5_howManyClosedSeals_1 : decode cX5_howManyClosedSeals 1 = .ok (.istore_n 1, 1) := by decide +kernel
theorem dX5_howManyClosedSeals_2 : decode cX5_howManyClosedSeals 2 = .ok (.iconst 0, 1) := by decide +kernel
theorem dX5_howManyClosedSeals_3 : decode cX5_howManyClosedSeals 3 = .ok (.istore_n 2, 1) := by decide +kernel
theorem dX5_howManyClosedSeals_4 : decode cX5_howManyClosedSeals 4 = .ok (.iload_n 2, 1) := by decide +kernel
theorem dX5_howManyClosedSeals_5 : decode cX5_howManyClosedSeals 5 = .ok (.aload_n 0, 1) := by decide +kernel
theorem dX5_howManyClosedSeals_6 : decode cX5_howManyClosedSeals 6 = .ok (.getfield 12, 3) := by decide +kernel
theorem dX5_howManyClosedSeals_9 : decode cX5_howManyClosedSeals 9 = .ok (.getfield 82, 3) := by decide +kernel
theorem dX5_howManyClosedSeals_12 : decode cX5_howManyClosedSeals 12 = .ok (.if_icmp .ge 23, 3) := by decide +kernel
theorem dX5_howManyClosedSeals_15 : decode cX5_howManyClosedSeals 15 = .ok (.aload_n 0, 1) := by decide +kernel
theorem dX5_howManyClosedSeals_16 : decode cX5_howManyClosedSeals 16 = .ok (.getfield 12, 3) := by decide +kernel
theorem dX5_howManyClosedSeals_19 : decode cX5_howManyClosedSeals 19 = .ok (.iload_n 2, 1) := by decide +kernel
theorem dX5_howManyClosedSeals_20 : decode cX5_howManyClosedSeals 20 = .ok (.invokevirtual 178, 3) := by decide +kernel
theorem dX5_howManyClosedSeals_23 : decode cX5_howManyClosedSeals 23 = .ok (.ifCond .eq 6, 3) := by decide +kernel
theorem dX5_howManyClosedSeals_26 : decode cX5_howManyClosedSeals 26 = .ok (.iinc 1 1, 3) := by decide +kernel
theorem dX5_howManyClosedSeals_29 : decode cX5_howManyClosedSeals 29 = .ok (.iinc 2 1, 3) := by decide +kernel
theorem dX5_howManyClosedSeals_32 : decode cX5_howManyClosedSeals 32 = .ok (.goto (-28), 3) := by decide +kernel
theorem dX5_howManyClosedSeals_35 : decode cX5_howManyClosedSeals 35 = .ok (.iload_n 1, 1) := by decide +kernel
theorem dX5_howManyClosedSeals_36 : decode cX5_howManyClosedSeals 36 = .ok (.ireturn, 1) := by decide +kernel
theorem dX5_howManyShadowed_0 : decode cX5_howManyShadowed 0 = .ok (.iconst 0, 1) := by decide +kernel
theorem dX5_howManyShadowed_1 : decode cX5_howManyShadowed 1 = .ok (.istore_n 1, 1) := by decide +kernel
theorem dX5_howManyShadowed_2 : decode cX5_howManyShadowed 2 = .ok (.iconst 0, 1) := by decide +kernel
theorem dX5_howManyShadowed_3 : decode cX5_howManyShadowed 3 = .ok (.istore_n 2, 1) := by decide +kernel
theorem dX5_howManyShadowed_4 : decode cX5_howManyShadowed 4 = .ok (.iload_n 2, 1) := by decide +kernel
theorem dX5_howManyShadowed_5 : decode cX5_howManyShadowed 5 = .ok (.aload_n 0, 1) := by decide +kernel
theorem dX5_howManyShadowed_6 : decode cX5_howManyShadowed 6 = .ok (.getfield 12, 3) := by decide +kernel
theorem dX5_howManyShadowed_9 : decode cX5_howManyShadowed 9 = .ok (.getfield 70, 3) := by decide +kernel
theorem dX5_howManyShadowed_12 : decode cX5_howManyShadowed 12 = .ok (.if_icmp .gt 24, 3) := by decide +kernel
theorem dX5_howManyShadowed_15 : decode cX5_howManyShadowed 15 = .ok (.iload_n 1, 1) := by decide +kernel
theorem dX5_howManyShadowed_16 : decode cX5_howManyShadowed 16 = .ok (.aload_n 0, 1) := by decide +kernel
theorem dX5_howManyShadowed_17 : decode cX5_howManyShadowed 17 = .ok (.getfield 37, 3) := by decide +kernel
theorem dX5_howManyShadowed_20 : decode cX5_howManyShadowed 20 = .ok (.getfield 169, 3) := by decide +kernel
theorem dX5_howManyShadowed_23 : decode cX5_howManyShadowed 23 = .ok (.iload_n 2, 1) := by decide +kernel
theorem dX5_howManyShadowed_24 : decode cX5_howManyShadowed 24 = .ok (.iaload, 1) := by decide +kernel
theorem dX5_howManyShadowed_25 : decode cX5_howManyShadowed 25 = .ok (.invokestatic 265, 3) := by decide +kernel
theorem dX5_howManyShadowed_28 : decode cX5_howManyShadowed 28 = .ok (.iadd, 1) := by decide +kernel
theorem dX5_howManyShadowed_29 : decode cX5_howManyShadowed 29 = .ok (.istore_n 1, 1) := by decide +kernel
theorem dX5_howManyShadowed_30 : decode cX5_howManyShadowed 30 = .ok (.iinc 2 1, 3) := by decide +kernel
theorem dX5_howManyShadowed_33 : decode cX5_howManyShadowed 33 = .ok (.goto (-29), 3) := by decide +kernel
theorem dX5_howManyShadowed_36 : decode cX5_howManyShadowed 36 = .ok (.iload_n 1, 1) := by decide +kernel
theorem dX5_howManyShadowed_37 : decode cX5_howManyShadowed 37 = .ok (.ireturn, 1) := by decide +kernel
theorem dX5_firstSealAgainst_0 : decode cX5_firstSealAgainst 0 = .ok (.aload_n 0, 1) := by decide +kernel
theorem dX5_firstSealAgainst_1 : decode cX5_firstSealAgainst 1 = .ok (.getfield 12, 3) := by decide +kernel
theorem dX5_firstSealAgainst_4 : decode cX5_firstSealAgainst 4 = .ok (.getfield 144, 3) := by decide +kernel
theorem dX5_firstSealAgainst_7 : decode cX5_firstSealAgainst 7 = .ok (.aload_n 0, 1) := by decide +kernel
theorem dX5_firstSealAgainst_8 : decode cX5_firstSealAgainst 8 = .ok (.getfield 37, 3) := by decide +kernel
theorem dX5_firstSealAgainst_11 : decode cX5_firstSealAgainst 11 = .ok (.getfield 207, 3) := by decide +kernel
theorem dX5_firstSealAgainst_14 : decode cX5_firstSealAgainst 14 = .ok (.iload_n 1, 1) := by decide +kernel
theorem dX5_firstSealAgainst_15 : decode cX5_firstSealAgainst 15 = .ok (.iaload, 1) := by decide +kernel
theorem dX5_firstSealAgainst_16 : decode cX5_firstSealAgainst 16 = .ok (.iaload, 1) := by decide +kernel
theorem dX5_firstSealAgainst_17 : decode cX5_firstSealAgainst 17 = .ok (.istore_n 2, 1) := by decide +kernel
theorem dX5_firstSealAgainst_18 : decode cX5_firstSealAgainst 18 = .ok (.iconst 0, 1) := by decide +kernel
theorem dX5_firstSealAgainst_19 : decode cX5_firstSealAgainst 19 = .ok (.istore_n 3, 1) := by decide +kernel
theorem dX5_firstSealAgainst_20 : decode cX5_firstSealAgainst 20 = .ok (.iload_n 3, 1) := by decide +kernel
theorem dX5_firstSealAgainst_21 : decode cX5_firstSealAgainst 21 = .ok (.iload_n 2, 1) := by decide +kernel
theorem dX5_firstSealAgainst_22 : decode cX5_firstSealAgainst 22 = .ok (.if_icmp .ge 51, 3) := by decide +kernel
theorem dX5_firstSealAgainst_25 : decode cX5_firstSealAgainst 25 = .ok (.aload_n 0, 1) := by decide +kernel
theorem dX5_firstSealAgainst_26 : decode cX5_firstSealAgainst 26 = .ok (.getfield 12, 3) := by decide +kernel
theorem dX5_firstSealAgainst_29 : decode cX5_firstSealAgainst 29 = .ok (.iload_n 3, 1) := by decide +kernel
theorem dX5_firstSealAgainst_30 : decode cX5_firstSealAgainst 30 = .ok (.invokevirtual 92, 3) := by decide +kernel
theorem dX5_firstSealAgainst_33 : decode cX5_firstSealAgainst 33 = .ok (.ifCond .eq 34, 3) := by decide +kernel
theorem dX5_firstSealAgainst_36 : decode cX5_firstSealAgainst 36 = .ok (.aload_n 0, 1) := by decide +kernel
theorem dX5_firstSealAgainst_37 : decode cX5_firstSealAgainst 37 = .ok (.getfield 37, 3) := by decide +kernel
theorem dX5_firstSealAgainst_40 : decode cX5_firstSealAgainst 40 = .ok (.iload_n 1, 1) := by decide +kernel
theorem dX5_firstSealAgainst_41 : decode cX5_firstSealAgainst 41 = .ok (.aload_n 0, 1) := by decide +kernel
theorem dX5_firstSealAgainst_42 : decode cX5_firstSealAgainst 42 = .ok (.getfield 12, 3) := by decide +kernel
theorem dX5_firstSealAgainst_45 : decode cX5_firstSealAgainst 45 = .ok (.getfield 138, 3) := by decide +kernel
theorem dX5_firstSealAgainst_48 : decode cX5_firstSealAgainst 48 = .ok (.iload_n 3, 1) := by decide +kernel
theorem dX5_firstSealAgainst_49 : decode cX5_firstSealAgainst 49 = .ok (.iaload, 1) := by decide +kernel
theorem dX5_firstSealAgainst_50 : decode cX5_firstSealAgainst 50 = .ok (.invokevirtual 213, 3) := by decide +kernel
theorem dX5_firstSealAgainst_53 : decode cX5_firstSealAgainst 53 = .ok (.aload_n 0, 1) := by decide +kernel
theorem dX5_firstSealAgainst_54 : decode cX5_firstSealAgainst 54 = .ok (.getfield 12, 3) := by decide +kernel
theorem dX5_firstSealAgainst_57 : decode cX5_firstSealAgainst 57 = .ok (.getfield 110, 3) := by decide +kernel
theorem dX5_firstSealAgainst_60 : decode cX5_firstSealAgainst 60 = .ok (.iload_n 3, 1) := by decide +kernel
theorem dX5_firstSealAgainst_61 : decode cX5_firstSealAgainst 61 = .ok (.iaload, 1) := by decide +kernel
theorem dX5_firstSealAgainst_62 : decode cX5_firstSealAgainst 62 = .ok (.if_icmp .le 5, 3) := by decide +kernel
theorem dX5_firstSealAgainst_65 : decode cX5_firstSealAgainst 65 = .ok (.iload_n 3, 1) := by decide +kernel
theorem dX5_firstSealAgainst_66 : decode cX5_firstSealAgainst 66 = .ok (.ireturn, 1) := by decide +kernel
theorem dX5_firstSealAgainst_67 : decode cX5_firstSealAgainst 67 = .ok (.iinc 3 1, 3) := by decide +kernel
theorem dX5_firstSealAgainst_70 : decode cX5_firstSealAgainst 70 = .ok (.goto (-50), 3) := by decide +kernel
theorem dX5_firstSealAgainst_73 : decode cX5_firstSealAgainst 73 = .ok (.iconst (-1), 1) := by decide +kernel
theorem dX5_firstSealAgainst_74 : decode cX5_firstSealAgainst 74 = .ok (.ireturn, 1) := by decide +kernel
theorem dX6_init_0 : decode cX6_init 0 = .ok (.aload_n 0, 1) := by decide +kernel
theorem dX6_init_1 : decode cX6_init 1 = .ok (.invokespecial 1, 3) := by decide +kernel
theorem dX6_init_4 : decode cX6_init 4 = .ok (.aload_n 0, 1) := by decide +kernel
theorem dX6_init_5 : decode cX6_init 5 = .ok (.iconst 4, 1) := by decide +kernel
theorem dX6_init_6 : decode cX6_init 6 = .ok (.newarray .int, 2) := by decide +kernel
theorem dX6_init_8 : decode cX6_init 8 = .ok (.putfield 7, 3) := by decide +kernel
theorem dX6_init_11 : decode cX6_init 11 = .ok (.aload_n 0, 1) := by decide +kernel
theorem dX6_init_12 : decode cX6_init 12 = .ok (.iconst 4, 1) := by decide +kernel
theorem dX6_init_13 : decode cX6_init 13 = .ok (.newarray .int, 2) := by decide +kernel
theorem dX6_init_15 : decode cX6_init 15 = .ok (.putfield 13, 3) := by decide +kernel
theorem dX6_init_18 : decode cX6_init 18 = .ok (.aload_n 0, 1) := by decide +kernel
theorem dX6_init_19 : decode cX6_init 19 = .ok (.sipush 240, 3) := by decide +kernel
theorem dX6_init_22 : decode cX6_init 22 = .ok (.newarray .int, 2) := by decide +kernel
theorem dX6_init_24 : decode cX6_init 24 = .ok (.putfield 16, 3) := by decide +kernel
theorem dX6_init_27 : decode cX6_init 27 = .ok (.aload_n 0, 1) := by decide +kernel
theorem dX6_init_28 : decode cX6_init 28 = .ok (.bipush 60, 2) := by decide +kernel
theorem dX6_init_30 : decode cX6_init 30 = .ok (.newarray .int, 2) := by decide +kernel
theorem dX6_init_32 : decode cX6_init 32 = .ok (.putfield 19, 3) := by decide +kernel
theorem dX6_init_35 : decode cX6_init 35 = .ok (.aload_n 0, 1) := by decide +kernel
theorem dX6_init_36 : decode cX6_init 36 = .ok (.bipush 40, 2) := by decide +kernel
theorem dX6_init_38 : decode cX6_init 38 = .ok (.newarray .int, 2) := by decide +kernel
theorem dX6_init_40 : decode cX6_init 40 = .ok (.putfield 22, 3) := by decide +kernel
theorem dX6_init_43 : decode cX6_init 43 = .ok (.aload_n 0, 1) := by decide +kernel
theorem dX6_init_44 : decode cX6_init 44 = .ok (.bipush 40, 2) := by decide +kernel
theorem dX6_init_46 : decode cX6_init 46 = .ok (.newarray .int, 2) := by decide +kernel
theorem dX6_init_48 : decode cX6_init 48 = .ok (.putfield 25, 3) := by decide +kernel
theorem dX6_init_51 : decode cX6_init 51 = .ok (.aload_n 0, 1) := by decide +kernel
theorem dX6_init_52 : decode cX6_init 52 = .ok (.bipush 40, 2) := by decide +kernel
theorem dX6_init_54 : decode cX6_init 54 = .ok (.newarray .int, 2) := by decide +kernel
theorem dX6_init_56 : decode cX6_init 56 = .ok (.putfield 28, 3) := by decide +kernel
theorem dX6_init_59 : decode cX6_init 59 = .ok (.aload_n 0, 1) := by decide +kernel
theorem dX6_init_60 : decode cX6_init 60 = .ok (.bipush 40, 2) := by decide +kernel
theorem dX6_init_62 : decode cX6_init 62 = .ok (.newarray .int, 2) := by decide +kernel
theorem dX6_init_64 : decode cX6_init 64 = .ok (.putfield 31, 3) := by decide +kernel
theorem dX6_init_67 : decode cX6_init 67 = .ok (.aload_n 0, 1) := by decide +kernel
theorem dX6_init_68 : decode cX6_init 68 = .ok (.bipush 40, 2) := by decide +kernel
theorem dX6_init_70 : decode cX6_init 70 = .ok (.newarray .boolean, 2) := by decide +kernel
theorem dX6_init_72 : decode cX6_init 72 = .ok (.putfield 34, 3) := by decide +kernel
theorem dX6_init_75 : decode cX6_init 75 = .ok (.aload_n 0, 1) := by decide +kernel
theorem dX6_init_76 : decode cX6_init 76 = .ok (.sipush 160, 3) := by decide +kernel
theorem dX6_init_79 : decode cX6_init 79 = .ok (.newarray .int, 2) := by decide +kernel
theorem dX6_init_81 : decode cX6_init 81 = .ok (.putfield 38, 3) := by decide +kernel
theorem dX6_init_84 : decode cX6_init 84 = .ok (.aload_n 0, 1) := by decide +kernel
theorem dX6_init_85 : decode cX6_init 85 = .ok (.bipush 40, 2) := by decide +kernel
theorem dX6_init_87 : decode cX6_init 87 = .ok (.newarray .int, 2) := by decide +kernel
theorem dX6_init_89 : decode cX6_init 89 = .ok (.putfield 41, 3) := by decide +kernel
theorem dX6_init_92 : decode cX6_init 92 = .ok (.aload_n 0, 1) := by decide +kernel
theorem dX6_init_93 : decode cX6_init 93 = .ok (.iconst (-1), 1) := by decide +kernel
theorem dX6_init_94 : decode cX6_init 94 = .ok (.putfield 44, 3) := by decide +kernel
theorem dX6_init_97 : decode cX6_init 97 = .ok (.aload_n 0, 1) := by decide +kernel
theorem dX6_init_98 : decode cX6_init 98 = .ok (.bipush 40, 2) := by decide +kernel
theorem dX6_init_100 : decode cX6_init 100 = .ok (.newarray .int, 2) := by decide +kernel
theorem dX6_init_102 : decode cX6_init 102 = .ok (.putfield 48, 3) := by decide +kernel
theorem dX6_init_105 : decode cX6_init 105 = .ok (.iconst 0, 1) := by decide +kernel
theorem dX6_init_106 : decode cX6_init 106 = .ok (.istore_n 1, 1) := by decide +kernel
theorem dX6_init_107 : decode cX6_init 107 = .ok (.iload_n 1, 1) := by decide +kernel
theorem dX6_init_108 : decode cX6_init 108 = .ok (.iconst 4, 1) := by decide +kernel
theorem dX6_init_109 : decode cX6_init 109 = .ok (.if_icmp .ge 16, 3) := by decide +kernel
theorem dX6_init_112 : decode cX6_init 112 = .ok (.aload_n 0, 1) := by decide +kernel
theorem dX6_init_113 : decode cX6_init 113 = .ok (.getfield 7, 3) := by decide +kernel
theorem dX6_init_116 : decode cX6_init 116 = .ok (.iload_n 1, 1) := by decide +kernel
theorem dX6_init_117 : decode cX6_init 117 = .ok (.iconst (-1), 1) := by decide +kernel
theorem dX6_init_118 : decode cX6_init 118 = .ok (.iastore, 1) := by decide +kernel
theorem dX6_init_119 : decode cX6_init 119 = .ok (.iinc 1 1, 3) := by decide +kernel
theorem dX6_init_122 : decode cX6_init 122 = .ok (.goto (-15), 3) := by decide +kernel
theorem dX6_init_125 : decode cX6_init 125 = .ok (.return_, 1) := by decide +kernel
theorem dX6_in_0 : decode cX6_in 0 = .ok (.lload_n 0, 1) := by decide +kernel
theorem dX6_in_1 : decode cX6_in 1 = .ok (.lload_n 2, 1) := by decide +kernel
theorem dX6_in_2 : decode cX6_in 2 = .ok (.lcmp, 1) := by decide +kernel
theorem dX6_in_3 : decode cX6_in 3 = .ok (.ifCond .lt 14, 3) := by decide +kernel
theorem dX6_in_6 : decode cX6_in 6 = .ok (.lload_n 0, 1) := by decide +kernel
theorem dX6_in_7 : decode cX6_in 7 = .ok (.lload 4, 2) := by decide +kernel
theorem dX6_in_9 : decode cX6_in 9 = .ok (.lcmp, 1) := by decide +kernel
theorem dX6_in_10 : decode cX6_in 10 = .ok (.ifCond .gt 7, 3) := by decide +kernel
theorem dX6_in_13 : decode cX6_in 13 = .ok (.iconst 1, 1) := by decide +kernel
theorem dX6_in_14 : decode cX6_in 14 = .ok (.goto 4, 3) := by decide +kernel
theorem dX6_in_17 : decode cX6_in 17 = .ok (.iconst 0, 1) := by decide +kernel
theorem dX6_in_18 : decode cX6_in 18 = .ok (.ireturn, 1) := by decide +kernel
theorem dX6_isTwo_0 : decode cX6_isTwo 0 = .ok (.iload_n 0, 1) := by decide +kernel
theorem dX6_isTwo_1 : decode cX6_isTwo 1 = .ok (.i2l, 1) := by decide +kernel
theorem dX6_isTwo_2 : decode cX6_isTwo 2 = .ok (.lconst 0, 1) := by decide +kernel
theorem dX6_isTwo_3 : decode cX6_isTwo 3 = .ok (.lconst 1, 1) := by decide +kernel
theorem dX6_isTwo_4 : decode cX6_isTwo 4 = .ok (.invokestatic 51, 3) := by decide +kernel
theorem dX6_isTwo_7 : decode cX6_isTwo 7 = .ok (.ireturn, 1) := by decide +kernel
theorem dX6_isIn_0 : decode cX6_isIn 0 = .ok (.iload_n 0, 1) := by decide +kernel
theorem dX6_isIn_1 : decode cX6_isIn 1 = .ok (.iload_n 1, 1) := by decide +kernel
theorem dX6_isIn_2 : decode cX6_isIn 2 = .ok (.ishr, 1) := by decide +kernel
theorem dX6_isIn_3 : decode cX6_isIn 3 = .ok (.iconst 1, 1) := by decide +kernel
theorem dX6_isIn_4 : decode cX6_isIn 4 = .ok (.iand, 1) := by decide +kernel
theorem dX6_isIn_5 : decode cX6_isIn 5 = .ok (.iconst 1, 1) := by decide +kernel
theorem dX6_isIn_6 : decode cX6_isIn 6 = .ok (.if_icmp .ne 7, 3) := by decide +kernel
theorem dX6_isIn_9 : decode cX6_isIn 9 = .ok (.iconst 1, 1) := by decide +kernel
theorem dX6_isIn_10 : decode cX6_isIn 10 = .ok (.goto 4, 3) := by decide +kernel
theorem dX6_isIn_13 : decode cX6_isIn 13 = .ok (.iconst 0, 1) := by decide +kernel
theorem dX6_isIn_14 : decode cX6_isIn 14 = .ok (.ireturn, 1) := by decide +kernel
theorem dX6_lesser_0 : decode cX6_lesser 0 = .ok (.iload_n 0, 1) := by decide +kernel
theorem dX6_lesser_1 : decode cX6_lesser 1 = .ok (.iload_n 1, 1) := by decide +kernel
theorem dX6_lesser_2 : decode cX6_lesser 2 = .ok (.if_icmp .ge 7, 3) := by decide +kernel
theorem dX6_lesser_5 : decode cX6_lesser 5 = .ok (.iload_n 0, 1) := by decide +kernel
theorem dX6_lesser_6 : decode cX6_lesser 6 = .ok (.goto 4, 3) := by decide +kernel
theorem dX6_lesser_9 : decode cX6_lesser 9 = .ok (.iload_n 1, 1) := by decide +kernel
theorem dX6_lesser_10 : decode cX6_lesser 10 = .ok (.ireturn, 1) := by decide +kernel
theorem dX6_greater_0 : decode cX6_greater 0 = .ok (.iload_n 0, 1) := by decide +kernel
theorem dX6_greater_1 : decode cX6_greater 1 = .ok (.iload_n 1, 1) := by decide +kernel
theorem dX6_greater_2 : decode cX6_greater 2 = .ok (.if_icmp .le 7, 3) := by decide +kernel
theorem dX6_greater_5 : decode cX6_greater 5 = .ok (.iload_n 0, 1) := by decide +kernel
theorem dX6_greater_6 : decode cX6_greater 6 = .ok (.goto 4, 3) := by decide +kernel
theorem dX6_greater_9 : decode cX6_greater 9 = .ok (.iload_n 1, 1) := by decide +kernel
theorem dX6_greater_10 : decode cX6_greater 10 = .ok (.ireturn, 1) := by decide +kernel
theorem dX6_finds_0 : decode cX6_finds 0 = .ok (.aload_n 0, 1) := by decide +kernel
theorem dX6_finds_1 : decode cX6_finds 1 = .ok (.iload_n 1, 1) := by decide +kernel
theorem dX6_finds_2 : decode cX6_finds 2 = .ok (.putfield 55, 3) := by decide +kernel
theorem dX6_finds_5 : decode cX6_finds 5 = .ok (.bipush (-10), 2) := by decide +kernel
theorem dX6_finds_7 : decode cX6_finds 7 = .ok (.iload_n 1, 1) := by decide +kernel
theorem dX6_finds_8 : decode cX6_finds 8 = .ok (.isub, 1) := by decide +kernel
theorem dX6_finds_9 : decode cX6_finds 9 = .ok (.ireturn, 1) := by decide +kernel
theorem dX6_isSheet_0 : decode cX6_isSheet 0 = .ok (.iload_n 0, 1) := by decide +kernel
theorem dX6_isSheet_1 : decode cX6_isSheet 1 = .ok (.i2l, 1) := by decide +kernel
theorem dX6_isSheet_2 : decode cX6_isSheet 2 = .ok (.lconst 0, 1) := by decide +kernel
theorem dX6_isSheet_3 : decode cX6_isSheet 3 = .ok (.ldc2_w 58, 3) := by decide +kernel
theorem dX6_isSheet_6 : decode cX6_isSheet 6 = .ok (.invokestatic 51, 3) := by decide +kernel
theorem dX6_isSheet_9 : decode cX6_isSheet 9 = .ok (.ireturn, 1) := by decide +kernel
theorem dX6_sheet_0 : decode cX6_sheet 0 = .ok (.iload_n 1, 1) := by decide +kernel
theorem dX6_sheet_1 : decode cX6_sheet 1 = .ok (.invokestatic 60, 3) := by decide +kernel
theorem dX6_sheet_4 : decode cX6_sheet 4 = .ok (.ifCond .eq 21, 3) := by decide +kernel
theorem dX6_sheet_7 : decode cX6_sheet 7 = .ok (.iload_n 2, 1) := by decide +kernel
theorem dX6_sheet_8 : decode cX6_sheet 8 = .ok (.i2l, 1) := by decide +kernel
theorem dX6_sheet_9 : decode cX6_sheet 9 = .ok (.lconst 0, 1) := by decide +kernel
theorem dX6_sheet_10 : decode cX6_sheet 10 = .ok (.ldc2_w 64, 3) := by decide +kernel
theorem dX6_sheet_13 : decode cX6_sheet 13 = .ok (.invokestatic 51, 3) := by decide +kernel
theorem dX6_sheet_16 : decode cX6_sheet 16 = .ok (.ifCond .eq 9, 3) := by decide +kernel
theorem dX6_sheet_19 : decode cX6_sheet 19 = .ok (.iload_n 3, 1) := by decide +kernel
theorem dX6_sheet_20 : decode cX6_sheet 20 = .ok (.bipush 60, 2) := by decide +kernel
theorem dX6_sheet_22 : decode cX6_sheet 22 = .ok (.if_icmp .le 6, 3) := by decide +kernel
theorem dX6_sheet_25 : decode cX6_sheet 25 = .ok (.bipush (-2), 2) := by decide +kernel
theorem dX6_sheet_27 : decode cX6_sheet 27 = .ok (.ireturn, 1) := by decide +kernel
theorem dX6_sheet_28 : decode cX6_sheet 28 = .ok (.iload_n 3, 1) := by decide +kernel
theorem dX6_sheet_29 : decode cX6_sheet 29 = .ok (.ifCond .ge 9, 3) := by decide +kernel
theorem dX6_sheet_32 : decode cX6_sheet 32 = .ok (.aload_n 0, 1) := by decide +kernel
theorem dX6_sheet_33 : decode cX6_sheet 33 = .ok (.iconst 5, 1) := by decide +kernel
theorem dX6_sheet_34 : decode cX6_sheet 34 = .ok (.invokevirtual 66, 3) := by decide +kernel
theorem dX6_sheet_37 : decode cX6_sheet 37 = .ok (.ireturn, 1) := by decide +kernel
theorem dX6_sheet_38 : decode cX6_sheet 38 = .ok (.aload_n 0, 1) := by decide +kernel
theorem dX6_sheet_39 : decode cX6_sheet 39 = .ok (.getfield 7, 3) := by decide +kernel
theorem dX6_sheet_42 : decode cX6_sheet 42 = .ok (.iload_n 1, 1) := by decide +kernel
theorem dX6_sheet_43 : decode cX6_sheet 43 = .ok (.iload_n 2, 1) := by decide +kernel
theorem dX6_sheet_44 : decode cX6_sheet 44 = .ok (.iastore, 1) := by decide +kernel
theorem dX6_sheet_45 : decode cX6_sheet 45 = .ok (.aload_n 0, 1) := by decide +kernel
theorem dX6_sheet_46 : decode cX6_sheet 46 = .ok (.getfield 13, 3) := by decide +kernel
theorem dX6_sheet_49 : decode cX6_sheet 49 = .ok (.iload_n 1, 1) := by decide +kernel
theorem dX6_sheet_50 : decode cX6_sheet 50 = .ok (.iload_n 3, 1) := by decide +kernel
theorem dX6_sheet_51 : decode cX6_sheet 51 = .ok (.iastore, 1) := by decide +kernel
theorem dX6_sheet_52 : decode cX6_sheet 52 = .ok (.iconst 0, 1) := by decide +kernel
theorem dX6_sheet_53 : decode cX6_sheet 53 = .ok (.istore 4, 2) := by decide +kernel
theorem dX6_sheet_55 : decode cX6_sheet 55 = .ok (.iload 4, 2) := by decide +kernel
theorem dX6_sheet_57 : decode cX6_sheet 57 = .ok (.iload_n 3, 1) := by decide +kernel
theorem dX6_sheet_58 : decode cX6_sheet 58 = .ok (.if_icmp .ge 22, 3) := by decide +kernel
theorem dX6_sheet_61 : decode cX6_sheet 61 = .ok (.aload_n 0, 1) := by decide +kernel
theorem dX6_sheet_62 : decode cX6_sheet 62 = .ok (.getfield 16, 3) := by decide +kernel
theorem dX6_sheet_65 : decode cX6_sheet 65 = .ok (.bipush 60, 2) := by decide +kernel
theorem dX6_sheet_67 : decode cX6_sheet 67 = .ok (.iload_n 1, 1) := by decide +kernel
theorem dX6_sheet_68 : decode cX6_sheet 68 = .ok (.imul, 1) := by decide +kernel
theorem dX6_sheet_69 : decode cX6_sheet 69 = .ok (.iload 4, 2) := by decide +kernel
theorem dX6_sheet_71 : decode cX6_sheet 71 = .ok (.iadd, 1) := by decide +kernel
theorem dX6_sheet_72 : decode cX6_sheet 72 = .ok (.iconst 0, 1) := by decide +kernel
theorem dX6_sheet_73 : decode cX6_sheet 73 = .ok (.iastore, 1) := by decide +kernel
theorem dX6_sheet_74 : decode cX6_sheet 74 = .ok (.iinc 4 1, 3) := by decide +kernel
theorem dX6_sheet_77 : decode cX6_sheet 77 = .ok (.goto (-22), 3) := by decide +kernel
theorem dX6_sheet_80 : decode cX6_sheet 80 = .ok (.iload_n 3, 1) := by decide +kernel
theorem dX6_sheet_81 : decode cX6_sheet 81 = .ok (.ireturn, 1) := by decide +kernel
theorem dX6_lose_0 : decode cX6_lose 0 = .ok (.iload_n 1, 1) := by decide +kernel
theorem dX6_lose_1 : decode cX6_lose 1 = .ok (.invokestatic 60, 3) := by decide +kernel
theorem dX6_lose_4 : decode cX6_lose 4 = .ok (.ifCond .ne 6, 3) := by decide +kernel
theorem dX6_lose_7 : decode cX6_lose 7 = .ok (.bipush (-2), 2) := by decide +kernel
theorem dX6_lose_9 : decode cX6_lose 9 = .ok (.ireturn, 1) := by decide +kernel
theorem dX6_lose_10 : decode cX6_lose 10 = .ok (.aload_n 0, 1) := by decide +kernel
theorem dX6_lose_11 : decode cX6_lose 11 = .ok (.getfield 7, 3) := by decide +kernel
theorem dX6_lose_14 : decode cX6_lose 14 = .ok (.iload_n 1, 1) := by decide +kernel
theorem dX6_lose_15 : decode cX6_lose 15 = .ok (.iaload, 1) := by decide +kernel
theorem dX6_lose_16 : decode cX6_lose 16 = .ok (.ifCond .ge 9, 3) := by decide +kernel
theorem dX6_lose_19 : decode cX6_lose 19 = .ok (.aload_n 0, 1) := by decide +kernel
theorem dX6_lose_20 : decode cX6_lose 20 = .ok (.iconst 1, 1) := by decide +kernel
theorem dX6_lose_21 : decode cX6_lose 21 = .ok (.invokevirtual 66, 3) := by decide +kernel
theorem dX6_lose_24 : decode cX6_lose 24 = .ok (.ireturn, 1) := by decide +kernel
theorem dX6_lose_25 : decode cX6_lose 25 = .ok (.aload_n 0, 1) := by decide +kernel
theorem dX6_lose_26 : decode cX6_lose 26 = .ok (.getfield 7, 3) := by decide +kernel
theorem dX6_lose_29 : decode cX6_lose 29 = .ok (.iload_n 1, 1) := by decide +kernel
theorem dX6_lose_30 : decode cX6_lose 30 = .ok (.iconst (-1), 1) := by decide +kernel
theorem dX6_lose_31 : decode cX6_lose 31 = .ok (.iastore, 1) := by decide +kernel
theorem dX6_lose_32 : decode cX6_lose 32 = .ok (.aload_n 0, 1) := by decide +kernel
theorem dX6_lose_33 : decode cX6_lose 33 = .ok (.getfield 13, 3) := by decide +kernel
theorem dX6_lose_36 : decode cX6_lose 36 = .ok (.iload_n 1, 1) := by decide +kernel
theorem dX6_lose_37 : decode cX6_lose 37 = .ok (.iaload, 1) := by decide +kernel
theorem dX6_lose_38 : decode cX6_lose 38 = .ok (.ireturn, 1) := by decide +kernel
theorem dX6_lacks_0 : decode cX6_lacks 0 = .ok (.aload_n 0, 1) := by decide +kernel
theorem dX6_lacks_1 : decode cX6_lacks 1 = .ok (.getfield 7, 3) := by decide +kernel
theorem dX6_lacks_4 : decode cX6_lacks 4 = .ok (.iload_n 1, 1) := by decide +kernel
theorem dX6_lacks_5 : decode cX6_lacks 5 = .ok (.iaload, 1) := by decide +kernel
theorem dX6_lacks_6 : decode cX6_lacks 6 = .ok (.ifCond .ge 9, 3) := by decide +kernel
theorem dX6_lacks_9 : decode cX6_lacks 9 = .ok (.aload_n 0, 1) := by decide +kernel
theorem dX6_lacks_10 : decode cX6_lacks 10 = .ok (.iconst 1, 1) := by decide +kernel
theorem dX6_lacks_11 : decode cX6_lacks 11 = .ok (.invokevirtual 66, 3) := by decide +kernel
theorem dX6_lacks_14 : decode cX6_lacks 14 = .ok (.ireturn, 1) := by decide +kernel
theorem dX6_lacks_15 : decode cX6_lacks 15 = .ok (.aload_n 0, 1) := by decide +kernel
theorem dX6_lacks_16 : decode cX6_lacks 16 = .ok (.getfield 7, 3) := by decide +kernel
theorem dX6_lacks_19 : decode cX6_lacks 19 = .ok (.iload_n 1, 1) := by decide +kernel
theorem dX6_lacks_20 : decode cX6_lacks 20 = .ok (.iaload, 1) := by decide +kernel
theorem dX6_lacks_21 : decode cX6_lacks 21 = .ok (.iload_n 2, 1) := by decide +kernel
theorem dX6_lacks_22 : decode cX6_lacks 22 = .ok (.if_icmp .eq 9, 3) := by decide +kernel
theorem dX6_lacks_25 : decode cX6_lacks 25 = .ok (.aload_n 0, 1) := by decide +kernel
theorem dX6_lacks_26 : decode cX6_lacks 26 = .ok (.iconst 3, 1) := by decide +kernel
theorem dX6_lacks_27 : decode cX6_lacks 27 = .ok (.invokevirtual 66, 3) := by decide +kernel
theorem dX6_lacks_30 : decode cX6_lacks 30 = .ok (.ireturn, 1) := by decide +kernel
theorem dX6_lacks_31 : decode cX6_lacks 31 = .ok (.iload_n 3, 1) := by decide +kernel
theorem dX6_lacks_32 : decode cX6_lacks 32 = .ok (.i2l, 1) := by decide +kernel
theorem dX6_lacks_33 : decode cX6_lacks 33 = .ok (.lconst 0, 1) := by decide +kernel
theorem dX6_lacks_34 : decode cX6_lacks 34 = .ok (.aload_n 0, 1) := by decide +kernel
theorem dX6_lacks_35 : decode cX6_lacks 35 = .ok (.getfield 13, 3) := by decide +kernel
theorem dX6_lacks_38 : decode cX6_lacks 38 = .ok (.iload_n 1, 1) := by decide +kernel
theorem dX6_lacks_39 : decode cX6_lacks 39 = .ok (.iaload, 1) := by decide +kernel
theorem dX6_lacks_40 : decode cX6_lacks 40 = .ok (.iconst 1, 1) := by decide +kernel
theorem dX6_lacks_41 : decode cX6_lacks 41 = .ok (.isub, 1) := by decide +kernel
theorem dX6_lacks_42 : decode cX6_lacks 42 = .ok (.i2l, 1) := by decide +kernel
theorem dX6_lacks_43 : decode cX6_lacks 43 = .ok (.invokestatic 51, 3) := by decide +kernel
theorem dX6_lacks_46 : decode cX6_lacks 46 = .ok (.ifCond .eq 7, 3) := by decide +kernel
theorem dX6_lacks_49 : decode cX6_lacks 49 = .ok (.iconst 0, 1) := by decide +kernel
theorem dX6_lacks_50 : decode cX6_lacks 50 = .ok (.goto 8, 3) := by decide +kernel
theorem dX6_lacks_53 : decode cX6_lacks 53 = .ok (.aload_n 0, 1) := by decide +kernel
theorem dX6_lacks_54 : decode cX6_lacks 54 = .ok (.iconst 2, 1) := by decide +kernel
theorem dX6_lacks_55 : decode cX6_lacks 55 = .ok (.invokevirtual 66, 3) := by decide +kernel
theorem dX6_lacks_58 : decode cX6_lacks 58 = .ok (.ireturn, 1) := by decide +kernel
theorem dX6_cut_0 : decode cX6_cut 0 = .ok (.iload_n 0, 1) := by decide +kernel
theorem dX6_cut_1 : decode cX6_cut 1 = .ok (.ifCond .ne 8, 3) := by decide +kernel
theorem dX6_cut_4 : decode cX6_cut 4 = .ok (.iload_n 1, 1) := by decide +kernel
theorem dX6_cut_5 : decode cX6_cut 5 = .ok (.i2b, 1) := by decide +kernel
theorem dX6_cut_6 : decode cX6_cut 6 = .ok (.goto 14, 3) := by decide +kernel
theorem dX6_cut_9 : decode cX6_cut 9 = .ok (.iload_n 0, 1) := by decide +kernel
theorem dX6_cut_10 : decode cX6_cut 10 = .ok (.iconst 1, 1) := by decide +kernel
theorem dX6_cut_11 : decode cX6_cut 11 = .ok (.if_icmp .ne 8, 3) := by decide +kernel
theorem dX6_cut_14 : decode cX6_cut 14 = .ok (.iload_n 1, 1) := by decide +kernel
theorem dX6_cut_15 : decode cX6_cut 15 = .ok (.i2s, 1) := by decide +kernel
theorem dX6_cut_16 : decode cX6_cut 16 = .ok (.goto 4, 3) := by decide +kernel
theorem dX6_cut_19 : decode cX6_cut 19 = .ok (.iload_n 1, 1) := by decide +kernel
theorem dX6_cut_20 : decode cX6_cut 20 = .ok (.ireturn, 1) := by decide +kernel
theorem dX6_lay_0 : decode cX6_lay 0 = .ok (.iload_n 1, 1) := by decide +kernel
theorem dX6_lay_1 : decode cX6_lay 1 = .ok (.invokestatic 60, 3) := by decide +kernel
theorem dX6_lay_4 : decode cX6_lay 4 = .ok (.ifCond .eq 15, 3) := by decide +kernel
theorem dX6_lay_7 : decode cX6_lay 7 = .ok (.iload_n 2, 1) := by decide +kernel
theorem dX6_lay_8 : decode cX6_lay 8 = .ok (.i2l, 1) := by decide +kernel
theorem dX6_lay_9 : decode cX6_lay 9 = .ok (.lconst 0, 1) := by decide +kernel
theorem dX6_lay_10 : decode cX6_lay 10 = .ok (.ldc2_w 64, 3) := by decide +kernel
theorem dX6_lay_13 : decode cX6_lay 13 = .ok (.invokestatic 51, 3) := by decide +kernel
theorem dX6_lay_16 : decode cX6_lay 16 = .ok (.ifCond .ne 6, 3) := by decide +kernel
theorem dX6_lay_19 : decode cX6_lay 19 = .ok (.bipush (-2), 2) := by decide +kernel
theorem dX6_lay_21 : decode cX6_lay 21 = .ok (.ireturn, 1) := by decide +kernel
theorem dX6_lay_22 : decode cX6_lay 22 = .ok (.aload_n 0, 1) := by decide +kernel
theorem dX6_lay_23 : decode cX6_lay 23 = .ok (.iload_n 1, 1) := by decide +kernel
theorem dX6_lay_24 : decode cX6_lay 24 = .ok (.iload_n 2, 1) := by decide +kernel
theorem dX6_lay_25 : decode cX6_lay 25 = .ok (.iload_n 3, 1) := by decide +kernel
theorem dX6_lay_26 : decode cX6_lay 26 = .ok (.invokevirtual 70, 3) := by decide +kernel
theorem dX6_lay_29 : decode cX6_lay 29 = .ok (.istore 5, 2) := by decide +kernel
theorem dX6_lay_31 : decode cX6_lay 31 = .ok (.iload 5, 2) := by decide +kernel
theorem dX6_lay_33 : decode cX6_lay 33 = .ok (.ifCond .eq 6, 3) := by decide +kernel
theorem dX6_lay_36 : decode cX6_lay 36 = .ok (.iload 5, 2) := by decide +kernel
theorem dX6_lay_38 : decode cX6_lay 38 = .ok (.ireturn, 1) := by decide +kernel
theorem dX6_lay_39 : decode cX6_lay 39 = .ok (.aload_n 0, 1) := by decide +kernel
theorem dX6_lay_40 : decode cX6_lay 40 = .ok (.getfield 16, 3) := by decide +kernel
theorem dX6_lay_43 : decode cX6_lay 43 = .ok (.bipush 60, 2) := by decide +kernel
theorem dX6_lay_45 : decode cX6_lay 45 = .ok (.iload_n 1, 1) := by decide +kernel
theorem dX6_lay_46 : decode cX6_lay 46 = .ok (.imul, 1) := by decide +kernel
theorem dX6_lay_47 : decode cX6_lay 47 = .ok (.iload_n 3, 1) := by decide +kernel
theorem dX6_lay_48 : decode cX6_lay 48 = .ok (.iadd, 1) := by decide +kernel
theorem dX6_lay_49 : decode cX6_lay 49 = .ok (.iload_n 2, 1) := by decide +kernel
theorem dX6_lay_50 : decode cX6_lay 50 = .ok (.iload 4, 2) := by decide +kernel
theorem dX6_lay_52 : decode cX6_lay 52 = .ok (.invokestatic 74, 3) := by decide +kernel
theorem dX6_lay_55 : decode cX6_lay 55 = .ok (.iastore, 1) := by decide +kernel
theorem dX6_lay_56 : decode cX6_lay 56 = .ok (.iconst 1, 1) := by decide +kernel
theorem dX6_lay_57 : decode cX6_lay 57 = .ok (.ireturn, 1) := by decide +kernel
theorem dX6_get_0 : decode cX6_get 0 = .ok (.iload_n 1, 1) := by decide +kernel
theorem dX6_get_1 : decode cX6_get 1 = .ok (.invokestatic 60, 3) := by decide +kernel
theorem dX6_get_4 : decode cX6_get 4 = .ok (.ifCond .eq 25, 3) := by decide +kernel
theorem dX6_get_7 : decode cX6_get 7 = .ok (.iload_n 2, 1) := by decide +kernel
theorem dX6_get_8 : decode cX6_get 8 = .ok (.i2l, 1) := by decide +kernel
theorem dX6_get_9 : decode cX6_get 9 = .ok (.lconst 0, 1) := by decide +kernel
theorem dX6_get_10 : decode cX6_get 10 = .ok (.ldc2_w 64, 3) := by decide +kernel
theorem dX6_get_13 : decode cX6_get 13 = .ok (.invokestatic 51, 3) := by decide +kernel
theorem dX6_get_16 : decode cX6_get 16 = .ok (.ifCond .eq 13, 3) := by decide +kernel
theorem dX6_get_19 : decode cX6_get 19 = .ok (.aload_n 0, 1) := by decide +kernel
theorem dX6_get_20 : decode cX6_get 20 = .ok (.iload_n 1, 1) := by decide +kernel
theorem dX6_get_21 : decode cX6_get 21 = .ok (.iload_n 2, 1) := by decide +kernel
theorem dX6_get_22 : decode cX6_get 22 = .ok (.iload_n 3, 1) := by decide +kernel
theorem dX6_get_23 : decode cX6_get 23 = .ok (.invokevirtual 70, 3) := by decide +kernel
theorem dX6_get_26 : decode cX6_get 26 = .ok (.ifCond .eq 6, 3) := by decide +kernel
theorem dX6_get_29 : decode cX6_get 29 = .ok (.ldc 78, 2) := by decide +kernel
theorem dX6_get_31 : decode cX6_get 31 = .ok (.ireturn, 1) := by decide +kernel
theorem dX6_get_32 : decode cX6_get 32 = .ok (.aload_n 0, 1) := by decide +kernel
theorem dX6_get_33 : decode cX6_get 33 = .ok (.getfield 16, 3) := by decide +kernel
theorem dX6_get_36 : decode cX6_get 36 = .ok (.bipush 60, 2) := by decide +kernel
theorem dX6_get_38 : decode cX6_get 38 = .ok (.iload_n 1, 1) := by decide +kernel
theorem dX6_get_39 : decode cX6_get 39 = .ok (.imul, 1) := by decide +kernel
theorem dX6_get_40 : decode cX6_get 40 = .ok (.iload_n 3, 1) := by decide +kernel
theorem dX6_get_41 : decode cX6_get 41 = .ok (.iadd, 1) := by decide +kernel
theorem dX6_get_42 : decode cX6_get 42 = .ok (.iaload, 1) := by decide +kernel
theorem dX6_get_43 : decode cX6_get 43 = .ok (.ireturn, 1) := by decide +kernel
theorem dX6_copy_0 : decode cX6_copy 0 = .ok (.iload_n 1, 1) := by decide +kernel
theorem dX6_copy_1 : decode cX6_copy 1 = .ok (.invokestatic 60, 3) := by decide +kernel
theorem dX6_copy_4 : decode cX6_copy 4 = .ok (.ifCond .eq 10, 3) := by decide +kernel
theorem dX6_copy_7 : decode cX6_copy 7 = .ok (.iload_n 3, 1) := by decide +kernel
theorem dX6_copy_8 : decode cX6_copy 8 = .ok (.invokestatic 60, 3) := by decide +kernel
theorem dX6_copy_11 : decode cX6_copy 11 = .ok (.ifCond .ne 6, 3) := by decide +kernel
theorem dX6_copy_14 : decode cX6_copy 14 = .ok (.bipush (-2), 2) := by decide +kernel
theorem dX6_copy_16 : decode cX6_copy 16 = .ok (.ireturn, 1) := by decide +kernel
theorem dX6_copy_17 : decode cX6_copy 17 = .ok (.aload_n 0, 1) := by decide +kernel
theorem dX6_copy_18 : decode cX6_copy 18 = .ok (.getfield 7, 3) := by decide +kernel
theorem dX6_copy_21 : decode cX6_copy 21 = .ok (.iload_n 1, 1) := by decide +kernel
theorem dX6_copy_22 : decode cX6_copy 22 = .ok (.iaload, 1) := by decide +kernel
theorem dX6_copy_23 : decode cX6_copy 23 = .ok (.ifCond .lt 12, 3) := by decide +kernel
theorem dX6_copy_26 : decode cX6_copy 26 = .ok (.aload_n 0, 1) := by decide +kernel
theorem dX6_copy_27 : decode cX6_copy 27 = .ok (.getfield 7, 3) := by decide +kernel
theorem dX6_copy_30 : decode cX6_copy 30 = .ok (.iload_n 3, 1) := by decide +kernel
theorem dX6_copy_31 : decode cX6_copy 31 = .ok (.iaload, 1) := by decide +kernel
theorem dX6_copy_32 : decode cX6_copy 32 = .ok (.ifCond .ge 9, 3) := by decide +kernel
theorem dX6_copy_35 : decode cX6_copy 35 = .ok (.aload_n 0, 1) := by decide +kernel
theorem dX6_copy_36 : decode cX6_copy 36 = .ok (.iconst 1, 1) := by decide +kernel
theorem dX6_copy_37 : decode cX6_copy 37 = .ok (.invokevirtual 66, 3) := by decide +kernel
theorem dX6_copy_40 : decode cX6_copy 40 = .ok (.ireturn, 1) := by decide +kernel
theorem dX6_copy_41 : decode cX6_copy 41 = .ok (.aload_n 0, 1) := by decide +kernel
theorem dX6_copy_42 : decode cX6_copy 42 = .ok (.getfield 7, 3) := by decide +kernel
theorem dX6_copy_45 : decode cX6_copy 45 = .ok (.iload_n 1, 1) := by decide +kernel
theorem dX6_copy_46 : decode cX6_copy 46 = .ok (.iaload, 1) := by decide +kernel
theorem dX6_copy_47 : decode cX6_copy 47 = .ok (.aload_n 0, 1) := by decide +kernel
theorem dX6_copy_48 : decode cX6_copy 48 = .ok (.getfield 7, 3) := by decide +kernel
theorem dX6_copy_51 : decode cX6_copy 51 = .ok (.iload_n 3, 1) := by decide +kernel
theorem dX6_copy_52 : decode cX6_copy 52 = .ok (.iaload, 1) := by decide +kernel
theorem dX6_copy_53 : decode cX6_copy 53 = .ok (.if_icmp .eq 9, 3) := by decide +kernel
theorem dX6_copy_56 : decode cX6_copy 56 = .ok (.aload_n 0, 1) := by decide +kernel
theorem dX6_copy_57 : decode cX6_copy 57 = .ok (.iconst 4, 1) := by decide +kernel
theorem dX6_copy_58 : decode cX6_copy 58 = .ok (.invokevirtual 66, 3) := by decide +kernel
theorem dX6_copy_61 : decode cX6_copy 61 = .ok (.ireturn, 1) := by decide +kernel
theorem dX6_copy_62 : decode cX6_copy 62 = .ok (.iload_n 2, 1) := by decide +kernel
theorem dX6_copy_63 : decode cX6_copy 63 = .ok (.ifCond .lt 48, 3) := by decide +kernel
theorem dX6_copy_66 : decode cX6_copy 66 = .ok (.iload 4, 2) := by decide +kernel
theorem dX6_copy_68 : decode cX6_copy 68 = .ok (.ifCond .lt 43, 3) := by decide +kernel
theorem dX6_copy_71 : decode cX6_copy 71 = .ok (.iload 5, 2) := by decide +kernel
theorem dX6_copy_73 : decode cX6_copy 73 = .ok (.ifCond .lt 38, 3) := by decide +kernel
theorem dX6_copy_76 : decode cX6_copy 76 = .ok (.iload_n 2, 1) := by decide +kernel
theorem dX6_copy_77 : decode cX6_copy 77 = .ok (.i2l, 1) := by decide +kernel
theorem dX6_copy_78 : decode cX6_copy 78 = .ok (.iload 5, 2) := by decide +kernel
theorem dX6_copy_80 : decode cX6_copy 80 = .ok (.i2l, 1) := by decide +kernel
theorem dX6_copy_81 : decode cX6_copy 81 = .ok (.ladd, 1) := by decide +kernel
theorem dX6_copy_82 : decode cX6_copy 82 = .ok (.aload_n 0, 1) := by decide +kernel
theorem dX6_copy_83 : decode cX6_copy 83 = .ok (.getfield 13, 3) := by decide +kernel
theorem dX6_copy_86 : decode cX6_copy 86 = .ok (.iload_n 1, 1) := by decide +kernel
theorem dX6_copy_87 : decode cX6_copy 87 = .ok (.iaload, 1) := by decide +kernel
theorem dX6_copy_88 : decode cX6_copy 88 = .ok (.i2l, 1) := by decide +kernel
theorem dX6_copy_89 : decode cX6_copy 89 = .ok (.lcmp, 1) := by decide +kernel
theorem dX6_copy_90 : decode cX6_copy 90 = .ok (.ifCond .gt 21, 3) := by decide +kernel
theorem dX6_copy_93 : decode cX6_copy 93 = .ok (.iload 4, 2) := by decide +kernel
theorem dX6_copy_95 : decode cX6_copy 95 = .ok (.i2l, 1) := by decide +kernel
theorem dX6_copy_96 : decode cX6_copy 96 = .ok (.iload 5, 2) := by decide +kernel
theorem dX6_copy_98 : decode cX6_copy 98 = .ok (.i2l, 1) := by decide +kernel
theorem dX6_copy_99 : decode cX6_copy 99 = .ok (.ladd, 1) := by decide +kernel
theorem dX6_copy_100 : decode cX6_copy 100 = .ok (.aload_n 0, 1) := by decide +kernel
theorem dX6_copy_101 : decode cX6_copy 101 = .ok (.getfield 13, 3) := by decide +kernel
theorem dX6_copy_104 : decode cX6_copy 104 = .ok (.iload_n 3, 1) := by decide +kernel
theorem dX6_copy_105 : decode cX6_copy 105 = .ok (.iaload, 1) := by decide +kernel
theorem dX6_copy_106 : decode cX6_copy 106 = .ok (.i2l, 1) := by decide +kernel
theorem dX6_copy_107 : decode cX6_copy 107 = .ok (.lcmp, 1) := by decide +kernel
theorem dX6_copy_108 : decode cX6_copy 108 = .ok (.ifCond .le 9, 3) := by decide +kernel
theorem dX6_copy_111 : decode cX6_copy 111 = .ok (.aload_n 0, 1) := by decide +kernel
theorem dX6_copy_112 : decode cX6_copy 112 = .ok (.iconst 2, 1) := by decide +kernel
theorem dX6_copy_113 : decode cX6_copy 113 = .ok (.invokevirtual 66, 3) := by decide +kernel
theorem dX6_copy_116 : decode cX6_copy 116 = .ok (.ireturn, 1) := by decide +kernel
theorem dX6_copy_117 : decode cX6_copy 117 = .ok (.iconst 0, 1) := by decide +kernel
theorem dX6_copy_118 : decode cX6_copy 118 = .ok (.istore 6, 2) := by decide +kernel
theorem dX6_copy_120 : decode cX6_copy 120 = .ok (.iload 6, 2) := by decide +kernel
theorem dX6_copy_122 : decode cX6_copy 122 = .ok (.iload 5, 2) := by decide +kernel
theorem dX6_copy_124 : decode cX6_copy 124 = .ok (.if_icmp .ge 30, 3) := by decide +kernel
theorem dX6_copy_127 : decode cX6_copy 127 = .ok (.aload_n 0, 1) := by decide +kernel
theorem dX6_copy_128 : decode cX6_copy 128 = .ok (.getfield 19, 3) := by decide +kernel
theorem dX6_copy_131 : decode cX6_copy 131 = .ok (.iload 6, 2) := by decide +kernel
theorem dX6_copy_133 : decode cX6_copy 133 = .ok (.aload_n 0, 1) := by decide +kernel
theorem dX6_copy_134 : decode cX6_copy 134 = .ok (.getfield 16, 3) := by decide +kernel
theorem dX6_copy_137 : decode cX6_copy 137 = .ok (.bipush 60, 2) := by decide +kernel
theorem dX6_copy_139 : decode cX6_copy 139 = .ok (.iload_n 1, 1) := by decide +kernel
theorem dX6_copy_140 : decode cX6_copy 140 = .ok (.imul, 1) := by decide +kernel
theorem dX6_copy_141 : decode cX6_copy 141 = .ok (.iload_n 2, 1) := by decide +kernel
theorem dX6_copy_142 : decode cX6_copy 142 = .ok (.iadd, 1) := by decide +kernel
theorem dX6_copy_143 : decode cX6_copy 143 = .ok (.iload 6, 2) := by decide +kernel
theorem dX6_copy_145 : decode cX6_copy 145 = .ok (.iadd, 1) := by decide +kernel
theorem dX6_copy_146 : decode cX6_copy 146 = .ok (.iaload, 1) := by decide +kernel
theorem dX6_copy_147 : decode cX6_copy 147 = .ok (.iastore, 1) := by decide +kernel
theorem dX6_copy_148 : decode cX6_copy 148 = .ok (.iinc 6 1, 3) := by decide +kernel
theorem dX6_copy_151 : decode cX6_copy 151 = .ok (.goto (-31), 3) := by decide +kernel
theorem dX6_copy_154 : decode cX6_copy 154 = .ok (.iconst 0, 1) := by decide +kernel
theorem dX6_copy_155 : decode cX6_copy 155 = .ok (.istore 6, 2) := by decide +kernel
theorem dX6_copy_157 : decode cX6_copy 157 = .ok (.iload 6, 2) := by decide +kernel
theorem dX6_copy_159 : decode cX6_copy 159 = .ok (.iload 5, 2) := by decide +kernel
theorem dX6_copy_161 : decode cX6_copy 161 = .ok (.if_icmp .ge 31, 3) := by decide +kernel
theorem dX6_copy_164 : decode cX6_copy 164 = .ok (.aload_n 0, 1) := by decide +kernel
theorem dX6_copy_165 : decode cX6_copy 165 = .ok (.getfield 16, 3) := by decide +kernel
theorem dX6_copy_168 : decode cX6_copy 168 = .ok (.bipush 60, 2) := by decide +kernel
theorem dX6_copy_170 : decode cX6_copy 170 = .ok (.iload_n 3, 1) := by decide +kernel
theorem dX6_copy_171 : decode cX6_copy 171 = .ok (.imul, 1) := by decide +kernel
theorem dX6_copy_172 : decode cX6_copy 172 = .ok (.iload 4, 2) := by decide +kernel
theorem dX6_copy_174 : decode cX6_copy 174 = .ok (.iadd, 1) := by decide +kernel
theorem dX6_copy_175 : decode cX6_copy 175 = .ok (.iload 6, 2) := by decide +kernel
theorem dX6_copy_177 : decode cX6_copy 177 = .ok (.iadd, 1) := by decide +kernel
theorem dX6_copy_178 : decode cX6_copy 178 = .ok (.aload_n 0, 1) := by decide +kernel
theorem dX6_copy_179 : decode cX6_copy 179 = .ok (.getfield 19, 3) := by decide +kernel
theorem dX6_copy_182 : decode cX6_copy 182 = .ok (.iload 6, 2) := by decide +kernel
theorem dX6_copy_184 : decode cX6_copy 184 = .ok (.iaload, 1) := by decide +kernel
theorem dX6_copy_185 : decode cX6_copy 185 = .ok (.iastore, 1) := by decide +kernel
theorem dX6_copy_186 : decode cX6_copy 186 = .ok (.iinc 6 1, 3) := by decide +kernel
theorem dX6_copy_189 : decode cX6_copy 189 = .ok (.goto (-32), 3) := by decide +kernel
theorem dX6_copy_192 : decode cX6_copy 192 = .ok (.iconst 1, 1) := by decide +kernel
theorem dX6_copy_193 : decode cX6_copy 193 = .ok (.ireturn, 1) := by decide +kernel
theorem dX6_isValue_0 : decode cX6_isValue 0 = .ok (.iload_n 1, 1) := by decide +kernel
theorem dX6_isValue_1 : decode cX6_isValue 1 = .ok (.i2l, 1) := by decide +kernel
theorem dX6_isValue_2 : decode cX6_isValue 2 = .ok (.lconst 0, 1) := by decide +kernel
theorem dX6_isValue_3 : decode cX6_isValue 3 = .ok (.iload_n 0, 1) := by decide +kernel
theorem dX6_isValue_4 : decode cX6_isValue 4 = .ok (.iconst 4, 1) := by decide +kernel
theorem dX6_isValue_5 : decode cX6_isValue 5 = .ok (.if_icmp .ne 9, 3) := by decide +kernel
theorem dX6_isValue_8 : decode cX6_isValue 8 = .ok (.ldc2_w 64, 3) := by decide +kernel
theorem dX6_isValue_11 : decode cX6_isValue 11 = .ok (.goto 6, 3) := by decide +kernel
theorem dX6_isValue_14 : decode cX6_isValue 14 = .ok (.ldc2_w 79, 3) := by decide +kernel
theorem dX6_isValue_17 : decode cX6_isValue 17 = .ok (.invokestatic 51, 3) := by decide +kernel
theorem dX6_isValue_20 : decode cX6_isValue 20 = .ok (.ireturn, 1) := by decide +kernel
theorem dX6_put_0 : decode cX6_put 0 = .ok (.iload_n 1, 1) := by decide +kernel
theorem dX6_put_1 : decode cX6_put 1 = .ok (.i2l, 1) := by decide +kernel
theorem dX6_put_2 : decode cX6_put 2 = .ok (.lconst 0, 1) := by decide +kernel
theorem dX6_put_3 : decode cX6_put 3 = .ok (.ldc2_w 81, 3) := by decide +kernel
theorem dX6_put_6 : decode cX6_put 6 = .ok (.invokestatic 51, 3) := by decide +kernel
theorem dX6_put_9 : decode cX6_put 9 = .ok (.ifCond .eq 23, 3) := by decide +kernel
theorem dX6_put_12 : decode cX6_put 12 = .ok (.iload_n 2, 1) := by decide +kernel
theorem dX6_put_13 : decode cX6_put 13 = .ok (.i2l, 1) := by decide +kernel
theorem dX6_put_14 : decode cX6_put 14 = .ok (.lconst 0, 1) := by decide +kernel
theorem dX6_put_15 : decode cX6_put 15 = .ok (.ldc2_w 83, 3) := by decide +kernel
theorem dX6_put_18 : decode cX6_put 18 = .ok (.invokestatic 51, 3) := by decide +kernel
theorem dX6_put_21 : decode cX6_put 21 = .ok (.ifCond .eq 11, 3) := by decide +kernel
theorem dX6_put_24 : decode cX6_put 24 = .ok (.iload_n 2, 1) := by decide +kernel

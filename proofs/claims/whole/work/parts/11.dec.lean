theorem d_Main_within_0 : decode prog_1_method_36_code 0 = .ok (.iload_n 0, 1) := by decide +kernel
theorem d_Main_within_1 : decode prog_1_method_36_code 1 = .ok (.iload_n 1, 1) := by decide +kernel
theorem d_Main_within_2 : decode prog_1_method_36_code 2 = .ok (.if_icmp .lt 12, 3) := by decide +kernel
theorem d_Main_within_5 : decode prog_1_method_36_code 5 = .ok (.iload_n 0, 1) := by decide +kernel
theorem d_Main_within_6 : decode prog_1_method_36_code 6 = .ok (.iload_n 2, 1) := by decide +kernel
theorem d_Main_within_7 : decode prog_1_method_36_code 7 = .ok (.if_icmp .gt 7, 3) := by decide +kernel
theorem d_Main_within_10 : decode prog_1_method_36_code 10 = .ok (.iconst 1, 1) := by decide +kernel
theorem d_Main_within_11 : decode prog_1_method_36_code 11 = .ok (.goto 4, 3) := by decide +kernel
theorem d_Main_within_14 : decode prog_1_method_36_code 14 = .ok (.iconst 0, 1) := by decide +kernel
theorem d_Main_within_15 : decode prog_1_method_36_code 15 = .ok (.ireturn, 1) := by decide +kernel
theorem d_Text_put_0 : decode prog_8_method_2_code 0 = .ok (.aload_n 0, 1) := by decide +kernel
theorem d_Text_put_1 : decode prog_8_method_2_code 1 = .ok (.getfield 15, 3) := by decide +kernel
theorem d_Text_put_4 : decode prog_8_method_2_code 4 = .ok (.sipush 500, 3) := by decide +kernel
theorem d_Text_put_7 : decode prog_8_method_2_code 7 = .ok (.if_icmp .ge 23, 3) := by decide +kernel
theorem d_Text_put_10 : decode prog_8_method_2_code 10 = .ok (.aload_n 0, 1) := by decide +kernel
theorem d_Text_put_11 : decode prog_8_method_2_code 11 = .ok (.getfield 9, 3) := by decide +kernel
theorem d_Text_put_14 : decode prog_8_method_2_code 14 = .ok (.aload_n 0, 1) := by decide +kernel
theorem d_Text_put_15 : decode prog_8_method_2_code 15 = .ok (.getfield 15, 3) := by decide +kernel
theorem d_Text_put_18 : decode prog_8_method_2_code 18 = .ok (.iload_n 1, 1) := by decide +kernel
theorem d_Text_put_19 : decode prog_8_method_2_code 19 = .ok (.iastore, 1) := by decide +kernel
theorem d_Text_put_20 : decode prog_8_method_2_code 20 = .ok (.aload_n 0, 1) := by decide +kernel
theorem d_Text_put_21 : decode prog_8_method_2_code 21 = .ok (.dup, 1) := by decide +kernel
theorem d_Text_put_22 : decode prog_8_method_2_code 22 = .ok (.getfield 15, 3) := by decide +kernel
theorem d_Text_put_25 : decode prog_8_method_2_code 25 = .ok (.iconst 1, 1) := by decide +kernel
theorem d_Text_put_26 : decode prog_8_method_2_code 26 = .ok (.iadd, 1) := by decide +kernel
theorem d_Text_put_27 : decode prog_8_method_2_code 27 = .ok (.putfield 15, 3) := by decide +kernel
theorem d_Text_put_30 : decode prog_8_method_2_code 30 = .ok (.return_, 1) := by decide +kernel
theorem d_Main_write_0 : decode prog_1_method_2_code 0 = .ok (.iload_n 1, 1) := by decide +kernel
theorem d_Main_write_1 : decode prog_1_method_2_code 1 = .ok (.iconst 1, 1) := by decide +kernel
theorem d_Main_write_2 : decode prog_1_method_2_code 2 = .ok (.bipush 8, 2) := by decide +kernel
theorem d_Main_write_4 : decode prog_1_method_2_code 4 = .ok (.invokestatic 61, 3) := by decide +kernel
theorem d_Main_write_7 : decode prog_1_method_2_code 7 = .ok (.ifCond .ne 5, 3) := by decide +kernel
theorem d_Main_write_10 : decode prog_1_method_2_code 10 = .ok (.iconst (-1), 1) := by decide +kernel
theorem d_Main_write_11 : decode prog_1_method_2_code 11 = .ok (.ireturn, 1) := by decide +kernel
theorem d_Main_write_12 : decode prog_1_method_2_code 12 = .ok (.aload_n 0, 1) := by decide +kernel
theorem d_Main_write_13 : decode prog_1_method_2_code 13 = .ok (.getfield 10, 3) := by decide +kernel
theorem d_Main_write_16 : decode prog_1_method_2_code 16 = .ok (.getfield 65, 3) := by decide +kernel
theorem d_Main_write_19 : decode prog_1_method_2_code 19 = .ok (.iload_n 1, 1) := by decide +kernel
theorem d_Main_write_20 : decode prog_1_method_2_code 20 = .ok (.iadd, 1) := by decide +kernel
theorem d_Main_write_21 : decode prog_1_method_2_code 21 = .ok (.sipush 500, 3) := by decide +kernel
theorem d_Main_write_24 : decode prog_1_method_2_code 24 = .ok (.if_icmp .le 6, 3) := by decide +kernel
theorem d_Main_write_27 : decode prog_1_method_2_code 27 = .ok (.bipush (-3), 2) := by decide +kernel
theorem d_Main_write_29 : decode prog_1_method_2_code 29 = .ok (.ireturn, 1) := by decide +kernel
theorem d_Main_write_30 : decode prog_1_method_2_code 30 = .ok (.iload_n 1, 1) := by decide +kernel
theorem d_Main_write_31 : decode prog_1_method_2_code 31 = .ok (.iconst 1, 1) := by decide +kernel
theorem d_Main_write_32 : decode prog_1_method_2_code 32 = .ok (.isub, 1) := by decide +kernel
theorem d_Main_write_33 : decode prog_1_method_2_code 33 = .ok (.istore 4, 2) := by decide +kernel
theorem d_Main_write_35 : decode prog_1_method_2_code 35 = .ok (.iload 4, 2) := by decide +kernel
theorem d_Main_write_37 : decode prog_1_method_2_code 37 = .ok (.ifCond .lt 28, 3) := by decide +kernel
theorem d_Main_write_40 : decode prog_1_method_2_code 40 = .ok (.aload_n 0, 1) := by decide +kernel
theorem d_Main_write_41 : decode prog_1_method_2_code 41 = .ok (.getfield 10, 3) := by decide +kernel
theorem d_Main_write_44 : decode prog_1_method_2_code 44 = .ok (.lload_n 2, 1) := by decide +kernel
theorem d_Main_write_45 : decode prog_1_method_2_code 45 = .ok (.bipush 8, 2) := by decide +kernel
theorem d_Main_write_47 : decode prog_1_method_2_code 47 = .ok (.iload 4, 2) := by decide +kernel
theorem d_Main_write_49 : decode prog_1_method_2_code 49 = .ok (.imul, 1) := by decide +kernel
theorem d_Main_write_50 : decode prog_1_method_2_code 50 = .ok (.lushr, 1) := by decide +kernel
theorem d_Main_write_51 : decode prog_1_method_2_code 51 = .ok (.l2i, 1) := by decide +kernel
theorem d_Main_write_52 : decode prog_1_method_2_code 52 = .ok (.sipush 255, 3) := by decide +kernel
theorem d_Main_write_55 : decode prog_1_method_2_code 55 = .ok (.iand, 1) := by decide +kernel
theorem d_Main_write_56 : decode prog_1_method_2_code 56 = .ok (.invokevirtual 69, 3) := by decide +kernel
theorem d_Main_write_59 : decode prog_1_method_2_code 59 = .ok (.iinc 4 (-1), 3) := by decide +kernel
theorem d_Main_write_62 : decode prog_1_method_2_code 62 = .ok (.goto (-27), 3) := by decide +kernel
theorem d_Main_write_65 : decode prog_1_method_2_code 65 = .ok (.aload_n 0, 1) := by decide +kernel
theorem d_Main_write_66 : decode prog_1_method_2_code 66 = .ok (.getfield 10, 3) := by decide +kernel
theorem d_Main_write_69 : decode prog_1_method_2_code 69 = .ok (.getfield 65, 3) := by decide +kernel
theorem d_Main_write_72 : decode prog_1_method_2_code 72 = .ok (.ireturn, 1) := by decide +kernel
theorem d_Text_clear_0 : decode prog_8_method_3_code 0 = .ok (.aload_n 0, 1) := by decide +kernel
theorem d_Text_clear_1 : decode prog_8_method_3_code 1 = .ok (.iconst 0, 1) := by decide +kernel
theorem d_Text_clear_2 : decode prog_8_method_3_code 2 = .ok (.putfield 15, 3) := by decide +kernel
theorem d_Text_clear_5 : decode prog_8_method_3_code 5 = .ok (.return_, 1) := by decide +kernel
theorem d_Main_wipe_0 : decode prog_1_method_3_code 0 = .ok (.aload_n 0, 1) := by decide +kernel
theorem d_Main_wipe_1 : decode prog_1_method_3_code 1 = .ok (.getfield 10, 3) := by decide +kernel
theorem d_Main_wipe_4 : decode prog_1_method_3_code 4 = .ok (.getfield 65, 3) := by decide +kernel
theorem d_Main_wipe_7 : decode prog_1_method_3_code 7 = .ok (.istore_n 1, 1) := by decide +kernel
theorem d_Main_wipe_8 : decode prog_1_method_3_code 8 = .ok (.aload_n 0, 1) := by decide +kernel
theorem d_Main_wipe_9 : decode prog_1_method_3_code 9 = .ok (.getfield 10, 3) := by decide +kernel
theorem d_Main_wipe_12 : decode prog_1_method_3_code 12 = .ok (.invokevirtual 73, 3) := by decide +kernel
theorem d_Main_wipe_15 : decode prog_1_method_3_code 15 = .ok (.iload_n 1, 1) := by decide +kernel
theorem d_Main_wipe_16 : decode prog_1_method_3_code 16 = .ok (.ireturn, 1) := by decide +kernel
theorem d_Arrays_fill_0 : decode prog_14_method_103_code 0 = .ok (.iconst 0, 1) := by decide +kernel
theorem d_Arrays_fill_1 : decode prog_14_method_103_code 1 = .ok (.istore_n 2, 1) := by decide +kernel
theorem d_Arrays_fill_2 : decode prog_14_method_103_code 2 = .ok (.aload_n 0, 1) := by decide +kernel
theorem d_Arrays_fill_3 : decode prog_14_method_103_code 3 = .ok (.arraylength, 1) := by decide +kernel
theorem d_Arrays_fill_4 : decode prog_14_method_103_code 4 = .ok (.istore_n 3, 1) := by decide +kernel
theorem d_Arrays_fill_5 : decode prog_14_method_103_code 5 = .ok (.iload_n 2, 1) := by decide +kernel
theorem d_Arrays_fill_6 : decode prog_14_method_103_code 6 = .ok (.iload_n 3, 1) := by decide +kernel
theorem d_Arrays_fill_7 : decode prog_14_method_103_code 7 = .ok (.if_icmp .ge 13, 3) := by decide +kernel
theorem d_Arrays_fill_10 : decode prog_14_method_103_code 10 = .ok (.aload_n 0, 1) := by decide +kernel
theorem d_Arrays_fill_11 : decode prog_14_method_103_code 11 = .ok (.iload_n 2, 1) := by decide +kernel
theorem d_Arrays_fill_12 : decode prog_14_method_103_code 12 = .ok (.iload_n 1, 1) := by decide +kernel
theorem d_Arrays_fill_13 : decode prog_14_method_103_code 13 = .ok (.iastore, 1) := by decide +kernel
theorem d_Arrays_fill_14 : decode prog_14_method_103_code 14 = .ok (.iinc 2 1, 3) := by decide +kernel
theorem d_Arrays_fill_17 : decode prog_14_method_103_code 17 = .ok (.goto (-12), 3) := by decide +kernel
theorem d_Arrays_fill_20 : decode prog_14_method_103_code 20 = .ok (.return_, 1) := by decide +kernel
theorem d_Quern_clear_0 : decode prog_6_method_2_code 0 = .ok (.aload_n 0, 1) := by decide +kernel
theorem d_Quern_clear_1 : decode prog_6_method_2_code 1 = .ok (.iconst 0, 1) := by decide +kernel
theorem d_Quern_clear_2 : decode prog_6_method_2_code 2 = .ok (.putfield 44, 3) := by decide +kernel
theorem d_Quern_clear_5 : decode prog_6_method_2_code 5 = .ok (.aload_n 0, 1) := by decide +kernel
theorem d_Quern_clear_6 : decode prog_6_method_2_code 6 = .ok (.iconst 0, 1) := by decide +kernel
theorem d_Quern_clear_7 : decode prog_6_method_2_code 7 = .ok (.putfield 48, 3) := by decide +kernel
theorem d_Quern_clear_10 : decode prog_6_method_2_code 10 = .ok (.aload_n 0, 1) := by decide +kernel
theorem d_Quern_clear_11 : decode prog_6_method_2_code 11 = .ok (.iconst 0, 1) := by decide +kernel
theorem d_Quern_clear_12 : decode prog_6_method_2_code 12 = .ok (.putfield 51, 3) := by decide +kernel
theorem d_Quern_clear_15 : decode prog_6_method_2_code 15 = .ok (.iconst 0, 1) := by decide +kernel
theorem d_Quern_clear_16 : decode prog_6_method_2_code 16 = .ok (.istore_n 1, 1) := by decide +kernel
theorem d_Quern_clear_17 : decode prog_6_method_2_code 17 = .ok (.iload_n 1, 1) := by decide +kernel
theorem d_Quern_clear_18 : decode prog_6_method_2_code 18 = .ok (.bipush 10, 2) := by decide +kernel
theorem d_Quern_clear_20 : decode prog_6_method_2_code 20 = .ok (.if_icmp .ge 19, 3) := by decide +kernel
theorem d_Quern_clear_23 : decode prog_6_method_2_code 23 = .ok (.aload_n 0, 1) := by decide +kernel
theorem d_Quern_clear_24 : decode prog_6_method_2_code 24 = .ok (.getfield 29, 3) := by decide +kernel
theorem d_Quern_clear_27 : decode prog_6_method_2_code 27 = .ok (.iload_n 1, 1) := by decide +kernel
theorem d_Quern_clear_28 : decode prog_6_method_2_code 28 = .ok (.aaload, 1) := by decide +kernel
theorem d_Quern_clear_29 : decode prog_6_method_2_code 29 = .ok (.iconst 0, 1) := by decide +kernel
theorem d_Quern_clear_30 : decode prog_6_method_2_code 30 = .ok (.invokestatic 54, 3) := by decide +kernel
theorem d_Quern_clear_33 : decode prog_6_method_2_code 33 = .ok (.iinc 1 1, 3) := by decide +kernel
theorem d_Quern_clear_36 : decode prog_6_method_2_code 36 = .ok (.goto (-19), 3) := by decide +kernel
theorem d_Quern_clear_39 : decode prog_6_method_2_code 39 = .ok (.iconst 0, 1) := by decide +kernel
theorem d_Quern_clear_40 : decode prog_6_method_2_code 40 = .ok (.istore_n 1, 1) := by decide +kernel
theorem d_Quern_clear_41 : decode prog_6_method_2_code 41 = .ok (.iload_n 1, 1) := by decide +kernel
theorem d_Quern_clear_42 : decode prog_6_method_2_code 42 = .ok (.iconst 4, 1) := by decide +kernel
theorem d_Quern_clear_43 : decode prog_6_method_2_code 43 = .ok (.if_icmp .ge 19, 3) := by decide +kernel
theorem d_Quern_clear_46 : decode prog_6_method_2_code 46 = .ok (.aload_n 0, 1) := by decide +kernel
theorem d_Quern_clear_47 : decode prog_6_method_2_code 47 = .ok (.getfield 32, 3) := by decide +kernel
theorem d_Quern_clear_50 : decode prog_6_method_2_code 50 = .ok (.iload_n 1, 1) := by decide +kernel
theorem d_Quern_clear_51 : decode prog_6_method_2_code 51 = .ok (.aaload, 1) := by decide +kernel
theorem d_Quern_clear_52 : decode prog_6_method_2_code 52 = .ok (.iconst 0, 1) := by decide +kernel
theorem d_Quern_clear_53 : decode prog_6_method_2_code 53 = .ok (.invokestatic 54, 3) := by decide +kernel
theorem d_Quern_clear_56 : decode prog_6_method_2_code 56 = .ok (.iinc 1 1, 3) := by decide +kernel
theorem d_Quern_clear_59 : decode prog_6_method_2_code 59 = .ok (.goto (-18), 3) := by decide +kernel
theorem d_Quern_clear_62 : decode prog_6_method_2_code 62 = .ok (.iconst 0, 1) := by decide +kernel
theorem d_Quern_clear_63 : decode prog_6_method_2_code 63 = .ok (.istore_n 1, 1) := by decide +kernel
theorem d_Quern_clear_64 : decode prog_6_method_2_code 64 = .ok (.iload_n 1, 1) := by decide +kernel
theorem d_Quern_clear_65 : decode prog_6_method_2_code 65 = .ok (.bipush 6, 2) := by decide +kernel
theorem d_Quern_clear_67 : decode prog_6_method_2_code 67 = .ok (.if_icmp .ge 19, 3) := by decide +kernel
theorem d_Quern_clear_70 : decode prog_6_method_2_code 70 = .ok (.aload_n 0, 1) := by decide +kernel
theorem d_Quern_clear_71 : decode prog_6_method_2_code 71 = .ok (.getfield 41, 3) := by decide +kernel
theorem d_Quern_clear_74 : decode prog_6_method_2_code 74 = .ok (.iload_n 1, 1) := by decide +kernel
theorem d_Quern_clear_75 : decode prog_6_method_2_code 75 = .ok (.aaload, 1) := by decide +kernel
theorem d_Quern_clear_76 : decode prog_6_method_2_code 76 = .ok (.iconst 0, 1) := by decide +kernel
theorem d_Quern_clear_77 : decode prog_6_method_2_code 77 = .ok (.invokestatic 54, 3) := by decide +kernel
theorem d_Quern_clear_80 : decode prog_6_method_2_code 80 = .ok (.iinc 1 1, 3) := by decide +kernel
theorem d_Quern_clear_83 : decode prog_6_method_2_code 83 = .ok (.goto (-19), 3) := by decide +kernel
theorem d_Quern_clear_86 : decode prog_6_method_2_code 86 = .ok (.aload_n 0, 1) := by decide +kernel
theorem d_Quern_clear_87 : decode prog_6_method_2_code 87 = .ok (.getfield 35, 3) := by decide +kernel
theorem d_Quern_clear_90 : decode prog_6_method_2_code 90 = .ok (.iconst 0, 1) := by decide +kernel
theorem d_Quern_clear_91 : decode prog_6_method_2_code 91 = .ok (.invokestatic 54, 3) := by decide +kernel
theorem d_Quern_clear_94 : decode prog_6_method_2_code 94 = .ok (.aload_n 0, 1) := by decide +kernel
theorem d_Quern_clear_95 : decode prog_6_method_2_code 95 = .ok (.getfield 38, 3) := by decide +kernel
theorem d_Quern_clear_98 : decode prog_6_method_2_code 98 = .ok (.iconst 0, 1) := by decide +kernel
theorem d_Quern_clear_99 : decode prog_6_method_2_code 99 = .ok (.invokestatic 54, 3) := by decide +kernel
theorem d_Quern_clear_102 : decode prog_6_method_2_code 102 = .ok (.return_, 1) := by decide +kernel
theorem d_Text_at_0 : decode prog_8_method_4_code 0 = .ok (.iload_n 1, 1) := by decide +kernel
theorem d_Text_at_1 : decode prog_8_method_4_code 1 = .ok (.ifCond .lt 20, 3) := by decide +kernel
theorem d_Text_at_4 : decode prog_8_method_4_code 4 = .ok (.iload_n 1, 1) := by decide +kernel
theorem d_Text_at_5 : decode prog_8_method_4_code 5 = .ok (.aload_n 0, 1) := by decide +kernel
theorem d_Text_at_6 : decode prog_8_method_4_code 6 = .ok (.getfield 15, 3) := by decide +kernel
theorem d_Text_at_9 : decode prog_8_method_4_code 9 = .ok (.if_icmp .ge 12, 3) := by decide +kernel
theorem d_Text_at_12 : decode prog_8_method_4_code 12 = .ok (.aload_n 0, 1) := by decide +kernel
theorem d_Text_at_13 : decode prog_8_method_4_code 13 = .ok (.getfield 9, 3) := by decide +kernel
theorem d_Text_at_16 : decode prog_8_method_4_code 16 = .ok (.iload_n 1, 1) := by decide +kernel
theorem d_Text_at_17 : decode prog_8_method_4_code 17 = .ok (.iaload, 1) := by decide +kernel
theorem d_Text_at_18 : decode prog_8_method_4_code 18 = .ok (.goto 4, 3) := by decide +kernel
theorem d_Text_at_21 : decode prog_8_method_4_code 21 = .ok (.iconst (-1), 1) := by decide +kernel
theorem d_Text_at_22 : decode prog_8_method_4_code 22 = .ok (.ireturn, 1) := by decide +kernel
theorem d_Scribe_numbersOf_0 : decode prog_7_method_4_code 0 = .ok (.iload_n 0, 1) := by decide +kernel
theorem d_Scribe_numbersOf_1 : decode prog_7_method_4_code 1 = .ok (.tableswitch 113 98 120 #[109, 113, 113, 113, 107, 107, 113, 113, 113, 113, 113, 113, 113, 113, 113, 113, 113, 113, 109, 109, 113, 111, 109], 107) := by decide +kernel
theorem d_Scribe_numbersOf_108 : decode prog_7_method_4_code 108 = .ok (.iconst 4, 1) := by decide +kernel
theorem d_Scribe_numbersOf_109 : decode prog_7_method_4_code 109 = .ok (.ireturn, 1) := by decide +kernel
theorem d_Scribe_numbersOf_110 : decode prog_7_method_4_code 110 = .ok (.iconst 3, 1) := by decide +kernel
theorem d_Scribe_numbersOf_111 : decode prog_7_method_4_code 111 = .ok (.ireturn, 1) := by decide +kernel
theorem d_Scribe_numbersOf_112 : decode prog_7_method_4_code 112 = .ok (.iconst 2, 1) := by decide +kernel
theorem d_Scribe_numbersOf_113 : decode prog_7_method_4_code 113 = .ok (.ireturn, 1) := by decide +kernel
theorem d_Scribe_numbersOf_114 : decode prog_7_method_4_code 114 = .ok (.iconst 0, 1) := by decide +kernel
theorem d_Scribe_numbersOf_115 : decode prog_7_method_4_code 115 = .ok (.ireturn, 1) := by decide +kernel
theorem d_Text_isFigure_0 : decode prog_8_method_5_code 0 = .ok (.aload_n 0, 1) := by decide +kernel
theorem d_Text_isFigure_1 : decode prog_8_method_5_code 1 = .ok (.iload_n 1, 1) := by decide +kernel
theorem d_Text_isFigure_2 : decode prog_8_method_5_code 2 = .ok (.invokevirtual 19, 3) := by decide +kernel
theorem d_Text_isFigure_5 : decode prog_8_method_5_code 5 = .ok (.bipush 48, 2) := by decide +kernel
theorem d_Text_isFigure_7 : decode prog_8_method_5_code 7 = .ok (.if_icmp .lt 17, 3) := by decide +kernel
theorem d_Text_isFigure_10 : decode prog_8_method_5_code 10 = .ok (.aload_n 0, 1) := by decide +kernel
theorem d_Text_isFigure_11 : decode prog_8_method_5_code 11 = .ok (.iload_n 1, 1) := by decide +kernel
theorem d_Text_isFigure_12 : decode prog_8_method_5_code 12 = .ok (.invokevirtual 19, 3) := by decide +kernel
theorem d_Text_isFigure_15 : decode prog_8_method_5_code 15 = .ok (.bipush 57, 2) := by decide +kernel
theorem d_Text_isFigure_17 : decode prog_8_method_5_code 17 = .ok (.if_icmp .gt 7, 3) := by decide +kernel
theorem d_Text_isFigure_20 : decode prog_8_method_5_code 20 = .ok (.iconst 1, 1) := by decide +kernel
theorem d_Text_isFigure_21 : decode prog_8_method_5_code 21 = .ok (.goto 4, 3) := by decide +kernel
theorem d_Text_isFigure_24 : decode prog_8_method_5_code 24 = .ok (.iconst 0, 1) := by decide +kernel
theorem d_Text_isFigure_25 : decode prog_8_method_5_code 25 = .ok (.ireturn, 1) := by decide +kernel
theorem d_Scribe_figuresAt_0 : decode prog_7_method_5_code 0 = .ok (.iconst 0, 1) := by decide +kernel
theorem d_Scribe_figuresAt_1 : decode prog_7_method_5_code 1 = .ok (.istore_n 2, 1) := by decide +kernel
theorem d_Scribe_figuresAt_2 : decode prog_7_method_5_code 2 = .ok (.iload_n 2, 1) := by decide +kernel
theorem d_Scribe_figuresAt_3 : decode prog_7_method_5_code 3 = .ok (.iconst 3, 1) := by decide +kernel
theorem d_Scribe_figuresAt_4 : decode prog_7_method_5_code 4 = .ok (.if_icmp .ge 19, 3) := by decide +kernel
theorem d_Scribe_figuresAt_7 : decode prog_7_method_5_code 7 = .ok (.aload_n 0, 1) := by decide +kernel
theorem d_Scribe_figuresAt_8 : decode prog_7_method_5_code 8 = .ok (.iload_n 1, 1) := by decide +kernel
theorem d_Scribe_figuresAt_9 : decode prog_7_method_5_code 9 = .ok (.iload_n 2, 1) := by decide +kernel
theorem d_Scribe_figuresAt_10 : decode prog_7_method_5_code 10 = .ok (.iadd, 1) := by decide +kernel
theorem d_Scribe_figuresAt_11 : decode prog_7_method_5_code 11 = .ok (.invokevirtual 48, 3) := by decide +kernel
theorem d_Scribe_figuresAt_14 : decode prog_7_method_5_code 14 = .ok (.ifCond .eq 9, 3) := by decide +kernel
theorem d_Scribe_figuresAt_17 : decode prog_7_method_5_code 17 = .ok (.iinc 2 1, 3) := by decide +kernel
theorem d_Scribe_figuresAt_20 : decode prog_7_method_5_code 20 = .ok (.goto (-18), 3) := by decide +kernel
theorem d_Scribe_figuresAt_23 : decode prog_7_method_5_code 23 = .ok (.iload_n 2, 1) := by decide +kernel
theorem d_Scribe_figuresAt_24 : decode prog_7_method_5_code 24 = .ok (.ireturn, 1) := by decide +kernel
theorem d_Scribe_numberAt_0 : decode prog_7_method_6_code 0 = .ok (.iconst 0, 1) := by decide +kernel
theorem d_Scribe_numberAt_1 : decode prog_7_method_6_code 1 = .ok (.istore_n 3, 1) := by decide +kernel
theorem d_Scribe_numberAt_2 : decode prog_7_method_6_code 2 = .ok (.iconst 0, 1) := by decide +kernel
theorem d_Scribe_numberAt_3 : decode prog_7_method_6_code 3 = .ok (.istore 4, 2) := by decide +kernel
theorem d_Scribe_numberAt_5 : decode prog_7_method_6_code 5 = .ok (.iload 4, 2) := by decide +kernel
theorem d_Scribe_numberAt_7 : decode prog_7_method_6_code 7 = .ok (.iload_n 2, 1) := by decide +kernel
theorem d_Scribe_numberAt_8 : decode prog_7_method_6_code 8 = .ok (.if_icmp .ge 26, 3) := by decide +kernel
theorem d_Scribe_numberAt_11 : decode prog_7_method_6_code 11 = .ok (.iload_n 3, 1) := by decide +kernel
theorem d_Scribe_numberAt_12 : decode prog_7_method_6_code 12 = .ok (.bipush 10, 2) := by decide +kernel
theorem d_Scribe_numberAt_14 : decode prog_7_method_6_code 14 = .ok (.imul, 1) := by decide +kernel
theorem d_Scribe_numberAt_15 : decode prog_7_method_6_code 15 = .ok (.aload_n 0, 1) := by decide +kernel
theorem d_Scribe_numberAt_16 : decode prog_7_method_6_code 16 = .ok (.iload_n 1, 1) := by decide +kernel
theorem d_Scribe_numberAt_17 : decode prog_7_method_6_code 17 = .ok (.iload 4, 2) := by decide +kernel
theorem d_Scribe_numberAt_19 : decode prog_7_method_6_code 19 = .ok (.iadd, 1) := by decide +kernel
theorem d_Scribe_numberAt_20 : decode prog_7_method_6_code 20 = .ok (.invokevirtual 30, 3) := by decide +kernel
theorem d_Scribe_numberAt_23 : decode prog_7_method_6_code 23 = .ok (.iadd, 1) := by decide +kernel
theorem d_Scribe_numberAt_24 : decode prog_7_method_6_code 24 = .ok (.bipush 48, 2) := by decide +kernel
theorem d_Scribe_numberAt_26 : decode prog_7_method_6_code 26 = .ok (.isub, 1) := by decide +kernel
theorem d_Scribe_numberAt_27 : decode prog_7_method_6_code 27 = .ok (.istore_n 3, 1) := by decide +kernel
theorem d_Scribe_numberAt_28 : decode prog_7_method_6_code 28 = .ok (.iinc 4 1, 3) := by decide +kernel
theorem d_Scribe_numberAt_31 : decode prog_7_method_6_code 31 = .ok (.goto (-26), 3) := by decide +kernel
theorem d_Scribe_numberAt_34 : decode prog_7_method_6_code 34 = .ok (.iload_n 3, 1) := by decide +kernel
theorem d_Scribe_numberAt_35 : decode prog_7_method_6_code 35 = .ok (.ireturn, 1) := by decide +kernel
theorem d_Scribe_placeBehindItem_0 : decode prog_7_method_3_code 0 = .ok (.aload_n 1, 1) := by decide +kernel
theorem d_Scribe_placeBehindItem_1 : decode prog_7_method_3_code 1 = .ok (.iload_n 2, 1) := by decide +kernel
theorem d_Scribe_placeBehindItem_2 : decode prog_7_method_3_code 2 = .ok (.invokevirtual 30, 3) := by decide +kernel
theorem d_Scribe_placeBehindItem_5 : decode prog_7_method_3_code 5 = .ok (.invokestatic 38, 3) := by decide +kernel
theorem d_Scribe_placeBehindItem_8 : decode prog_7_method_3_code 8 = .ok (.istore_n 3, 1) := by decide +kernel
theorem d_Scribe_placeBehindItem_9 : decode prog_7_method_3_code 9 = .ok (.iload_n 3, 1) := by decide +kernel
theorem d_Scribe_placeBehindItem_10 : decode prog_7_method_3_code 10 = .ok (.ifCond .ne 5, 3) := by decide +kernel
theorem d_Scribe_placeBehindItem_13 : decode prog_7_method_3_code 13 = .ok (.iconst (-1), 1) := by decide +kernel
theorem d_Scribe_placeBehindItem_14 : decode prog_7_method_3_code 14 = .ok (.ireturn, 1) := by decide +kernel
theorem d_Scribe_placeBehindItem_15 : decode prog_7_method_3_code 15 = .ok (.iload_n 2, 1) := by decide +kernel
theorem d_Scribe_placeBehindItem_16 : decode prog_7_method_3_code 16 = .ok (.iconst 1, 1) := by decide +kernel
theorem d_Scribe_placeBehindItem_17 : decode prog_7_method_3_code 17 = .ok (.iadd, 1) := by decide +kernel
theorem d_Scribe_placeBehindItem_18 : decode prog_7_method_3_code 18 = .ok (.istore 4, 2) := by decide +kernel
theorem d_Scribe_placeBehindItem_20 : decode prog_7_method_3_code 20 = .ok (.iconst 0, 1) := by decide +kernel
theorem d_Scribe_placeBehindItem_21 : decode prog_7_method_3_code 21 = .ok (.istore 5, 2) := by decide +kernel
theorem d_Scribe_placeBehindItem_23 : decode prog_7_method_3_code 23 = .ok (.iload 5, 2) := by decide +kernel
theorem d_Scribe_placeBehindItem_25 : decode prog_7_method_3_code 25 = .ok (.iload_n 3, 1) := by decide +kernel
theorem d_Scribe_placeBehindItem_26 : decode prog_7_method_3_code 26 = .ok (.if_icmp .ge 75, 3) := by decide +kernel
theorem d_Scribe_placeBehindItem_29 : decode prog_7_method_3_code 29 = .ok (.aload_n 1, 1) := by decide +kernel
theorem d_Scribe_placeBehindItem_30 : decode prog_7_method_3_code 30 = .ok (.iload 4, 2) := by decide +kernel
theorem d_Scribe_placeBehindItem_32 : decode prog_7_method_3_code 32 = .ok (.invokestatic 41, 3) := by decide +kernel
theorem d_Scribe_placeBehindItem_35 : decode prog_7_method_3_code 35 = .ok (.istore 6, 2) := by decide +kernel
theorem d_Scribe_placeBehindItem_37 : decode prog_7_method_3_code 37 = .ok (.iload 6, 2) := by decide +kernel
theorem d_Scribe_placeBehindItem_39 : decode prog_7_method_3_code 39 = .ok (.ifCond .ne 5, 3) := by decide +kernel
theorem d_Scribe_placeBehindItem_42 : decode prog_7_method_3_code 42 = .ok (.iconst (-1), 1) := by decide +kernel
theorem d_Scribe_placeBehindItem_43 : decode prog_7_method_3_code 43 = .ok (.ireturn, 1) := by decide +kernel
theorem d_Scribe_placeBehindItem_44 : decode prog_7_method_3_code 44 = .ok (.aload_n 0, 1) := by decide +kernel
theorem d_Scribe_placeBehindItem_45 : decode prog_7_method_3_code 45 = .ok (.getfield 9, 3) := by decide +kernel
theorem d_Scribe_placeBehindItem_48 : decode prog_7_method_3_code 48 = .ok (.iload 5, 2) := by decide +kernel
theorem d_Scribe_placeBehindItem_50 : decode prog_7_method_3_code 50 = .ok (.aload_n 1, 1) := by decide +kernel
theorem d_Scribe_placeBehindItem_51 : decode prog_7_method_3_code 51 = .ok (.iload 4, 2) := by decide +kernel
theorem d_Scribe_placeBehindItem_53 : decode prog_7_method_3_code 53 = .ok (.iload 6, 2) := by decide +kernel
theorem d_Scribe_placeBehindItem_55 : decode prog_7_method_3_code 55 = .ok (.invokestatic 44, 3) := by decide +kernel
theorem d_Scribe_placeBehindItem_58 : decode prog_7_method_3_code 58 = .ok (.iastore, 1) := by decide +kernel
theorem d_Scribe_placeBehindItem_59 : decode prog_7_method_3_code 59 = .ok (.iload 4, 2) := by decide +kernel
theorem d_Scribe_placeBehindItem_61 : decode prog_7_method_3_code 61 = .ok (.iload 6, 2) := by decide +kernel
theorem d_Scribe_placeBehindItem_63 : decode prog_7_method_3_code 63 = .ok (.iadd, 1) := by decide +kernel
theorem d_Scribe_placeBehindItem_64 : decode prog_7_method_3_code 64 = .ok (.istore 4, 2) := by decide +kernel
theorem d_Scribe_placeBehindItem_66 : decode prog_7_method_3_code 66 = .ok (.aload_n 1, 1) := by decide +kernel
theorem d_Scribe_placeBehindItem_67 : decode prog_7_method_3_code 67 = .ok (.iload 4, 2) := by decide +kernel
theorem d_Scribe_placeBehindItem_69 : decode prog_7_method_3_code 69 = .ok (.invokevirtual 30, 3) := by decide +kernel
theorem d_Scribe_placeBehindItem_72 : decode prog_7_method_3_code 72 = .ok (.iload 5, 2) := by decide +kernel
theorem d_Scribe_placeBehindItem_74 : decode prog_7_method_3_code 74 = .ok (.iload_n 3, 1) := by decide +kernel
theorem d_Scribe_placeBehindItem_75 : decode prog_7_method_3_code 75 = .ok (.iconst 1, 1) := by decide +kernel
theorem d_Scribe_placeBehindItem_76 : decode prog_7_method_3_code 76 = .ok (.isub, 1) := by decide +kernel
theorem d_Scribe_placeBehindItem_77 : decode prog_7_method_3_code 77 = .ok (.if_icmp .ne 8, 3) := by decide +kernel
theorem d_Scribe_placeBehindItem_80 : decode prog_7_method_3_code 80 = .ok (.bipush 59, 2) := by decide +kernel
theorem d_Scribe_placeBehindItem_82 : decode prog_7_method_3_code 82 = .ok (.goto 5, 3) := by decide +kernel
theorem d_Scribe_placeBehindItem_85 : decode prog_7_method_3_code 85 = .ok (.bipush 44, 2) := by decide +kernel
theorem d_Scribe_placeBehindItem_87 : decode prog_7_method_3_code 87 = .ok (.if_icmp .eq 5, 3) := by decide +kernel
theorem d_Scribe_placeBehindItem_90 : decode prog_7_method_3_code 90 = .ok (.iconst (-1), 1) := by decide +kernel
theorem d_Scribe_placeBehindItem_91 : decode prog_7_method_3_code 91 = .ok (.ireturn, 1) := by decide +kernel
theorem d_Scribe_placeBehindItem_92 : decode prog_7_method_3_code 92 = .ok (.iinc 4 1, 3) := by decide +kernel
theorem d_Scribe_placeBehindItem_95 : decode prog_7_method_3_code 95 = .ok (.iinc 5 1, 3) := by decide +kernel
theorem d_Scribe_placeBehindItem_98 : decode prog_7_method_3_code 98 = .ok (.goto (-75), 3) := by decide +kernel
theorem d_Scribe_placeBehindItem_101 : decode prog_7_method_3_code 101 = .ok (.iload 4, 2) := by decide +kernel
theorem d_Scribe_placeBehindItem_103 : decode prog_7_method_3_code 103 = .ok (.ireturn, 1) := by decide +kernel
theorem d_Quern_takeSort_0 : decode prog_6_method_7_code 0 = .ok (.aload_n 0, 1) := by decide +kernel
theorem d_Quern_takeSort_1 : decode prog_6_method_7_code 1 = .ok (.getfield 44, 3) := by decide +kernel
theorem d_Quern_takeSort_4 : decode prog_6_method_7_code 4 = .ok (.bipush 6, 2) := by decide +kernel
theorem d_Quern_takeSort_6 : decode prog_6_method_7_code 6 = .ok (.if_icmp .ge 23, 3) := by decide +kernel
theorem d_Quern_takeSort_9 : decode prog_6_method_7_code 9 = .ok (.aload_n 1, 1) := by decide +kernel
theorem d_Quern_takeSort_10 : decode prog_6_method_7_code 10 = .ok (.iconst 0, 1) := by decide +kernel
theorem d_Quern_takeSort_11 : decode prog_6_method_7_code 11 = .ok (.iaload, 1) := by decide +kernel
theorem d_Quern_takeSort_12 : decode prog_6_method_7_code 12 = .ok (.aload_n 1, 1) := by decide +kernel
theorem d_Quern_takeSort_13 : decode prog_6_method_7_code 13 = .ok (.iconst 1, 1) := by decide +kernel
theorem d_Quern_takeSort_14 : decode prog_6_method_7_code 14 = .ok (.iaload, 1) := by decide +kernel
theorem d_Quern_takeSort_15 : decode prog_6_method_7_code 15 = .ok (.iadd, 1) := by decide +kernel
theorem d_Quern_takeSort_16 : decode prog_6_method_7_code 16 = .ok (.aload_n 1, 1) := by decide +kernel
theorem d_Quern_takeSort_17 : decode prog_6_method_7_code 17 = .ok (.iconst 2, 1) := by decide +kernel
theorem d_Quern_takeSort_18 : decode prog_6_method_7_code 18 = .ok (.iaload, 1) := by decide +kernel
theorem d_Quern_takeSort_19 : decode prog_6_method_7_code 19 = .ok (.iadd, 1) := by decide +kernel
theorem d_Quern_takeSort_20 : decode prog_6_method_7_code 20 = .ok (.aload_n 1, 1) := by decide +kernel
theorem d_Quern_takeSort_21 : decode prog_6_method_7_code 21 = .ok (.iconst 3, 1) := by decide +kernel
theorem d_Quern_takeSort_22 : decode prog_6_method_7_code 22 = .ok (.iaload, 1) := by decide +kernel
theorem d_Quern_takeSort_23 : decode prog_6_method_7_code 23 = .ok (.iadd, 1) := by decide +kernel
theorem d_Quern_takeSort_24 : decode prog_6_method_7_code 24 = .ok (.bipush 100, 2) := by decide +kernel
theorem d_Quern_takeSort_26 : decode prog_6_method_7_code 26 = .ok (.if_icmp .eq 5, 3) := by decide +kernel
theorem d_Quern_takeSort_29 : decode prog_6_method_7_code 29 = .ok (.iconst 0, 1) := by decide +kernel
theorem d_Quern_takeSort_30 : decode prog_6_method_7_code 30 = .ok (.ireturn, 1) := by decide +kernel
theorem d_Quern_takeSort_31 : decode prog_6_method_7_code 31 = .ok (.aload_n 1, 1) := by decide +kernel
theorem d_Quern_takeSort_32 : decode prog_6_method_7_code 32 = .ok (.iconst 0, 1) := by decide +kernel
theorem d_Quern_takeSort_33 : decode prog_6_method_7_code 33 = .ok (.aload_n 0, 1) := by decide +kernel
theorem d_Quern_takeSort_34 : decode prog_6_method_7_code 34 = .ok (.getfield 11, 3) := by decide +kernel
theorem d_Quern_takeSort_37 : decode prog_6_method_7_code 37 = .ok (.aload_n 0, 1) := by decide +kernel
theorem d_Quern_takeSort_38 : decode prog_6_method_7_code 38 = .ok (.getfield 44, 3) := by decide +kernel
theorem d_Quern_takeSort_41 : decode prog_6_method_7_code 41 = .ok (.aaload, 1) := by decide +kernel
theorem d_Quern_takeSort_42 : decode prog_6_method_7_code 42 = .ok (.iconst 0, 1) := by decide +kernel
theorem d_Quern_takeSort_43 : decode prog_6_method_7_code 43 = .ok (.iconst 4, 1) := by decide +kernel
theorem d_Quern_takeSort_44 : decode prog_6_method_7_code 44 = .ok (.invokestatic 84, 3) := by decide +kernel
theorem d_Quern_takeSort_47 : decode prog_6_method_7_code 47 = .ok (.aload_n 0, 1) := by decide +kernel
theorem d_Quern_takeSort_48 : decode prog_6_method_7_code 48 = .ok (.dup, 1) := by decide +kernel
theorem d_Quern_takeSort_49 : decode prog_6_method_7_code 49 = .ok (.getfield 44, 3) := by decide +kernel
theorem d_Quern_takeSort_52 : decode prog_6_method_7_code 52 = .ok (.iconst 1, 1) := by decide +kernel
theorem d_Quern_takeSort_53 : decode prog_6_method_7_code 53 = .ok (.iadd, 1) := by decide +kernel
theorem d_Quern_takeSort_54 : decode prog_6_method_7_code 54 = .ok (.putfield 44, 3) := by decide +kernel
theorem d_Quern_takeSort_57 : decode prog_6_method_7_code 57 = .ok (.iconst 1, 1) := by decide +kernel
theorem d_Quern_takeSort_58 : decode prog_6_method_7_code 58 = .ok (.ireturn, 1) := by decide +kernel
theorem d_Quern_takePatch_0 : decode prog_6_method_8_code 0 = .ok (.aload_n 0, 1) := by decide +kernel
theorem d_Quern_takePatch_1 : decode prog_6_method_8_code 1 = .ok (.getfield 48, 3) := by decide +kernel
theorem d_Quern_takePatch_4 : decode prog_6_method_8_code 4 = .ok (.bipush 10, 2) := by decide +kernel
theorem d_Quern_takePatch_6 : decode prog_6_method_8_code 6 = .ok (.if_icmp .ge 26, 3) := by decide +kernel
theorem d_Quern_takePatch_9 : decode prog_6_method_8_code 9 = .ok (.aload_n 1, 1) := by decide +kernel
theorem d_Quern_takePatch_10 : decode prog_6_method_8_code 10 = .ok (.iconst 0, 1) := by decide +kernel
theorem d_Quern_takePatch_11 : decode prog_6_method_8_code 11 = .ok (.iaload, 1) := by decide +kernel
theorem d_Quern_takePatch_12 : decode prog_6_method_8_code 12 = .ok (.iconst 0, 1) := by decide +kernel
theorem d_Quern_takePatch_13 : decode prog_6_method_8_code 13 = .ok (.bipush 7, 2) := by decide +kernel
theorem d_Quern_takePatch_15 : decode prog_6_method_8_code 15 = .ok (.invokestatic 90, 3) := by decide +kernel
theorem d_Quern_takePatch_18 : decode prog_6_method_8_code 18 = .ok (.ifCond .eq 14, 3) := by decide +kernel
theorem d_Quern_takePatch_21 : decode prog_6_method_8_code 21 = .ok (.aload_n 1, 1) := by decide +kernel
theorem d_Quern_takePatch_22 : decode prog_6_method_8_code 22 = .ok (.iconst 1, 1) := by decide +kernel
theorem d_Quern_takePatch_23 : decode prog_6_method_8_code 23 = .ok (.iaload, 1) := by decide +kernel
theorem d_Quern_takePatch_24 : decode prog_6_method_8_code 24 = .ok (.iconst 0, 1) := by decide +kernel
theorem d_Quern_takePatch_25 : decode prog_6_method_8_code 25 = .ok (.iconst 3, 1) := by decide +kernel
theorem d_Quern_takePatch_26 : decode prog_6_method_8_code 26 = .ok (.invokestatic 90, 3) := by decide +kernel
theorem d_Quern_takePatch_29 : decode prog_6_method_8_code 29 = .ok (.ifCond .ne 5, 3) := by decide +kernel
theorem d_Quern_takePatch_32 : decode prog_6_method_8_code 32 = .ok (.iconst 0, 1) := by decide +kernel
theorem d_Quern_takePatch_33 : decode prog_6_method_8_code 33 = .ok (.ireturn, 1) := by decide +kernel
theorem d_Quern_takePatch_34 : decode prog_6_method_8_code 34 = .ok (.aload_n 1, 1) := by decide +kernel
theorem d_Quern_takePatch_35 : decode prog_6_method_8_code 35 = .ok (.iconst 2, 1) := by decide +kernel
theorem d_Quern_takePatch_36 : decode prog_6_method_8_code 36 = .ok (.iaload, 1) := by decide +kernel
theorem d_Quern_takePatch_37 : decode prog_6_method_8_code 37 = .ok (.iconst 1, 1) := by decide +kernel
theorem d_Quern_takePatch_38 : decode prog_6_method_8_code 38 = .ok (.bipush 9, 2) := by decide +kernel
theorem d_Quern_takePatch_40 : decode prog_6_method_8_code 40 = .ok (.invokestatic 90, 3) := by decide +kernel
theorem d_Quern_takePatch_43 : decode prog_6_method_8_code 43 = .ok (.ifCond .eq 15, 3) := by decide +kernel
theorem d_Quern_takePatch_46 : decode prog_6_method_8_code 46 = .ok (.aload_n 1, 1) := by decide +kernel
theorem d_Quern_takePatch_47 : decode prog_6_method_8_code 47 = .ok (.iconst 3, 1) := by decide +kernel
theorem d_Quern_takePatch_48 : decode prog_6_method_8_code 48 = .ok (.iaload, 1) := by decide +kernel
theorem d_Quern_takePatch_49 : decode prog_6_method_8_code 49 = .ok (.iconst 0, 1) := by decide +kernel
theorem d_Quern_takePatch_50 : decode prog_6_method_8_code 50 = .ok (.bipush 15, 2) := by decide +kernel
theorem d_Quern_takePatch_52 : decode prog_6_method_8_code 52 = .ok (.invokestatic 90, 3) := by decide +kernel
theorem d_Quern_takePatch_55 : decode prog_6_method_8_code 55 = .ok (.ifCond .ne 5, 3) := by decide +kernel
theorem d_Quern_takePatch_58 : decode prog_6_method_8_code 58 = .ok (.iconst 0, 1) := by decide +kernel
theorem d_Quern_takePatch_59 : decode prog_6_method_8_code 59 = .ok (.ireturn, 1) := by decide +kernel
theorem d_Quern_takePatch_60 : decode prog_6_method_8_code 60 = .ok (.aload_n 0, 1) := by decide +kernel
theorem d_Quern_takePatch_61 : decode prog_6_method_8_code 61 = .ok (.getfield 16, 3) := by decide +kernel
theorem d_Quern_takePatch_64 : decode prog_6_method_8_code 64 = .ok (.aload_n 0, 1) := by decide +kernel
theorem d_Quern_takePatch_65 : decode prog_6_method_8_code 65 = .ok (.getfield 48, 3) := by decide +kernel
theorem d_Quern_takePatch_68 : decode prog_6_method_8_code 68 = .ok (.aload_n 1, 1) := by decide +kernel
theorem d_Quern_takePatch_69 : decode prog_6_method_8_code 69 = .ok (.iconst 0, 1) := by decide +kernel
theorem d_Quern_takePatch_70 : decode prog_6_method_8_code 70 = .ok (.iaload, 1) := by decide +kernel
theorem d_Quern_takePatch_71 : decode prog_6_method_8_code 71 = .ok (.iastore, 1) := by decide +kernel
theorem d_Quern_takePatch_72 : decode prog_6_method_8_code 72 = .ok (.aload_n 0, 1) := by decide +kernel
theorem d_Quern_takePatch_73 : decode prog_6_method_8_code 73 = .ok (.getfield 20, 3) := by decide +kernel
theorem d_Quern_takePatch_76 : decode prog_6_method_8_code 76 = .ok (.aload_n 0, 1) := by decide +kernel
theorem d_Quern_takePatch_77 : decode prog_6_method_8_code 77 = .ok (.getfield 48, 3) := by decide +kernel
theorem d_Quern_takePatch_80 : decode prog_6_method_8_code 80 = .ok (.aload_n 1, 1) := by decide +kernel
theorem d_Quern_takePatch_81 : decode prog_6_method_8_code 81 = .ok (.iconst 1, 1) := by decide +kernel
theorem d_Quern_takePatch_82 : decode prog_6_method_8_code 82 = .ok (.iaload, 1) := by decide +kernel
theorem d_Quern_takePatch_83 : decode prog_6_method_8_code 83 = .ok (.iastore, 1) := by decide +kernel
theorem d_Quern_takePatch_84 : decode prog_6_method_8_code 84 = .ok (.aload_n 0, 1) := by decide +kernel
theorem d_Quern_takePatch_85 : decode prog_6_method_8_code 85 = .ok (.getfield 23, 3) := by decide +kernel
theorem d_Quern_takePatch_88 : decode prog_6_method_8_code 88 = .ok (.aload_n 0, 1) := by decide +kernel
theorem d_Quern_takePatch_89 : decode prog_6_method_8_code 89 = .ok (.getfield 48, 3) := by decide +kernel
theorem d_Quern_takePatch_92 : decode prog_6_method_8_code 92 = .ok (.aload_n 1, 1) := by decide +kernel
theorem d_Quern_takePatch_93 : decode prog_6_method_8_code 93 = .ok (.iconst 2, 1) := by decide +kernel
theorem d_Quern_takePatch_94 : decode prog_6_method_8_code 94 = .ok (.iaload, 1) := by decide +kernel
theorem d_Quern_takePatch_95 : decode prog_6_method_8_code 95 = .ok (.iastore, 1) := by decide +kernel
theorem d_Quern_takePatch_96 : decode prog_6_method_8_code 96 = .ok (.aload_n 0, 1) := by decide +kernel
theorem d_Quern_takePatch_97 : decode prog_6_method_8_code 97 = .ok (.getfield 26, 3) := by decide +kernel
theorem d_Quern_takePatch_100 : decode prog_6_method_8_code 100 = .ok (.aload_n 0, 1) := by decide +kernel
theorem d_Quern_takePatch_101 : decode prog_6_method_8_code 101 = .ok (.getfield 48, 3) := by decide +kernel
theorem d_Quern_takePatch_104 : decode prog_6_method_8_code 104 = .ok (.aload_n 1, 1) := by decide +kernel
theorem d_Quern_takePatch_105 : decode prog_6_method_8_code 105 = .ok (.iconst 3, 1) := by decide +kernel
theorem d_Quern_takePatch_106 : decode prog_6_method_8_code 106 = .ok (.iaload, 1) := by decide +kernel
theorem d_Quern_takePatch_107 : decode prog_6_method_8_code 107 = .ok (.iastore, 1) := by decide +kernel
theorem d_Quern_takePatch_108 : decode prog_6_method_8_code 108 = .ok (.aload_n 0, 1) := by decide +kernel
theorem d_Quern_takePatch_109 : decode prog_6_method_8_code 109 = .ok (.dup, 1) := by decide +kernel
theorem d_Quern_takePatch_110 : decode prog_6_method_8_code 110 = .ok (.getfield 48, 3) := by decide +kernel
theorem d_Quern_takePatch_113 : decode prog_6_method_8_code 113 = .ok (.iconst 1, 1) := by decide +kernel
theorem d_Quern_takePatch_114 : decode prog_6_method_8_code 114 = .ok (.iadd, 1) := by decide +kernel
theorem d_Quern_takePatch_115 : decode prog_6_method_8_code 115 = .ok (.putfield 48, 3) := by decide +kernel
theorem d_Quern_takePatch_118 : decode prog_6_method_8_code 118 = .ok (.iconst 1, 1) := by decide +kernel
theorem d_Quern_takePatch_119 : decode prog_6_method_8_code 119 = .ok (.ireturn, 1) := by decide +kernel
theorem d_Quern_hasPatch_0 : decode prog_6_method_5_code 0 = .ok (.iload_n 1, 1) := by decide +kernel
theorem d_Quern_hasPatch_1 : decode prog_6_method_5_code 1 = .ok (.ifCond .lt 15, 3) := by decide +kernel
theorem d_Quern_hasPatch_4 : decode prog_6_method_5_code 4 = .ok (.iload_n 1, 1) := by decide +kernel
theorem d_Quern_hasPatch_5 : decode prog_6_method_5_code 5 = .ok (.aload_n 0, 1) := by decide +kernel
theorem d_Quern_hasPatch_6 : decode prog_6_method_5_code 6 = .ok (.getfield 48, 3) := by decide +kernel
theorem d_Quern_hasPatch_9 : decode prog_6_method_5_code 9 = .ok (.if_icmp .ge 7, 3) := by decide +kernel
theorem d_Quern_hasPatch_12 : decode prog_6_method_5_code 12 = .ok (.iconst 1, 1) := by decide +kernel
theorem d_Quern_hasPatch_13 : decode prog_6_method_5_code 13 = .ok (.goto 4, 3) := by decide +kernel
theorem d_Quern_hasPatch_16 : decode prog_6_method_5_code 16 = .ok (.iconst 0, 1) := by decide +kernel
theorem d_Quern_hasPatch_17 : decode prog_6_method_5_code 17 = .ok (.ireturn, 1) := by decide +kernel
theorem d_Quern_hasSort_0 : decode prog_6_method_4_code 0 = .ok (.iload_n 1, 1) := by decide +kernel
theorem d_Quern_hasSort_1 : decode prog_6_method_4_code 1 = .ok (.ifCond .lt 15, 3) := by decide +kernel
theorem d_Quern_hasSort_4 : decode prog_6_method_4_code 4 = .ok (.iload_n 1, 1) := by decide +kernel
theorem d_Quern_hasSort_5 : decode prog_6_method_4_code 5 = .ok (.aload_n 0, 1) := by decide +kernel
theorem d_Quern_hasSort_6 : decode prog_6_method_4_code 6 = .ok (.getfield 44, 3) := by decide +kernel
theorem d_Quern_hasSort_9 : decode prog_6_method_4_code 9 = .ok (.if_icmp .ge 7, 3) := by decide +kernel
theorem d_Quern_hasSort_12 : decode prog_6_method_4_code 12 = .ok (.iconst 1, 1) := by decide +kernel
theorem d_Quern_hasSort_13 : decode prog_6_method_4_code 13 = .ok (.goto 4, 3) := by decide +kernel
theorem d_Quern_hasSort_16 : decode prog_6_method_4_code 16 = .ok (.iconst 0, 1) := by decide +kernel
theorem d_Quern_hasSort_17 : decode prog_6_method_4_code 17 = .ok (.ireturn, 1) := by decide +kernel
theorem d_Quern_takeUse_0 : decode prog_6_method_9_code 0 = .ok (.aload_n 0, 1) := by decide +kernel
theorem d_Quern_takeUse_1 : decode prog_6_method_9_code 1 = .ok (.iload_n 1, 1) := by decide +kernel
theorem d_Quern_takeUse_2 : decode prog_6_method_9_code 2 = .ok (.invokevirtual 93, 3) := by decide +kernel
theorem d_Quern_takeUse_5 : decode prog_6_method_9_code 5 = .ok (.ifCond .eq 21, 3) := by decide +kernel
theorem d_Quern_takeUse_8 : decode prog_6_method_9_code 8 = .ok (.aload_n 0, 1) := by decide +kernel
theorem d_Quern_takeUse_9 : decode prog_6_method_9_code 9 = .ok (.iload_n 2, 1) := by decide +kernel
theorem d_Quern_takeUse_10 : decode prog_6_method_9_code 10 = .ok (.invokevirtual 97, 3) := by decide +kernel
theorem d_Quern_takeUse_13 : decode prog_6_method_9_code 13 = .ok (.ifCond .eq 13, 3) := by decide +kernel
theorem d_Quern_takeUse_16 : decode prog_6_method_9_code 16 = .ok (.iload_n 3, 1) := by decide +kernel
theorem d_Quern_takeUse_17 : decode prog_6_method_9_code 17 = .ok (.iconst 0, 1) := by decide +kernel
theorem d_Quern_takeUse_18 : decode prog_6_method_9_code 18 = .ok (.bipush 60, 2) := by decide +kernel
theorem d_Quern_takeUse_20 : decode prog_6_method_9_code 20 = .ok (.invokestatic 90, 3) := by decide +kernel
theorem d_Quern_takeUse_23 : decode prog_6_method_9_code 23 = .ok (.ifCond .ne 5, 3) := by decide +kernel
theorem d_Quern_takeUse_26 : decode prog_6_method_9_code 26 = .ok (.iconst 0, 1) := by decide +kernel
theorem d_Quern_takeUse_27 : decode prog_6_method_9_code 27 = .ok (.ireturn, 1) := by decide +kernel
theorem d_Quern_takeUse_28 : decode prog_6_method_9_code 28 = .ok (.aload_n 0, 1) := by decide +kernel
theorem d_Quern_takeUse_29 : decode prog_6_method_9_code 29 = .ok (.getfield 29, 3) := by decide +kernel
theorem d_Quern_takeUse_32 : decode prog_6_method_9_code 32 = .ok (.iload_n 1, 1) := by decide +kernel
theorem d_Quern_takeUse_33 : decode prog_6_method_9_code 33 = .ok (.aaload, 1) := by decide +kernel
theorem d_Quern_takeUse_34 : decode prog_6_method_9_code 34 = .ok (.iload_n 2, 1) := by decide +kernel
theorem d_Quern_takeUse_35 : decode prog_6_method_9_code 35 = .ok (.iload_n 3, 1) := by decide +kernel
theorem d_Quern_takeUse_36 : decode prog_6_method_9_code 36 = .ok (.iastore, 1) := by decide +kernel
theorem d_Quern_takeUse_37 : decode prog_6_method_9_code 37 = .ok (.iconst 1, 1) := by decide +kernel
theorem d_Quern_takeUse_38 : decode prog_6_method_9_code 38 = .ok (.ireturn, 1) := by decide +kernel
theorem d_Quern_isStep_0 : decode prog_6_method_14_code 0 = .ok (.iload_n 0, 1) := by decide +kernel
theorem d_Quern_isStep_1 : decode prog_6_method_14_code 1 = .ok (.ifCond .lt 12, 3) := by decide +kernel
theorem d_Quern_isStep_4 : decode prog_6_method_14_code 4 = .ok (.iload_n 0, 1) := by decide +kernel
theorem d_Quern_isStep_5 : decode prog_6_method_14_code 5 = .ok (.iconst 4, 1) := by decide +kernel
theorem d_Quern_isStep_6 : decode prog_6_method_14_code 6 = .ok (.if_icmp .ge 7, 3) := by decide +kernel
theorem d_Quern_isStep_9 : decode prog_6_method_14_code 9 = .ok (.iconst 1, 1) := by decide +kernel
theorem d_Quern_isStep_10 : decode prog_6_method_14_code 10 = .ok (.goto 4, 3) := by decide +kernel
theorem d_Quern_isStep_13 : decode prog_6_method_14_code 13 = .ok (.iconst 0, 1) := by decide +kernel
theorem d_Quern_isStep_14 : decode prog_6_method_14_code 14 = .ok (.ireturn, 1) := by decide +kernel
theorem d_Quern_takeBook_0 : decode prog_6_method_10_code 0 = .ok (.iload_n 1, 1) := by decide +kernel
theorem d_Quern_takeBook_1 : decode prog_6_method_10_code 1 = .ok (.invokestatic 100, 3) := by decide +kernel
theorem d_Quern_takeBook_4 : decode prog_6_method_10_code 4 = .ok (.ifCond .eq 21, 3) := by decide +kernel
theorem d_Quern_takeBook_7 : decode prog_6_method_10_code 7 = .ok (.aload_n 0, 1) := by decide +kernel
theorem d_Quern_takeBook_8 : decode prog_6_method_10_code 8 = .ok (.iload_n 2, 1) := by decide +kernel
theorem d_Quern_takeBook_9 : decode prog_6_method_10_code 9 = .ok (.invokevirtual 97, 3) := by decide +kernel
theorem d_Quern_takeBook_12 : decode prog_6_method_10_code 12 = .ok (.ifCond .eq 13, 3) := by decide +kernel
theorem d_Quern_takeBook_15 : decode prog_6_method_10_code 15 = .ok (.iload_n 3, 1) := by decide +kernel
theorem d_Quern_takeBook_16 : decode prog_6_method_10_code 16 = .ok (.iconst 0, 1) := by decide +kernel
theorem d_Quern_takeBook_17 : decode prog_6_method_10_code 17 = .ok (.bipush 9, 2) := by decide +kernel
theorem d_Quern_takeBook_19 : decode prog_6_method_10_code 19 = .ok (.invokestatic 90, 3) := by decide +kernel
theorem d_Quern_takeBook_22 : decode prog_6_method_10_code 22 = .ok (.ifCond .ne 5, 3) := by decide +kernel
theorem d_Quern_takeBook_25 : decode prog_6_method_10_code 25 = .ok (.iconst 0, 1) := by decide +kernel
theorem d_Quern_takeBook_26 : decode prog_6_method_10_code 26 = .ok (.ireturn, 1) := by decide +kernel
theorem d_Quern_takeBook_27 : decode prog_6_method_10_code 27 = .ok (.aload_n 0, 1) := by decide +kernel
theorem d_Quern_takeBook_28 : decode prog_6_method_10_code 28 = .ok (.getfield 32, 3) := by decide +kernel
theorem d_Quern_takeBook_31 : decode prog_6_method_10_code 31 = .ok (.iload_n 1, 1) := by decide +kernel
theorem d_Quern_takeBook_32 : decode prog_6_method_10_code 32 = .ok (.aaload, 1) := by decide +kernel
theorem d_Quern_takeBook_33 : decode prog_6_method_10_code 33 = .ok (.iload_n 2, 1) := by decide +kernel
theorem d_Quern_takeBook_34 : decode prog_6_method_10_code 34 = .ok (.iload_n 3, 1) := by decide +kernel
theorem d_Quern_takeBook_35 : decode prog_6_method_10_code 35 = .ok (.iastore, 1) := by decide +kernel
theorem d_Quern_takeBook_36 : decode prog_6_method_10_code 36 = .ok (.iconst 1, 1) := by decide +kernel
theorem d_Quern_takeBook_37 : decode prog_6_method_10_code 37 = .ok (.ireturn, 1) := by decide +kernel
theorem d_Quern_takeWash_0 : decode prog_6_method_11_code 0 = .ok (.iload_n 1, 1) := by decide +kernel
theorem d_Quern_takeWash_1 : decode prog_6_method_11_code 1 = .ok (.invokestatic 100, 3) := by decide +kernel
theorem d_Quern_takeWash_4 : decode prog_6_method_11_code 4 = .ok (.ifCond .eq 13, 3) := by decide +kernel
theorem d_Quern_takeWash_7 : decode prog_6_method_11_code 7 = .ok (.iload_n 2, 1) := by decide +kernel
theorem d_Quern_takeWash_8 : decode prog_6_method_11_code 8 = .ok (.iconst 0, 1) := by decide +kernel
theorem d_Quern_takeWash_9 : decode prog_6_method_11_code 9 = .ok (.bipush 99, 2) := by decide +kernel
theorem d_Quern_takeWash_11 : decode prog_6_method_11_code 11 = .ok (.invokestatic 90, 3) := by decide +kernel
theorem d_Quern_takeWash_14 : decode prog_6_method_11_code 14 = .ok (.ifCond .ne 5, 3) := by decide +kernel
theorem d_Quern_takeWash_17 : decode prog_6_method_11_code 17 = .ok (.iconst 0, 1) := by decide +kernel
theorem d_Quern_takeWash_18 : decode prog_6_method_11_code 18 = .ok (.ireturn, 1) := by decide +kernel
theorem d_Quern_takeWash_19 : decode prog_6_method_11_code 19 = .ok (.aload_n 0, 1) := by decide +kernel
theorem d_Quern_takeWash_20 : decode prog_6_method_11_code 20 = .ok (.getfield 35, 3) := by decide +kernel
theorem d_Quern_takeWash_23 : decode prog_6_method_11_code 23 = .ok (.iload_n 1, 1) := by decide +kernel
theorem d_Quern_takeWash_24 : decode prog_6_method_11_code 24 = .ok (.iload_n 2, 1) := by decide +kernel
theorem d_Quern_takeWash_25 : decode prog_6_method_11_code 25 = .ok (.iastore, 1) := by decide +kernel
theorem d_Quern_takeWash_26 : decode prog_6_method_11_code 26 = .ok (.iconst 1, 1) := by decide +kernel
theorem d_Quern_takeWash_27 : decode prog_6_method_11_code 27 = .ok (.ireturn, 1) := by decide +kernel
theorem d_Quern_takeHours_0 : decode prog_6_method_12_code 0 = .ok (.iload_n 1, 1) := by decide +kernel
theorem d_Quern_takeHours_1 : decode prog_6_method_12_code 1 = .ok (.invokestatic 100, 3) := by decide +kernel
theorem d_Quern_takeHours_4 : decode prog_6_method_12_code 4 = .ok (.ifCond .eq 22, 3) := by decide +kernel
theorem d_Quern_takeHours_7 : decode prog_6_method_12_code 7 = .ok (.iload_n 2, 1) := by decide +kernel
theorem d_Quern_takeHours_8 : decode prog_6_method_12_code 8 = .ok (.iconst 0, 1) := by decide +kernel
theorem d_Quern_takeHours_9 : decode prog_6_method_12_code 9 = .ok (.bipush 99, 2) := by decide +kernel
theorem d_Quern_takeHours_11 : decode prog_6_method_12_code 11 = .ok (.invokestatic 90, 3) := by decide +kernel
theorem d_Quern_takeHours_14 : decode prog_6_method_12_code 14 = .ok (.ifCond .eq 12, 3) := by decide +kernel
theorem d_Quern_takeHours_17 : decode prog_6_method_12_code 17 = .ok (.iload_n 3, 1) := by decide +kernel
theorem d_Quern_takeHours_18 : decode prog_6_method_12_code 18 = .ok (.iconst 0, 1) := by decide +kernel
theorem d_Quern_takeHours_19 : decode prog_6_method_12_code 19 = .ok (.iconst 1, 1) := by decide +kernel
theorem d_Quern_takeHours_20 : decode prog_6_method_12_code 20 = .ok (.invokestatic 90, 3) := by decide +kernel
theorem d_Quern_takeHours_23 : decode prog_6_method_12_code 23 = .ok (.ifCond .ne 5, 3) := by decide +kernel
theorem d_Quern_takeHours_26 : decode prog_6_method_12_code 26 = .ok (.iconst 0, 1) := by decide +kernel
theorem d_Quern_takeHours_27 : decode prog_6_method_12_code 27 = .ok (.ireturn, 1) := by decide +kernel
theorem d_Quern_takeHours_28 : decode prog_6_method_12_code 28 = .ok (.aload_n 0, 1) := by decide +kernel
theorem d_Quern_takeHours_29 : decode prog_6_method_12_code 29 = .ok (.getfield 38, 3) := by decide +kernel
theorem d_Quern_takeHours_32 : decode prog_6_method_12_code 32 = .ok (.iload_n 1, 1) := by decide +kernel
theorem d_Quern_takeHours_33 : decode prog_6_method_12_code 33 = .ok (.iload_n 2, 1) := by decide +kernel
theorem d_Quern_takeHours_34 : decode prog_6_method_12_code 34 = .ok (.iastore, 1) := by decide +kernel
theorem d_Quern_takeHours_35 : decode prog_6_method_12_code 35 = .ok (.aload_n 0, 1) := by decide +kernel
theorem d_Quern_takeHours_36 : decode prog_6_method_12_code 36 = .ok (.aload_n 0, 1) := by decide +kernel
theorem d_Quern_takeHours_37 : decode prog_6_method_12_code 37 = .ok (.getfield 51, 3) := by decide +kernel
theorem d_Quern_takeHours_40 : decode prog_6_method_12_code 40 = .ok (.iconst 1, 1) := by decide +kernel
theorem d_Quern_takeHours_41 : decode prog_6_method_12_code 41 = .ok (.iload_n 1, 1) := by decide +kernel
theorem d_Quern_takeHours_42 : decode prog_6_method_12_code 42 = .ok (.ishl, 1) := by decide +kernel
theorem d_Quern_takeHours_43 : decode prog_6_method_12_code 43 = .ok (.iconst (-1), 1) := by decide +kernel
theorem d_Quern_takeHours_44 : decode prog_6_method_12_code 44 = .ok (.ixor, 1) := by decide +kernel
theorem d_Quern_takeHours_45 : decode prog_6_method_12_code 45 = .ok (.iand, 1) := by decide +kernel
theorem d_Quern_takeHours_46 : decode prog_6_method_12_code 46 = .ok (.iload_n 3, 1) := by decide +kernel
theorem d_Quern_takeHours_47 : decode prog_6_method_12_code 47 = .ok (.iload_n 1, 1) := by decide +kernel
theorem d_Quern_takeHours_48 : decode prog_6_method_12_code 48 = .ok (.ishl, 1) := by decide +kernel
theorem d_Quern_takeHours_49 : decode prog_6_method_12_code 49 = .ok (.ior, 1) := by decide +kernel
theorem d_Quern_takeHours_50 : decode prog_6_method_12_code 50 = .ok (.putfield 51, 3) := by decide +kernel
theorem d_Quern_takeHours_53 : decode prog_6_method_12_code 53 = .ok (.iconst 1, 1) := by decide +kernel
theorem d_Quern_takeHours_54 : decode prog_6_method_12_code 54 = .ok (.ireturn, 1) := by decide +kernel
theorem d_Quern_takeSlip_0 : decode prog_6_method_13_code 0 = .ok (.aload_n 0, 1) := by decide +kernel
theorem d_Quern_takeSlip_1 : decode prog_6_method_13_code 1 = .ok (.iload_n 1, 1) := by decide +kernel
theorem d_Quern_takeSlip_2 : decode prog_6_method_13_code 2 = .ok (.invokevirtual 97, 3) := by decide +kernel
theorem d_Quern_takeSlip_5 : decode prog_6_method_13_code 5 = .ok (.ifCond .eq 26, 3) := by decide +kernel
theorem d_Quern_takeSlip_8 : decode prog_6_method_13_code 8 = .ok (.aload_n 0, 1) := by decide +kernel
theorem d_Quern_takeSlip_9 : decode prog_6_method_13_code 9 = .ok (.iload_n 2, 1) := by decide +kernel
theorem d_Quern_takeSlip_10 : decode prog_6_method_13_code 10 = .ok (.invokevirtual 97, 3) := by decide +kernel
theorem d_Quern_takeSlip_13 : decode prog_6_method_13_code 13 = .ok (.ifCond .eq 18, 3) := by decide +kernel
theorem d_Quern_takeSlip_16 : decode prog_6_method_13_code 16 = .ok (.iload_n 1, 1) := by decide +kernel
theorem d_Quern_takeSlip_17 : decode prog_6_method_13_code 17 = .ok (.iload_n 2, 1) := by decide +kernel
theorem d_Quern_takeSlip_18 : decode prog_6_method_13_code 18 = .ok (.if_icmp .eq 13, 3) := by decide +kernel
theorem d_Quern_takeSlip_21 : decode prog_6_method_13_code 21 = .ok (.iload_n 3, 1) := by decide +kernel
theorem d_Quern_takeSlip_22 : decode prog_6_method_13_code 22 = .ok (.iconst 0, 1) := by decide +kernel
theorem d_Quern_takeSlip_23 : decode prog_6_method_13_code 23 = .ok (.bipush 99, 2) := by decide +kernel
theorem d_Quern_takeSlip_25 : decode prog_6_method_13_code 25 = .ok (.invokestatic 90, 3) := by decide +kernel
theorem d_Quern_takeSlip_28 : decode prog_6_method_13_code 28 = .ok (.ifCond .ne 5, 3) := by decide +kernel
theorem d_Quern_takeSlip_31 : decode prog_6_method_13_code 31 = .ok (.iconst 0, 1) := by decide +kernel
theorem d_Quern_takeSlip_32 : decode prog_6_method_13_code 32 = .ok (.ireturn, 1) := by decide +kernel
theorem d_Quern_takeSlip_33 : decode prog_6_method_13_code 33 = .ok (.iload_n 3, 1) := by decide +kernel
theorem d_Quern_takeSlip_34 : decode prog_6_method_13_code 34 = .ok (.aload_n 0, 1) := by decide +kernel
theorem d_Quern_takeSlip_35 : decode prog_6_method_13_code 35 = .ok (.getfield 41, 3) := by decide +kernel
theorem d_Quern_takeSlip_38 : decode prog_6_method_13_code 38 = .ok (.iload_n 1, 1) := by decide +kernel
theorem d_Quern_takeSlip_39 : decode prog_6_method_13_code 39 = .ok (.aaload, 1) := by decide +kernel
theorem d_Quern_takeSlip_40 : decode prog_6_method_13_code 40 = .ok (.iload_n 2, 1) := by decide +kernel
theorem d_Quern_takeSlip_41 : decode prog_6_method_13_code 41 = .ok (.iaload, 1) := by decide +kernel
theorem d_Quern_takeSlip_42 : decode prog_6_method_13_code 42 = .ok (.isub, 1) := by decide +kernel
theorem d_Quern_takeSlip_43 : decode prog_6_method_13_code 43 = .ok (.istore 4, 2) := by decide +kernel
theorem d_Quern_takeSlip_45 : decode prog_6_method_13_code 45 = .ok (.iconst 0, 1) := by decide +kernel
theorem d_Quern_takeSlip_46 : decode prog_6_method_13_code 46 = .ok (.istore 5, 2) := by decide +kernel
theorem d_Quern_takeSlip_48 : decode prog_6_method_13_code 48 = .ok (.iload 5, 2) := by decide +kernel
theorem d_Quern_takeSlip_50 : decode prog_6_method_13_code 50 = .ok (.aload_n 0, 1) := by decide +kernel
theorem d_Quern_takeSlip_51 : decode prog_6_method_13_code 51 = .ok (.getfield 44, 3) := by decide +kernel
theorem d_Quern_takeSlip_54 : decode prog_6_method_13_code 54 = .ok (.if_icmp .ge 23, 3) := by decide +kernel
theorem d_Quern_takeSlip_57 : decode prog_6_method_13_code 57 = .ok (.iload 4, 2) := by decide +kernel
theorem d_Quern_takeSlip_59 : decode prog_6_method_13_code 59 = .ok (.aload_n 0, 1) := by decide +kernel
theorem d_Quern_takeSlip_60 : decode prog_6_method_13_code 60 = .ok (.getfield 41, 3) := by decide +kernel
theorem d_Quern_takeSlip_63 : decode prog_6_method_13_code 63 = .ok (.iload_n 1, 1) := by decide +kernel
theorem d_Quern_takeSlip_64 : decode prog_6_method_13_code 64 = .ok (.aaload, 1) := by decide +kernel
theorem d_Quern_takeSlip_65 : decode prog_6_method_13_code 65 = .ok (.iload 5, 2) := by decide +kernel
theorem d_Quern_takeSlip_67 : decode prog_6_method_13_code 67 = .ok (.iaload, 1) := by decide +kernel
theorem d_Quern_takeSlip_68 : decode prog_6_method_13_code 68 = .ok (.iadd, 1) := by decide +kernel
theorem d_Quern_takeSlip_69 : decode prog_6_method_13_code 69 = .ok (.istore 4, 2) := by decide +kernel
theorem d_Quern_takeSlip_71 : decode prog_6_method_13_code 71 = .ok (.iinc 5 1, 3) := by decide +kernel
theorem d_Quern_takeSlip_74 : decode prog_6_method_13_code 74 = .ok (.goto (-26), 3) := by decide +kernel
theorem d_Quern_takeSlip_77 : decode prog_6_method_13_code 77 = .ok (.iload 4, 2) := by decide +kernel
theorem d_Quern_takeSlip_79 : decode prog_6_method_13_code 79 = .ok (.bipush 100, 2) := by decide +kernel
theorem d_Quern_takeSlip_81 : decode prog_6_method_13_code 81 = .ok (.if_icmp .le 5, 3) := by decide +kernel
theorem d_Quern_takeSlip_84 : decode prog_6_method_13_code 84 = .ok (.iconst 0, 1) := by decide +kernel
theorem d_Quern_takeSlip_85 : decode prog_6_method_13_code 85 = .ok (.ireturn, 1) := by decide +kernel
theorem d_Quern_takeSlip_86 : decode prog_6_method_13_code 86 = .ok (.aload_n 0, 1) := by decide +kernel
theorem d_Quern_takeSlip_87 : decode prog_6_method_13_code 87 = .ok (.getfield 41, 3) := by decide +kernel
theorem d_Quern_takeSlip_90 : decode prog_6_method_13_code 90 = .ok (.iload_n 1, 1) := by decide +kernel
theorem d_Quern_takeSlip_91 : decode prog_6_method_13_code 91 = .ok (.aaload, 1) := by decide +kernel
theorem d_Quern_takeSlip_92 : decode prog_6_method_13_code 92 = .ok (.iload_n 2, 1) := by decide +kernel
theorem d_Quern_takeSlip_93 : decode prog_6_method_13_code 93 = .ok (.iload_n 3, 1) := by decide +kernel
theorem d_Quern_takeSlip_94 : decode prog_6_method_13_code 94 = .ok (.iastore, 1) := by decide +kernel
theorem d_Quern_takeSlip_95 : decode prog_6_method_13_code 95 = .ok (.iconst 1, 1) := by decide +kernel
theorem d_Quern_takeSlip_96 : decode prog_6_method_13_code 96 = .ok (.ireturn, 1) := by decide +kernel
theorem d_Quern_take_0 : decode prog_6_method_6_code 0 = .ok (.iload_n 1, 1) := by decide +kernel
theorem d_Quern_take_1 : decode prog_6_method_6_code 1 = .ok (.tableswitch 186 98 120 #[133, 186, 186, 186, 113, 107, 186, 186, 186, 186, 186, 186, 186, 186, 186, 186, 186, 186, 158, 119, 186, 147, 172], 107) := by decide +kernel
theorem d_Quern_take_108 : decode prog_6_method_6_code 108 = .ok (.aload_n 0, 1) := by decide +kernel
theorem d_Quern_take_109 : decode prog_6_method_6_code 109 = .ok (.aload_n 2, 1) := by decide +kernel
theorem d_Quern_take_110 : decode prog_6_method_6_code 110 = .ok (.invokevirtual 60, 3) := by decide +kernel
theorem d_Quern_take_113 : decode prog_6_method_6_code 113 = .ok (.ireturn, 1) := by decide +kernel
theorem d_Quern_take_114 : decode prog_6_method_6_code 114 = .ok (.aload_n 0, 1) := by decide +kernel
theorem d_Quern_take_115 : decode prog_6_method_6_code 115 = .ok (.aload_n 2, 1) := by decide +kernel
theorem d_Quern_take_116 : decode prog_6_method_6_code 116 = .ok (.invokevirtual 64, 3) := by decide +kernel
theorem d_Quern_take_119 : decode prog_6_method_6_code 119 = .ok (.ireturn, 1) := by decide +kernel
theorem d_Quern_take_120 : decode prog_6_method_6_code 120 = .ok (.aload_n 0, 1) := by decide +kernel
theorem d_Quern_take_121 : decode prog_6_method_6_code 121 = .ok (.aload_n 2, 1) := by decide +kernel
theorem d_Quern_take_122 : decode prog_6_method_6_code 122 = .ok (.iconst 0, 1) := by decide +kernel
theorem d_Quern_take_123 : decode prog_6_method_6_code 123 = .ok (.iaload, 1) := by decide +kernel
theorem d_Quern_take_124 : decode prog_6_method_6_code 124 = .ok (.aload_n 2, 1) := by decide +kernel
theorem d_Quern_take_125 : decode prog_6_method_6_code 125 = .ok (.iconst 1, 1) := by decide +kernel
theorem d_Quern_take_126 : decode prog_6_method_6_code 126 = .ok (.iaload, 1) := by decide +kernel
theorem d_Quern_take_127 : decode prog_6_method_6_code 127 = .ok (.aload_n 2, 1) := by decide +kernel
theorem d_Quern_take_128 : decode prog_6_method_6_code 128 = .ok (.iconst 2, 1) := by decide +kernel
theorem d_Quern_take_129 : decode prog_6_method_6_code 129 = .ok (.iaload, 1) := by decide +kernel
theorem d_Quern_take_130 : decode prog_6_method_6_code 130 = .ok (.invokevirtual 67, 3) := by decide +kernel
theorem d_Quern_take_133 : decode prog_6_method_6_code 133 = .ok (.ireturn, 1) := by decide +kernel
theorem d_Quern_take_134 : decode prog_6_method_6_code 134 = .ok (.aload_n 0, 1) := by decide +kernel
theorem d_Quern_take_135 : decode prog_6_method_6_code 135 = .ok (.aload_n 2, 1) := by decide +kernel
theorem d_Quern_take_136 : decode prog_6_method_6_code 136 = .ok (.iconst 0, 1) := by decide +kernel
theorem d_Quern_take_137 : decode prog_6_method_6_code 137 = .ok (.iaload, 1) := by decide +kernel
theorem d_Quern_take_138 : decode prog_6_method_6_code 138 = .ok (.aload_n 2, 1) := by decide +kernel
theorem d_Quern_take_139 : decode prog_6_method_6_code 139 = .ok (.iconst 1, 1) := by decide +kernel
theorem d_Quern_take_140 : decode prog_6_method_6_code 140 = .ok (.iaload, 1) := by decide +kernel
theorem d_Quern_take_141 : decode prog_6_method_6_code 141 = .ok (.aload_n 2, 1) := by decide +kernel
theorem d_Quern_take_142 : decode prog_6_method_6_code 142 = .ok (.iconst 2, 1) := by decide +kernel
theorem d_Quern_take_143 : decode prog_6_method_6_code 143 = .ok (.iaload, 1) := by decide +kernel
theorem d_Quern_take_144 : decode prog_6_method_6_code 144 = .ok (.invokevirtual 71, 3) := by decide +kernel
theorem d_Quern_take_147 : decode prog_6_method_6_code 147 = .ok (.ireturn, 1) := by decide +kernel
theorem d_Quern_take_148 : decode prog_6_method_6_code 148 = .ok (.aload_n 0, 1) := by decide +kernel
theorem d_Quern_take_149 : decode prog_6_method_6_code 149 = .ok (.aload_n 2, 1) := by decide +kernel
theorem d_Quern_take_150 : decode prog_6_method_6_code 150 = .ok (.iconst 0, 1) := by decide +kernel
theorem d_Quern_take_151 : decode prog_6_method_6_code 151 = .ok (.iaload, 1) := by decide +kernel
theorem d_Quern_take_152 : decode prog_6_method_6_code 152 = .ok (.aload_n 2, 1) := by decide +kernel
theorem d_Quern_take_153 : decode prog_6_method_6_code 153 = .ok (.iconst 1, 1) := by decide +kernel
theorem d_Quern_take_154 : decode prog_6_method_6_code 154 = .ok (.iaload, 1) := by decide +kernel
theorem d_Quern_take_155 : decode prog_6_method_6_code 155 = .ok (.invokevirtual 74, 3) := by decide +kernel
theorem d_Quern_take_158 : decode prog_6_method_6_code 158 = .ok (.ireturn, 1) := by decide +kernel
theorem d_Quern_take_159 : decode prog_6_method_6_code 159 = .ok (.aload_n 0, 1) := by decide +kernel
theorem d_Quern_take_160 : decode prog_6_method_6_code 160 = .ok (.aload_n 2, 1) := by decide +kernel
theorem d_Quern_take_161 : decode prog_6_method_6_code 161 = .ok (.iconst 0, 1) := by decide +kernel
theorem d_Quern_take_162 : decode prog_6_method_6_code 162 = .ok (.iaload, 1) := by decide +kernel
theorem d_Quern_take_163 : decode prog_6_method_6_code 163 = .ok (.aload_n 2, 1) := by decide +kernel
theorem d_Quern_take_164 : decode prog_6_method_6_code 164 = .ok (.iconst 1, 1) := by decide +kernel
theorem d_Quern_take_165 : decode prog_6_method_6_code 165 = .ok (.iaload, 1) := by decide +kernel
theorem d_Quern_take_166 : decode prog_6_method_6_code 166 = .ok (.aload_n 2, 1) := by decide +kernel
theorem d_Quern_take_167 : decode prog_6_method_6_code 167 = .ok (.iconst 2, 1) := by decide +kernel
theorem d_Quern_take_168 : decode prog_6_method_6_code 168 = .ok (.iaload, 1) := by decide +kernel
theorem d_Quern_take_169 : decode prog_6_method_6_code 169 = .ok (.invokevirtual 78, 3) := by decide +kernel
theorem d_Quern_take_172 : decode prog_6_method_6_code 172 = .ok (.ireturn, 1) := by decide +kernel
theorem d_Quern_take_173 : decode prog_6_method_6_code 173 = .ok (.aload_n 0, 1) := by decide +kernel
theorem d_Quern_take_174 : decode prog_6_method_6_code 174 = .ok (.aload_n 2, 1) := by decide +kernel
theorem d_Quern_take_175 : decode prog_6_method_6_code 175 = .ok (.iconst 0, 1) := by decide +kernel
theorem d_Quern_take_176 : decode prog_6_method_6_code 176 = .ok (.iaload, 1) := by decide +kernel
theorem d_Quern_take_177 : decode prog_6_method_6_code 177 = .ok (.aload_n 2, 1) := by decide +kernel
theorem d_Quern_take_178 : decode prog_6_method_6_code 178 = .ok (.iconst 1, 1) := by decide +kernel
theorem d_Quern_take_179 : decode prog_6_method_6_code 179 = .ok (.iaload, 1) := by decide +kernel
theorem d_Quern_take_180 : decode prog_6_method_6_code 180 = .ok (.aload_n 2, 1) := by decide +kernel
theorem d_Quern_take_181 : decode prog_6_method_6_code 181 = .ok (.iconst 2, 1) := by decide +kernel
theorem d_Quern_take_182 : decode prog_6_method_6_code 182 = .ok (.iaload, 1) := by decide +kernel
theorem d_Quern_take_183 : decode prog_6_method_6_code 183 = .ok (.invokevirtual 81, 3) := by decide +kernel
theorem d_Quern_take_186 : decode prog_6_method_6_code 186 = .ok (.ireturn, 1) := by decide +kernel
theorem d_Quern_take_187 : decode prog_6_method_6_code 187 = .ok (.iconst 0, 1) := by decide +kernel
theorem d_Quern_take_188 : decode prog_6_method_6_code 188 = .ok (.ireturn, 1) := by decide +kernel
theorem d_Scribe_placeOfFault_0 : decode prog_7_method_2_code 0 = .ok (.aload_n 2, 1) := by decide +kernel
theorem d_Scribe_placeOfFault_1 : decode prog_7_method_2_code 1 = .ok (.invokevirtual 15, 3) := by decide +kernel
theorem d_Scribe_placeOfFault_4 : decode prog_7_method_2_code 4 = .ok (.iconst 0, 1) := by decide +kernel
theorem d_Scribe_placeOfFault_5 : decode prog_7_method_2_code 5 = .ok (.istore_n 3, 1) := by decide +kernel
theorem d_Scribe_placeOfFault_6 : decode prog_7_method_2_code 6 = .ok (.iconst 0, 1) := by decide +kernel
theorem d_Scribe_placeOfFault_7 : decode prog_7_method_2_code 7 = .ok (.istore 4, 2) := by decide +kernel
theorem d_Scribe_placeOfFault_9 : decode prog_7_method_2_code 9 = .ok (.iload 4, 2) := by decide +kernel
theorem d_Scribe_placeOfFault_11 : decode prog_7_method_2_code 11 = .ok (.sipush 500, 3) := by decide +kernel
theorem d_Scribe_placeOfFault_14 : decode prog_7_method_2_code 14 = .ok (.if_icmp .ge 52, 3) := by decide +kernel
theorem d_Scribe_placeOfFault_17 : decode prog_7_method_2_code 17 = .ok (.iload_n 3, 1) := by decide +kernel
theorem d_Scribe_placeOfFault_18 : decode prog_7_method_2_code 18 = .ok (.aload_n 1, 1) := by decide +kernel
theorem d_Scribe_placeOfFault_19 : decode prog_7_method_2_code 19 = .ok (.getfield 20, 3) := by decide +kernel
theorem d_Scribe_placeOfFault_22 : decode prog_7_method_2_code 22 = .ok (.if_icmp .ge 44, 3) := by decide +kernel
theorem d_Scribe_placeOfFault_25 : decode prog_7_method_2_code 25 = .ok (.aload_n 0, 1) := by decide +kernel
theorem d_Scribe_placeOfFault_26 : decode prog_7_method_2_code 26 = .ok (.aload_n 1, 1) := by decide +kernel
theorem d_Scribe_placeOfFault_27 : decode prog_7_method_2_code 27 = .ok (.iload_n 3, 1) := by decide +kernel
theorem d_Scribe_placeOfFault_28 : decode prog_7_method_2_code 28 = .ok (.invokevirtual 26, 3) := by decide +kernel
theorem d_Scribe_placeOfFault_31 : decode prog_7_method_2_code 31 = .ok (.istore 5, 2) := by decide +kernel
theorem d_Scribe_placeOfFault_33 : decode prog_7_method_2_code 33 = .ok (.iload 5, 2) := by decide +kernel
theorem d_Scribe_placeOfFault_35 : decode prog_7_method_2_code 35 = .ok (.iconst (-1), 1) := by decide +kernel
theorem d_Scribe_placeOfFault_36 : decode prog_7_method_2_code 36 = .ok (.if_icmp .eq 19, 3) := by decide +kernel
theorem d_Scribe_placeOfFault_39 : decode prog_7_method_2_code 39 = .ok (.aload_n 2, 1) := by decide +kernel
theorem d_Scribe_placeOfFault_40 : decode prog_7_method_2_code 40 = .ok (.aload_n 1, 1) := by decide +kernel
theorem d_Scribe_placeOfFault_41 : decode prog_7_method_2_code 41 = .ok (.iload_n 3, 1) := by decide +kernel
theorem d_Scribe_placeOfFault_42 : decode prog_7_method_2_code 42 = .ok (.invokevirtual 30, 3) := by decide +kernel
theorem d_Scribe_placeOfFault_45 : decode prog_7_method_2_code 45 = .ok (.aload_n 0, 1) := by decide +kernel
theorem d_Scribe_placeOfFault_46 : decode prog_7_method_2_code 46 = .ok (.getfield 9, 3) := by decide +kernel
theorem d_Scribe_placeOfFault_49 : decode prog_7_method_2_code 49 = .ok (.invokevirtual 34, 3) := by decide +kernel
theorem d_Scribe_placeOfFault_52 : decode prog_7_method_2_code 52 = .ok (.ifCond .ne 5, 3) := by decide +kernel
theorem d_Scribe_placeOfFault_55 : decode prog_7_method_2_code 55 = .ok (.iload_n 3, 1) := by decide +kernel
theorem d_Scribe_placeOfFault_56 : decode prog_7_method_2_code 56 = .ok (.ireturn, 1) := by decide +kernel
theorem d_Scribe_placeOfFault_57 : decode prog_7_method_2_code 57 = .ok (.iload 5, 2) := by decide +kernel
theorem d_Scribe_placeOfFault_59 : decode prog_7_method_2_code 59 = .ok (.istore_n 3, 1) := by decide +kernel
theorem d_Scribe_placeOfFault_60 : decode prog_7_method_2_code 60 = .ok (.iinc 4 1, 3) := by decide +kernel
theorem d_Scribe_placeOfFault_63 : decode prog_7_method_2_code 63 = .ok (.goto (-54), 3) := by decide +kernel
theorem d_Scribe_placeOfFault_66 : decode prog_7_method_2_code 66 = .ok (.bipush (-4), 2) := by decide +kernel
theorem d_Scribe_placeOfFault_68 : decode prog_7_method_2_code 68 = .ok (.ireturn, 1) := by decide +kernel
theorem d_Main_fault_0 : decode prog_1_method_4_code 0 = .ok (.aload_n 0, 1) := by decide +kernel
theorem d_Main_fault_1 : decode prog_1_method_4_code 1 = .ok (.getfield 19, 3) := by decide +kernel
theorem d_Main_fault_4 : decode prog_1_method_4_code 4 = .ok (.aload_n 0, 1) := by decide +kernel
theorem d_Main_fault_5 : decode prog_1_method_4_code 5 = .ok (.getfield 10, 3) := by decide +kernel
theorem d_Main_fault_8 : decode prog_1_method_4_code 8 = .ok (.aload_n 0, 1) := by decide +kernel
theorem d_Main_fault_9 : decode prog_1_method_4_code 9 = .ok (.getfield 55, 3) := by decide +kernel
theorem d_Main_fault_12 : decode prog_1_method_4_code 12 = .ok (.invokevirtual 76, 3) := by decide +kernel
theorem d_Main_fault_15 : decode prog_1_method_4_code 15 = .ok (.ireturn, 1) := by decide +kernel
theorem d_Finds_clear_0 : decode prog_3_method_2_code 0 = .ok (.iconst 0, 1) := by decide +kernel
theorem d_Finds_clear_1 : decode prog_3_method_2_code 1 = .ok (.istore_n 1, 1) := by decide +kernel
theorem d_Finds_clear_2 : decode prog_3_method_2_code 2 = .ok (.iload_n 1, 1) := by decide +kernel
theorem d_Finds_clear_3 : decode prog_3_method_2_code 3 = .ok (.bipush 10, 2) := by decide +kernel
theorem d_Finds_clear_5 : decode prog_3_method_2_code 5 = .ok (.if_icmp .ge 19, 3) := by decide +kernel
theorem d_Finds_clear_8 : decode prog_3_method_2_code 8 = .ok (.aload_n 0, 1) := by decide +kernel
theorem d_Finds_clear_9 : decode prog_3_method_2_code 9 = .ok (.getfield 11, 3) := by decide +kernel
theorem d_Finds_clear_12 : decode prog_3_method_2_code 12 = .ok (.iload_n 1, 1) := by decide +kernel
theorem d_Finds_clear_13 : decode prog_3_method_2_code 13 = .ok (.aaload, 1) := by decide +kernel
theorem d_Finds_clear_14 : decode prog_3_method_2_code 14 = .ok (.iconst 0, 1) := by decide +kernel
theorem d_Finds_clear_15 : decode prog_3_method_2_code 15 = .ok (.invokestatic 19, 3) := by decide +kernel
theorem d_Finds_clear_18 : decode prog_3_method_2_code 18 = .ok (.iinc 1 1, 3) := by decide +kernel
theorem d_Finds_clear_21 : decode prog_3_method_2_code 21 = .ok (.goto (-19), 3) := by decide +kernel
theorem d_Finds_clear_24 : decode prog_3_method_2_code 24 = .ok (.iconst 0, 1) := by decide +kernel
theorem d_Finds_clear_25 : decode prog_3_method_2_code 25 = .ok (.istore_n 1, 1) := by decide +kernel
theorem d_Finds_clear_26 : decode prog_3_method_2_code 26 = .ok (.iload_n 1, 1) := by decide +kernel
theorem d_Finds_clear_27 : decode prog_3_method_2_code 27 = .ok (.bipush 6, 2) := by decide +kernel
theorem d_Finds_clear_29 : decode prog_3_method_2_code 29 = .ok (.if_icmp .ge 19, 3) := by decide +kernel
theorem d_Finds_clear_32 : decode prog_3_method_2_code 32 = .ok (.aload_n 0, 1) := by decide +kernel
theorem d_Finds_clear_33 : decode prog_3_method_2_code 33 = .ok (.getfield 16, 3) := by decide +kernel
theorem d_Finds_clear_36 : decode prog_3_method_2_code 36 = .ok (.iload_n 1, 1) := by decide +kernel
theorem d_Finds_clear_37 : decode prog_3_method_2_code 37 = .ok (.aaload, 1) := by decide +kernel
theorem d_Finds_clear_38 : decode prog_3_method_2_code 38 = .ok (.iconst 0, 1) := by decide +kernel
theorem d_Finds_clear_39 : decode prog_3_method_2_code 39 = .ok (.invokestatic 19, 3) := by decide +kernel
theorem d_Finds_clear_42 : decode prog_3_method_2_code 42 = .ok (.iinc 1 1, 3) := by decide +kernel
theorem d_Finds_clear_45 : decode prog_3_method_2_code 45 = .ok (.goto (-19), 3) := by decide +kernel
theorem d_Finds_clear_48 : decode prog_3_method_2_code 48 = .ok (.aload_n 0, 1) := by decide +kernel
theorem d_Finds_clear_49 : decode prog_3_method_2_code 49 = .ok (.iconst 0, 1) := by decide +kernel
theorem d_Finds_clear_50 : decode prog_3_method_2_code 50 = .ok (.putfield 25, 3) := by decide +kernel
theorem d_Finds_clear_53 : decode prog_3_method_2_code 53 = .ok (.aload_n 0, 1) := by decide +kernel
theorem d_Finds_clear_54 : decode prog_3_method_2_code 54 = .ok (.iconst 0, 1) := by decide +kernel
theorem d_Finds_clear_55 : decode prog_3_method_2_code 55 = .ok (.putfield 29, 3) := by decide +kernel
theorem d_Finds_clear_58 : decode prog_3_method_2_code 58 = .ok (.aload_n 0, 1) := by decide +kernel
theorem d_Finds_clear_59 : decode prog_3_method_2_code 59 = .ok (.iconst 0, 1) := by decide +kernel
theorem d_Finds_clear_60 : decode prog_3_method_2_code 60 = .ok (.putfield 32, 3) := by decide +kernel
theorem d_Finds_clear_63 : decode prog_3_method_2_code 63 = .ok (.return_, 1) := by decide +kernel
theorem d_Main_lay_0 : decode prog_1_method_5_code 0 = .ok (.aload_n 0, 1) := by decide +kernel
theorem d_Main_lay_1 : decode prog_1_method_5_code 1 = .ok (.getfield 19, 3) := by decide +kernel
theorem d_Main_lay_4 : decode prog_1_method_5_code 4 = .ok (.aload_n 0, 1) := by decide +kernel
theorem d_Main_lay_5 : decode prog_1_method_5_code 5 = .ok (.getfield 10, 3) := by decide +kernel
theorem d_Main_lay_8 : decode prog_1_method_5_code 8 = .ok (.aload_n 0, 1) := by decide +kernel
theorem d_Main_lay_9 : decode prog_1_method_5_code 9 = .ok (.getfield 55, 3) := by decide +kernel
theorem d_Main_lay_12 : decode prog_1_method_5_code 12 = .ok (.invokevirtual 76, 3) := by decide +kernel
theorem d_Main_lay_15 : decode prog_1_method_5_code 15 = .ok (.bipush (-4), 2) := by decide +kernel
theorem d_Main_lay_17 : decode prog_1_method_5_code 17 = .ok (.if_icmp .ne 23, 3) := by decide +kernel
theorem d_Main_lay_20 : decode prog_1_method_5_code 20 = .ok (.aload_n 0, 1) := by decide +kernel
theorem d_Main_lay_21 : decode prog_1_method_5_code 21 = .ok (.getfield 55, 3) := by decide +kernel
theorem d_Main_lay_24 : decode prog_1_method_5_code 24 = .ok (.getfield 80, 3) := by decide +kernel
theorem d_Main_lay_27 : decode prog_1_method_5_code 27 = .ok (.ifCond .eq 13, 3) := by decide +kernel
theorem d_Main_lay_30 : decode prog_1_method_5_code 30 = .ok (.aload_n 0, 1) := by decide +kernel
theorem d_Main_lay_31 : decode prog_1_method_5_code 31 = .ok (.getfield 55, 3) := by decide +kernel
theorem d_Main_lay_34 : decode prog_1_method_5_code 34 = .ok (.getfield 83, 3) := by decide +kernel
theorem d_Main_lay_37 : decode prog_1_method_5_code 37 = .ok (.ifCond .ne 6, 3) := by decide +kernel
theorem d_Main_lay_40 : decode prog_1_method_5_code 40 = .ok (.bipush (-2), 2) := by decide +kernel
theorem d_Main_lay_42 : decode prog_1_method_5_code 42 = .ok (.ireturn, 1) := by decide +kernel
theorem d_Main_lay_43 : decode prog_1_method_5_code 43 = .ok (.aload_n 0, 1) := by decide +kernel
theorem d_Main_lay_44 : decode prog_1_method_5_code 44 = .ok (.getfield 51, 3) := by decide +kernel
theorem d_Main_lay_47 : decode prog_1_method_5_code 47 = .ok (.astore_n 1, 1) := by decide +kernel
theorem d_Main_lay_48 : decode prog_1_method_5_code 48 = .ok (.aload_n 0, 1) := by decide +kernel
theorem d_Main_lay_49 : decode prog_1_method_5_code 49 = .ok (.aload_n 0, 1) := by decide +kernel
theorem d_Main_lay_50 : decode prog_1_method_5_code 50 = .ok (.getfield 55, 3) := by decide +kernel
theorem d_Main_lay_53 : decode prog_1_method_5_code 53 = .ok (.putfield 51, 3) := by decide +kernel
theorem d_Main_lay_56 : decode prog_1_method_5_code 56 = .ok (.aload_n 0, 1) := by decide +kernel
theorem d_Main_lay_57 : decode prog_1_method_5_code 57 = .ok (.aload_n 1, 1) := by decide +kernel
theorem d_Main_lay_58 : decode prog_1_method_5_code 58 = .ok (.putfield 55, 3) := by decide +kernel
theorem d_Main_lay_61 : decode prog_1_method_5_code 61 = .ok (.aload_n 0, 1) := by decide +kernel
theorem d_Main_lay_62 : decode prog_1_method_5_code 62 = .ok (.getfield 40, 3) := by decide +kernel
theorem d_Main_lay_65 : decode prog_1_method_5_code 65 = .ok (.invokevirtual 86, 3) := by decide +kernel
theorem d_Main_lay_68 : decode prog_1_method_5_code 68 = .ok (.aload_n 0, 1) := by decide +kernel
theorem d_Main_lay_69 : decode prog_1_method_5_code 69 = .ok (.iconst 0, 1) := by decide +kernel
theorem d_Main_lay_70 : decode prog_1_method_5_code 70 = .ok (.putfield 87, 3) := by decide +kernel
theorem d_Main_lay_73 : decode prog_1_method_5_code 73 = .ok (.aload_n 0, 1) := by decide +kernel
theorem d_Main_lay_74 : decode prog_1_method_5_code 74 = .ok (.getfield 51, 3) := by decide +kernel
theorem d_Main_lay_77 : decode prog_1_method_5_code 77 = .ok (.getfield 83, 3) := by decide +kernel
theorem d_Main_lay_80 : decode prog_1_method_5_code 80 = .ok (.ireturn, 1) := by decide +kernel
theorem d_Finds_isRead_0 : decode prog_3_method_4_code 0 = .ok (.aload_n 0, 1) := by decide +kernel
theorem d_Finds_isRead_1 : decode prog_3_method_4_code 1 = .ok (.getfield 25, 3) := by decide +kernel
theorem d_Finds_isRead_4 : decode prog_3_method_4_code 4 = .ok (.iload_n 1, 1) := by decide +kernel
theorem d_Finds_isRead_5 : decode prog_3_method_4_code 5 = .ok (.ishr, 1) := by decide +kernel
theorem d_Finds_isRead_6 : decode prog_3_method_4_code 6 = .ok (.iconst 1, 1) := by decide +kernel
theorem d_Finds_isRead_7 : decode prog_3_method_4_code 7 = .ok (.iand, 1) := by decide +kernel
theorem d_Finds_isRead_8 : decode prog_3_method_4_code 8 = .ok (.ifCond .eq 7, 3) := by decide +kernel
theorem d_Finds_isRead_11 : decode prog_3_method_4_code 11 = .ok (.iconst 1, 1) := by decide +kernel
theorem d_Finds_isRead_12 : decode prog_3_method_4_code 12 = .ok (.goto 4, 3) := by decide +kernel
theorem d_Finds_isRead_15 : decode prog_3_method_4_code 15 = .ok (.iconst 0, 1) := by decide +kernel
theorem d_Finds_isRead_16 : decode prog_3_method_4_code 16 = .ok (.ireturn, 1) := by decide +kernel
theorem d_Main_face_0 : decode prog_1_method_6_code 0 = .ok (.aload_n 0, 1) := by decide +kernel
theorem d_Main_face_1 : decode prog_1_method_6_code 1 = .ok (.getfield 51, 3) := by decide +kernel
theorem d_Main_face_4 : decode prog_1_method_6_code 4 = .ok (.iload_n 1, 1) := by decide +kernel
theorem d_Main_face_5 : decode prog_1_method_6_code 5 = .ok (.invokevirtual 90, 3) := by decide +kernel
theorem d_Main_face_8 : decode prog_1_method_6_code 8 = .ok (.ifCond .ne 5, 3) := by decide +kernel
theorem d_Main_face_11 : decode prog_1_method_6_code 11 = .ok (.iconst (-1), 1) := by decide +kernel
theorem d_Main_face_12 : decode prog_1_method_6_code 12 = .ok (.ireturn, 1) := by decide +kernel
theorem d_Main_face_13 : decode prog_1_method_6_code 13 = .ok (.iload_n 2, 1) := by decide +kernel
theorem d_Main_face_14 : decode prog_1_method_6_code 14 = .ok (.tableswitch 91 0 4 #[34, 44, 54, 64, 74], 34) := by decide +kernel
theorem d_Main_face_48 : decode prog_1_method_6_code 48 = .ok (.aload_n 0, 1) := by decide +kernel
theorem d_Main_face_49 : decode prog_1_method_6_code 49 = .ok (.getfield 51, 3) := by decide +kernel
theorem d_Main_face_52 : decode prog_1_method_6_code 52 = .ok (.getfield 94, 3) := by decide +kernel
theorem d_Main_face_55 : decode prog_1_method_6_code 55 = .ok (.iload_n 1, 1) := by decide +kernel
theorem d_Main_face_56 : decode prog_1_method_6_code 56 = .ok (.iaload, 1) := by decide +kernel
theorem d_Main_face_57 : decode prog_1_method_6_code 57 = .ok (.ireturn, 1) := by decide +kernel
theorem d_Main_face_58 : decode prog_1_method_6_code 58 = .ok (.aload_n 0, 1) := by decide +kernel
theorem d_Main_face_59 : decode prog_1_method_6_code 59 = .ok (.getfield 51, 3) := by decide +kernel
theorem d_Main_face_62 : decode prog_1_method_6_code 62 = .ok (.getfield 98, 3) := by decide +kernel
theorem d_Main_face_65 : decode prog_1_method_6_code 65 = .ok (.iload_n 1, 1) := by decide +kernel
theorem d_Main_face_66 : decode prog_1_method_6_code 66 = .ok (.iaload, 1) := by decide +kernel
theorem d_Main_face_67 : decode prog_1_method_6_code 67 = .ok (.ireturn, 1) := by decide +kernel
theorem d_Main_face_68 : decode prog_1_method_6_code 68 = .ok (.aload_n 0, 1) := by decide +kernel
theorem d_Main_face_69 : decode prog_1_method_6_code 69 = .ok (.getfield 51, 3) := by decide +kernel
theorem d_Main_face_72 : decode prog_1_method_6_code 72 = .ok (.getfield 101, 3) := by decide +kernel
theorem d_Main_face_75 : decode prog_1_method_6_code 75 = .ok (.iload_n 1, 1) := by decide +kernel
theorem d_Main_face_76 : decode prog_1_method_6_code 76 = .ok (.iaload, 1) := by decide +kernel
theorem d_Main_face_77 : decode prog_1_method_6_code 77 = .ok (.ireturn, 1) := by decide +kernel
theorem d_Main_face_78 : decode prog_1_method_6_code 78 = .ok (.aload_n 0, 1) := by decide +kernel
theorem d_Main_face_79 : decode prog_1_method_6_code 79 = .ok (.getfield 51, 3) := by decide +kernel
theorem d_Main_face_82 : decode prog_1_method_6_code 82 = .ok (.getfield 104, 3) := by decide +kernel
theorem d_Main_face_85 : decode prog_1_method_6_code 85 = .ok (.iload_n 1, 1) := by decide +kernel
theorem d_Main_face_86 : decode prog_1_method_6_code 86 = .ok (.iaload, 1) := by decide +kernel
theorem d_Main_face_87 : decode prog_1_method_6_code 87 = .ok (.ireturn, 1) := by decide +kernel
theorem d_Main_face_88 : decode prog_1_method_6_code 88 = .ok (.aload_n 0, 1) := by decide +kernel
theorem d_Main_face_89 : decode prog_1_method_6_code 89 = .ok (.getfield 40, 3) := by decide +kernel
theorem d_Main_face_92 : decode prog_1_method_6_code 92 = .ok (.iload_n 1, 1) := by decide +kernel
theorem d_Main_face_93 : decode prog_1_method_6_code 93 = .ok (.invokevirtual 107, 3) := by decide +kernel
theorem d_Main_face_96 : decode prog_1_method_6_code 96 = .ok (.ifCond .eq 7, 3) := by decide +kernel
theorem d_Main_face_99 : decode prog_1_method_6_code 99 = .ok (.iconst 1, 1) := by decide +kernel
theorem d_Main_face_100 : decode prog_1_method_6_code 100 = .ok (.goto 4, 3) := by decide +kernel
theorem d_Main_face_103 : decode prog_1_method_6_code 103 = .ok (.iconst 0, 1) := by decide +kernel
theorem d_Main_face_104 : decode prog_1_method_6_code 104 = .ok (.ireturn, 1) := by decide +kernel
theorem d_Main_face_105 : decode prog_1_method_6_code 105 = .ok (.iconst (-1), 1) := by decide +kernel
theorem d_Main_face_106 : decode prog_1_method_6_code 106 = .ok (.ireturn, 1) := by decide +kernel
theorem d_Quern_lying_0 : decode prog_6_method_15_code 0 = .ok (.iload_n 3, 1) := by decide +kernel
theorem d_Quern_lying_1 : decode prog_6_method_15_code 1 = .ok (.iconst 4, 1) := by decide +kernel
theorem d_Quern_lying_2 : decode prog_6_method_15_code 2 = .ok (.if_icmp .ne 14, 3) := by decide +kernel
theorem d_Quern_lying_5 : decode prog_6_method_15_code 5 = .ok (.aload_n 0, 1) := by decide +kernel
theorem d_Quern_lying_6 : decode prog_6_method_15_code 6 = .ok (.getfield 29, 3) := by decide +kernel
theorem d_Quern_lying_9 : decode prog_6_method_15_code 9 = .ok (.iload_n 1, 1) := by decide +kernel
theorem d_Quern_lying_10 : decode prog_6_method_15_code 10 = .ok (.aaload, 1) := by decide +kernel
theorem d_Quern_lying_11 : decode prog_6_method_15_code 11 = .ok (.iload_n 2, 1) := by decide +kernel
theorem d_Quern_lying_12 : decode prog_6_method_15_code 12 = .ok (.iaload, 1) := by decide +kernel
theorem d_Quern_lying_13 : decode prog_6_method_15_code 13 = .ok (.goto 4, 3) := by decide +kernel
theorem d_Quern_lying_16 : decode prog_6_method_15_code 16 = .ok (.iconst 0, 1) := by decide +kernel
theorem d_Quern_lying_17 : decode prog_6_method_15_code 17 = .ok (.istore 4, 2) := by decide +kernel
theorem d_Quern_lying_19 : decode prog_6_method_15_code 19 = .ok (.iconst 0, 1) := by decide +kernel
theorem d_Quern_lying_20 : decode prog_6_method_15_code 20 = .ok (.istore 5, 2) := by decide +kernel
theorem d_Quern_lying_22 : decode prog_6_method_15_code 22 = .ok (.iload 5, 2) := by decide +kernel
theorem d_Quern_lying_24 : decode prog_6_method_15_code 24 = .ok (.iconst 4, 1) := by decide +kernel
theorem d_Quern_lying_25 : decode prog_6_method_15_code 25 = .ok (.if_icmp .ge 71, 3) := by decide +kernel
theorem d_Quern_lying_28 : decode prog_6_method_15_code 28 = .ok (.aload_n 0, 1) := by decide +kernel
theorem d_Quern_lying_29 : decode prog_6_method_15_code 29 = .ok (.getfield 26, 3) := by decide +kernel
theorem d_Quern_lying_32 : decode prog_6_method_15_code 32 = .ok (.iload_n 1, 1) := by decide +kernel
theorem d_Quern_lying_33 : decode prog_6_method_15_code 33 = .ok (.iaload, 1) := by decide +kernel
theorem d_Quern_lying_34 : decode prog_6_method_15_code 34 = .ok (.iload 5, 2) := by decide +kernel
theorem d_Quern_lying_36 : decode prog_6_method_15_code 36 = .ok (.ishr, 1) := by decide +kernel
theorem d_Quern_lying_37 : decode prog_6_method_15_code 37 = .ok (.iconst 1, 1) := by decide +kernel
theorem d_Quern_lying_38 : decode prog_6_method_15_code 38 = .ok (.iand, 1) := by decide +kernel
theorem d_Quern_lying_39 : decode prog_6_method_15_code 39 = .ok (.ifCond .ne 6, 3) := by decide +kernel
theorem d_Quern_lying_42 : decode prog_6_method_15_code 42 = .ok (.goto 48, 3) := by decide +kernel
theorem d_Quern_lying_45 : decode prog_6_method_15_code 45 = .ok (.iload 4, 2) := by decide +kernel
theorem d_Quern_lying_47 : decode prog_6_method_15_code 47 = .ok (.iload 4, 2) := by decide +kernel
theorem d_Quern_lying_49 : decode prog_6_method_15_code 49 = .ok (.aload_n 0, 1) := by decide +kernel
theorem d_Quern_lying_50 : decode prog_6_method_15_code 50 = .ok (.getfield 35, 3) := by decide +kernel
theorem d_Quern_lying_53 : decode prog_6_method_15_code 53 = .ok (.iload 5, 2) := by decide +kernel
theorem d_Quern_lying_55 : decode prog_6_method_15_code 55 = .ok (.iaload, 1) := by decide +kernel
theorem d_Quern_lying_56 : decode prog_6_method_15_code 56 = .ok (.imul, 1) := by decide +kernel
theorem d_Quern_lying_57 : decode prog_6_method_15_code 57 = .ok (.bipush 100, 2) := by decide +kernel
theorem d_Quern_lying_59 : decode prog_6_method_15_code 59 = .ok (.idiv, 1) := by decide +kernel
theorem d_Quern_lying_60 : decode prog_6_method_15_code 60 = .ok (.isub, 1) := by decide +kernel
theorem d_Quern_lying_61 : decode prog_6_method_15_code 61 = .ok (.istore 4, 2) := by decide +kernel
theorem d_Quern_lying_63 : decode prog_6_method_15_code 63 = .ok (.iload 5, 2) := by decide +kernel
theorem d_Quern_lying_65 : decode prog_6_method_15_code 65 = .ok (.iload_n 3, 1) := by decide +kernel
theorem d_Quern_lying_66 : decode prog_6_method_15_code 66 = .ok (.if_icmp .ne 24, 3) := by decide +kernel
theorem d_Quern_lying_69 : decode prog_6_method_15_code 69 = .ok (.iload 4, 2) := by decide +kernel
theorem d_Quern_lying_71 : decode prog_6_method_15_code 71 = .ok (.aload_n 0, 1) := by decide +kernel
theorem d_Quern_lying_72 : decode prog_6_method_15_code 72 = .ok (.getfield 32, 3) := by decide +kernel
theorem d_Quern_lying_75 : decode prog_6_method_15_code 75 = .ok (.iload 5, 2) := by decide +kernel
theorem d_Quern_lying_77 : decode prog_6_method_15_code 77 = .ok (.aaload, 1) := by decide +kernel
theorem d_Quern_lying_78 : decode prog_6_method_15_code 78 = .ok (.iload_n 2, 1) := by decide +kernel
theorem d_Quern_lying_79 : decode prog_6_method_15_code 79 = .ok (.iaload, 1) := by decide +kernel
theorem d_Quern_lying_80 : decode prog_6_method_15_code 80 = .ok (.aload_n 0, 1) := by decide +kernel
theorem d_Quern_lying_81 : decode prog_6_method_15_code 81 = .ok (.getfield 23, 3) := by decide +kernel
theorem d_Quern_lying_84 : decode prog_6_method_15_code 84 = .ok (.iload_n 1, 1) := by decide +kernel
theorem d_Quern_lying_85 : decode prog_6_method_15_code 85 = .ok (.iaload, 1) := by decide +kernel
theorem d_Quern_lying_86 : decode prog_6_method_15_code 86 = .ok (.imul, 1) := by decide +kernel
theorem d_Quern_lying_87 : decode prog_6_method_15_code 87 = .ok (.iadd, 1) := by decide +kernel
theorem d_Quern_lying_88 : decode prog_6_method_15_code 88 = .ok (.istore 4, 2) := by decide +kernel
theorem d_Quern_lying_90 : decode prog_6_method_15_code 90 = .ok (.iinc 5 1, 3) := by decide +kernel
theorem d_Quern_lying_93 : decode prog_6_method_15_code 93 = .ok (.goto (-71), 3) := by decide +kernel
theorem d_Quern_lying_96 : decode prog_6_method_15_code 96 = .ok (.iload 4, 2) := by decide +kernel
theorem d_Quern_lying_98 : decode prog_6_method_15_code 98 = .ok (.ireturn, 1) := by decide +kernel
theorem d_Quern_lyingOfAll_0 : decode prog_6_method_16_code 0 = .ok (.iconst 0, 1) := by decide +kernel
theorem d_Quern_lyingOfAll_1 : decode prog_6_method_16_code 1 = .ok (.istore_n 3, 1) := by decide +kernel
theorem d_Quern_lyingOfAll_2 : decode prog_6_method_16_code 2 = .ok (.iconst 0, 1) := by decide +kernel
theorem d_Quern_lyingOfAll_3 : decode prog_6_method_16_code 3 = .ok (.istore 4, 2) := by decide +kernel
theorem d_Quern_lyingOfAll_5 : decode prog_6_method_16_code 5 = .ok (.iload 4, 2) := by decide +kernel
theorem d_Quern_lyingOfAll_7 : decode prog_6_method_16_code 7 = .ok (.iconst 5, 1) := by decide +kernel
theorem d_Quern_lyingOfAll_8 : decode prog_6_method_16_code 8 = .ok (.if_icmp .ge 20, 3) := by decide +kernel
theorem d_Quern_lyingOfAll_11 : decode prog_6_method_16_code 11 = .ok (.iload_n 3, 1) := by decide +kernel
theorem d_Quern_lyingOfAll_12 : decode prog_6_method_16_code 12 = .ok (.aload_n 0, 1) := by decide +kernel
theorem d_Quern_lyingOfAll_13 : decode prog_6_method_16_code 13 = .ok (.iload_n 1, 1) := by decide +kernel
theorem d_Quern_lyingOfAll_14 : decode prog_6_method_16_code 14 = .ok (.iload_n 2, 1) := by decide +kernel
theorem d_Quern_lyingOfAll_15 : decode prog_6_method_16_code 15 = .ok (.iload 4, 2) := by decide +kernel
theorem d_Quern_lyingOfAll_17 : decode prog_6_method_16_code 17 = .ok (.invokevirtual 103, 3) := by decide +kernel
theorem d_Quern_lyingOfAll_20 : decode prog_6_method_16_code 20 = .ok (.iadd, 1) := by decide +kernel
theorem d_Quern_lyingOfAll_21 : decode prog_6_method_16_code 21 = .ok (.istore_n 3, 1) := by decide +kernel
theorem d_Quern_lyingOfAll_22 : decode prog_6_method_16_code 22 = .ok (.iinc 4 1, 3) := by decide +kernel
theorem d_Quern_lyingOfAll_25 : decode prog_6_method_16_code 25 = .ok (.goto (-20), 3) := by decide +kernel
theorem d_Quern_lyingOfAll_28 : decode prog_6_method_16_code 28 = .ok (.iload_n 3, 1) := by decide +kernel
theorem d_Quern_lyingOfAll_29 : decode prog_6_method_16_code 29 = .ok (.ireturn, 1) := by decide +kernel
theorem d_Main_lies_0 : decode prog_1_method_7_code 0 = .ok (.aload_n 0, 1) := by decide +kernel
theorem d_Main_lies_1 : decode prog_1_method_7_code 1 = .ok (.getfield 51, 3) := by decide +kernel
theorem d_Main_lies_4 : decode prog_1_method_7_code 4 = .ok (.iload_n 1, 1) := by decide +kernel
theorem d_Main_lies_5 : decode prog_1_method_7_code 5 = .ok (.invokevirtual 90, 3) := by decide +kernel
theorem d_Main_lies_8 : decode prog_1_method_7_code 8 = .ok (.ifCond .eq 23, 3) := by decide +kernel
theorem d_Main_lies_11 : decode prog_1_method_7_code 11 = .ok (.aload_n 0, 1) := by decide +kernel
theorem d_Main_lies_12 : decode prog_1_method_7_code 12 = .ok (.getfield 51, 3) := by decide +kernel
theorem d_Main_lies_15 : decode prog_1_method_7_code 15 = .ok (.iload_n 2, 1) := by decide +kernel
theorem d_Main_lies_16 : decode prog_1_method_7_code 16 = .ok (.invokevirtual 110, 3) := by decide +kernel
theorem d_Main_lies_19 : decode prog_1_method_7_code 19 = .ok (.ifCond .eq 12, 3) := by decide +kernel
theorem d_Main_lies_22 : decode prog_1_method_7_code 22 = .ok (.iload_n 3, 1) := by decide +kernel
theorem d_Main_lies_23 : decode prog_1_method_7_code 23 = .ok (.iconst (-1), 1) := by decide +kernel
theorem d_Main_lies_24 : decode prog_1_method_7_code 24 = .ok (.iconst 4, 1) := by decide +kernel
theorem d_Main_lies_25 : decode prog_1_method_7_code 25 = .ok (.invokestatic 61, 3) := by decide +kernel
theorem d_Main_lies_28 : decode prog_1_method_7_code 28 = .ok (.ifCond .ne 5, 3) := by decide +kernel
theorem d_Main_lies_31 : decode prog_1_method_7_code 31 = .ok (.iconst (-1), 1) := by decide +kernel
theorem d_Main_lies_32 : decode prog_1_method_7_code 32 = .ok (.ireturn, 1) := by decide +kernel
theorem d_Main_lies_33 : decode prog_1_method_7_code 33 = .ok (.iload_n 3, 1) := by decide +kernel
theorem d_Main_lies_34 : decode prog_1_method_7_code 34 = .ok (.iconst (-1), 1) := by decide +kernel
theorem d_Main_lies_35 : decode prog_1_method_7_code 35 = .ok (.if_icmp .ne 15, 3) := by decide +kernel
theorem d_Main_lies_38 : decode prog_1_method_7_code 38 = .ok (.aload_n 0, 1) := by decide +kernel
theorem d_Main_lies_39 : decode prog_1_method_7_code 39 = .ok (.getfield 51, 3) := by decide +kernel
theorem d_Main_lies_42 : decode prog_1_method_7_code 42 = .ok (.iload_n 1, 1) := by decide +kernel
theorem d_Main_lies_43 : decode prog_1_method_7_code 43 = .ok (.iload_n 2, 1) := by decide +kernel
theorem d_Main_lies_44 : decode prog_1_method_7_code 44 = .ok (.invokevirtual 113, 3) := by decide +kernel
theorem d_Main_lies_47 : decode prog_1_method_7_code 47 = .ok (.goto 13, 3) := by decide +kernel
theorem d_Main_lies_50 : decode prog_1_method_7_code 50 = .ok (.aload_n 0, 1) := by decide +kernel
theorem d_Main_lies_51 : decode prog_1_method_7_code 51 = .ok (.getfield 51, 3) := by decide +kernel
theorem d_Main_lies_54 : decode prog_1_method_7_code 54 = .ok (.iload_n 1, 1) := by decide +kernel
theorem d_Main_lies_55 : decode prog_1_method_7_code 55 = .ok (.iload_n 2, 1) := by decide +kernel
theorem d_Main_lies_56 : decode prog_1_method_7_code 56 = .ok (.iload_n 3, 1) := by decide +kernel
theorem d_Main_lies_57 : decode prog_1_method_7_code 57 = .ok (.invokevirtual 117, 3) := by decide +kernel
theorem d_Main_lies_60 : decode prog_1_method_7_code 60 = .ok (.ireturn, 1) := by decide +kernel
theorem d_Quern_draw_0 : decode prog_6_method_18_code 0 = .ok (.ldc2_w 117, 3) := by decide +kernel
theorem d_Quern_draw_3 : decode prog_6_method_18_code 3 = .ok (.iload_n 1, 1) := by decide +kernel
theorem d_Quern_draw_4 : decode prog_6_method_18_code 4 = .ok (.i2l, 1) := by decide +kernel
theorem d_Quern_draw_5 : decode prog_6_method_18_code 5 = .ok (.lmul, 1) := by decide +kernel
theorem d_Quern_draw_6 : decode prog_6_method_18_code 6 = .ok (.ldc2_w 119, 3) := by decide +kernel
theorem d_Quern_draw_9 : decode prog_6_method_18_code 9 = .ok (.iload_n 2, 1) := by decide +kernel
theorem d_Quern_draw_10 : decode prog_6_method_18_code 10 = .ok (.i2l, 1) := by decide +kernel
theorem d_Quern_draw_11 : decode prog_6_method_18_code 11 = .ok (.lmul, 1) := by decide +kernel
theorem d_Quern_draw_12 : decode prog_6_method_18_code 12 = .ok (.ladd, 1) := by decide +kernel
theorem d_Quern_draw_13 : decode prog_6_method_18_code 13 = .ok (.ldc2_w 121, 3) := by decide +kernel
theorem d_Quern_draw_16 : decode prog_6_method_18_code 16 = .ok (.iload_n 0, 1) := by decide +kernel
theorem d_Quern_draw_17 : decode prog_6_method_18_code 17 = .ok (.i2l, 1) := by decide +kernel
theorem d_Quern_draw_18 : decode prog_6_method_18_code 18 = .ok (.lmul, 1) := by decide +kernel
theorem d_Quern_draw_19 : decode prog_6_method_18_code 19 = .ok (.ladd, 1) := by decide +kernel
theorem d_Quern_draw_20 : decode prog_6_method_18_code 20 = .ok (.lconst 1, 1) := by decide +kernel
theorem d_Quern_draw_21 : decode prog_6_method_18_code 21 = .ok (.ladd, 1) := by decide +kernel
theorem d_Quern_draw_22 : decode prog_6_method_18_code 22 = .ok (.lstore_n 3, 1) := by decide +kernel
theorem d_Quern_draw_23 : decode prog_6_method_18_code 23 = .ok (.lload_n 3, 1) := by decide +kernel
theorem d_Quern_draw_24 : decode prog_6_method_18_code 24 = .ok (.lload_n 3, 1) := by decide +kernel
theorem d_Quern_draw_25 : decode prog_6_method_18_code 25 = .ok (.lmul, 1) := by decide +kernel
theorem d_Quern_draw_26 : decode prog_6_method_18_code 26 = .ok (.ldc2_w 123, 3) := by decide +kernel
theorem d_Quern_draw_29 : decode prog_6_method_18_code 29 = .ok (.lrem, 1) := by decide +kernel
theorem d_Quern_draw_30 : decode prog_6_method_18_code 30 = .ok (.ldc2_w 125, 3) := by decide +kernel
theorem d_Quern_draw_33 : decode prog_6_method_18_code 33 = .ok (.lrem, 1) := by decide +kernel
theorem d_Quern_draw_34 : decode prog_6_method_18_code 34 = .ok (.l2i, 1) := by decide +kernel
theorem d_Quern_draw_35 : decode prog_6_method_18_code 35 = .ok (.ireturn, 1) := by decide +kernel
theorem d_Quern_calledBy_0 : decode prog_6_method_19_code 0 = .ok (.iconst 0, 1) := by decide +kernel
theorem d_Quern_calledBy_1 : decode prog_6_method_19_code 1 = .ok (.istore_n 3, 1) := by decide +kernel
theorem d_Quern_calledBy_2 : decode prog_6_method_19_code 2 = .ok (.iconst 0, 1) := by decide +kernel
theorem d_Quern_calledBy_3 : decode prog_6_method_19_code 3 = .ok (.istore 4, 2) := by decide +kernel
theorem d_Quern_calledBy_5 : decode prog_6_method_19_code 5 = .ok (.iload 4, 2) := by decide +kernel
theorem d_Quern_calledBy_7 : decode prog_6_method_19_code 7 = .ok (.aload_n 0, 1) := by decide +kernel
theorem d_Quern_calledBy_8 : decode prog_6_method_19_code 8 = .ok (.getfield 44, 3) := by decide +kernel
theorem d_Quern_calledBy_11 : decode prog_6_method_19_code 11 = .ok (.if_icmp .ge 29, 3) := by decide +kernel
theorem d_Quern_calledBy_14 : decode prog_6_method_19_code 14 = .ok (.iload_n 3, 1) := by decide +kernel
theorem d_Quern_calledBy_15 : decode prog_6_method_19_code 15 = .ok (.aload_n 0, 1) := by decide +kernel
theorem d_Quern_calledBy_16 : decode prog_6_method_19_code 16 = .ok (.getfield 41, 3) := by decide +kernel
theorem d_Quern_calledBy_19 : decode prog_6_method_19_code 19 = .ok (.iload_n 1, 1) := by decide +kernel
theorem d_Quern_calledBy_20 : decode prog_6_method_19_code 20 = .ok (.aaload, 1) := by decide +kernel
theorem d_Quern_calledBy_21 : decode prog_6_method_19_code 21 = .ok (.iload 4, 2) := by decide +kernel
theorem d_Quern_calledBy_23 : decode prog_6_method_19_code 23 = .ok (.iaload, 1) := by decide +kernel
theorem d_Quern_calledBy_24 : decode prog_6_method_19_code 24 = .ok (.iadd, 1) := by decide +kernel
theorem d_Quern_calledBy_25 : decode prog_6_method_19_code 25 = .ok (.istore_n 3, 1) := by decide +kernel
theorem d_Quern_calledBy_26 : decode prog_6_method_19_code 26 = .ok (.iload_n 2, 1) := by decide +kernel
theorem d_Quern_calledBy_27 : decode prog_6_method_19_code 27 = .ok (.iload_n 3, 1) := by decide +kernel
theorem d_Quern_calledBy_28 : decode prog_6_method_19_code 28 = .ok (.if_icmp .ge 6, 3) := by decide +kernel
theorem d_Quern_calledBy_31 : decode prog_6_method_19_code 31 = .ok (.iload 4, 2) := by decide +kernel
theorem d_Quern_calledBy_33 : decode prog_6_method_19_code 33 = .ok (.ireturn, 1) := by decide +kernel
theorem d_Quern_calledBy_34 : decode prog_6_method_19_code 34 = .ok (.iinc 4 1, 3) := by decide +kernel
theorem d_Quern_calledBy_37 : decode prog_6_method_19_code 37 = .ok (.goto (-32), 3) := by decide +kernel
theorem d_Quern_calledBy_40 : decode prog_6_method_19_code 40 = .ok (.iload_n 1, 1) := by decide +kernel
theorem d_Quern_calledBy_41 : decode prog_6_method_19_code 41 = .ok (.ireturn, 1) := by decide +kernel
theorem d_Quern_calledOn_0 : decode prog_6_method_17_code 0 = .ok (.iconst 0, 1) := by decide +kernel
theorem d_Quern_calledOn_1 : decode prog_6_method_17_code 1 = .ok (.istore 4, 2) := by decide +kernel
theorem d_Quern_calledOn_3 : decode prog_6_method_17_code 3 = .ok (.iconst 0, 1) := by decide +kernel
theorem d_Quern_calledOn_4 : decode prog_6_method_17_code 4 = .ok (.istore 5, 2) := by decide +kernel
theorem d_Quern_calledOn_6 : decode prog_6_method_17_code 6 = .ok (.iconst 0, 1) := by decide +kernel
theorem d_Quern_calledOn_7 : decode prog_6_method_17_code 7 = .ok (.istore 6, 2) := by decide +kernel
theorem d_Quern_calledOn_9 : decode prog_6_method_17_code 9 = .ok (.iload 6, 2) := by decide +kernel
theorem d_Quern_calledOn_11 : decode prog_6_method_17_code 11 = .ok (.aload_n 0, 1) := by decide +kernel
theorem d_Quern_calledOn_12 : decode prog_6_method_17_code 12 = .ok (.getfield 44, 3) := by decide +kernel
theorem d_Quern_calledOn_15 : decode prog_6_method_17_code 15 = .ok (.if_icmp .ge 54, 3) := by decide +kernel
theorem d_Quern_calledOn_18 : decode prog_6_method_17_code 18 = .ok (.iload 5, 2) := by decide +kernel
theorem d_Quern_calledOn_20 : decode prog_6_method_17_code 20 = .ok (.aload_n 0, 1) := by decide +kernel
theorem d_Quern_calledOn_21 : decode prog_6_method_17_code 21 = .ok (.iload_n 1, 1) := by decide +kernel
theorem d_Quern_calledOn_22 : decode prog_6_method_17_code 22 = .ok (.iload 6, 2) := by decide +kernel
theorem d_Quern_calledOn_24 : decode prog_6_method_17_code 24 = .ok (.invokevirtual 107, 3) := by decide +kernel
theorem d_Quern_calledOn_27 : decode prog_6_method_17_code 27 = .ok (.iadd, 1) := by decide +kernel
theorem d_Quern_calledOn_28 : decode prog_6_method_17_code 28 = .ok (.istore 7, 2) := by decide +kernel
theorem d_Quern_calledOn_30 : decode prog_6_method_17_code 30 = .ok (.iload 5, 2) := by decide +kernel
theorem d_Quern_calledOn_32 : decode prog_6_method_17_code 32 = .ok (.iload 7, 2) := by decide +kernel
theorem d_Quern_calledOn_34 : decode prog_6_method_17_code 34 = .ok (.if_icmp .ge 29, 3) := by decide +kernel
theorem d_Quern_calledOn_37 : decode prog_6_method_17_code 37 = .ok (.aload_n 0, 1) := by decide +kernel
theorem d_Quern_calledOn_38 : decode prog_6_method_17_code 38 = .ok (.iload 6, 2) := by decide +kernel
theorem d_Quern_calledOn_40 : decode prog_6_method_17_code 40 = .ok (.iload_n 1, 1) := by decide +kernel
theorem d_Quern_calledOn_41 : decode prog_6_method_17_code 41 = .ok (.iload_n 2, 1) := by decide +kernel
theorem d_Quern_calledOn_42 : decode prog_6_method_17_code 42 = .ok (.iload 5, 2) := by decide +kernel
theorem d_Quern_calledOn_44 : decode prog_6_method_17_code 44 = .ok (.invokestatic 111, 3) := by decide +kernel
theorem d_Quern_calledOn_47 : decode prog_6_method_17_code 47 = .ok (.invokevirtual 114, 3) := by decide +kernel
theorem d_Quern_calledOn_50 : decode prog_6_method_17_code 50 = .ok (.iload_n 3, 1) := by decide +kernel
theorem d_Quern_calledOn_51 : decode prog_6_method_17_code 51 = .ok (.if_icmp .ne 6, 3) := by decide +kernel
theorem d_Quern_calledOn_54 : decode prog_6_method_17_code 54 = .ok (.iinc 4 1, 3) := by decide +kernel
theorem d_Quern_calledOn_57 : decode prog_6_method_17_code 57 = .ok (.iinc 5 1, 3) := by decide +kernel
theorem d_Quern_calledOn_60 : decode prog_6_method_17_code 60 = .ok (.goto (-30), 3) := by decide +kernel
theorem d_Quern_calledOn_63 : decode prog_6_method_17_code 63 = .ok (.iinc 6 1, 3) := by decide +kernel
theorem d_Quern_calledOn_66 : decode prog_6_method_17_code 66 = .ok (.goto (-57), 3) := by decide +kernel
theorem d_Quern_calledOn_69 : decode prog_6_method_17_code 69 = .ok (.iload 4, 2) := by decide +kernel
theorem d_Quern_calledOn_71 : decode prog_6_method_17_code 71 = .ok (.ireturn, 1) := by decide +kernel
theorem d_Main_read_0 : decode prog_1_method_8_code 0 = .ok (.aload_n 0, 1) := by decide +kernel
theorem d_Main_read_1 : decode prog_1_method_8_code 1 = .ok (.getfield 51, 3) := by decide +kernel
theorem d_Main_read_4 : decode prog_1_method_8_code 4 = .ok (.iload_n 1, 1) := by decide +kernel
theorem d_Main_read_5 : decode prog_1_method_8_code 5 = .ok (.invokevirtual 90, 3) := by decide +kernel
theorem d_Main_read_8 : decode prog_1_method_8_code 8 = .ok (.ifCond .eq 25, 3) := by decide +kernel
theorem d_Main_read_11 : decode prog_1_method_8_code 11 = .ok (.iload_n 2, 1) := by decide +kernel
theorem d_Main_read_12 : decode prog_1_method_8_code 12 = .ok (.iconst 0, 1) := by decide +kernel
theorem d_Main_read_13 : decode prog_1_method_8_code 13 = .ok (.sipush 9999, 3) := by decide +kernel
theorem d_Main_read_16 : decode prog_1_method_8_code 16 = .ok (.invokestatic 61, 3) := by decide +kernel
theorem d_Main_read_19 : decode prog_1_method_8_code 19 = .ok (.ifCond .eq 14, 3) := by decide +kernel
theorem d_Main_read_22 : decode prog_1_method_8_code 22 = .ok (.aload_n 0, 1) := by decide +kernel
theorem d_Main_read_23 : decode prog_1_method_8_code 23 = .ok (.getfield 51, 3) := by decide +kernel
theorem d_Main_read_26 : decode prog_1_method_8_code 26 = .ok (.iload_n 3, 1) := by decide +kernel
theorem d_Main_read_27 : decode prog_1_method_8_code 27 = .ok (.invokevirtual 110, 3) := by decide +kernel
theorem d_Main_read_30 : decode prog_1_method_8_code 30 = .ok (.ifCond .ne 5, 3) := by decide +kernel
theorem d_Main_read_33 : decode prog_1_method_8_code 33 = .ok (.iconst (-1), 1) := by decide +kernel
theorem d_Main_read_34 : decode prog_1_method_8_code 34 = .ok (.ireturn, 1) := by decide +kernel
theorem d_Main_read_35 : decode prog_1_method_8_code 35 = .ok (.aload_n 0, 1) := by decide +kernel
theorem d_Main_read_36 : decode prog_1_method_8_code 36 = .ok (.getfield 51, 3) := by decide +kernel
theorem d_Main_read_39 : decode prog_1_method_8_code 39 = .ok (.iload_n 1, 1) := by decide +kernel
theorem d_Main_read_40 : decode prog_1_method_8_code 40 = .ok (.iload_n 2, 1) := by decide +kernel
theorem d_Main_read_41 : decode prog_1_method_8_code 41 = .ok (.iload_n 3, 1) := by decide +kernel
theorem d_Main_read_42 : decode prog_1_method_8_code 42 = .ok (.invokevirtual 121, 3) := by decide +kernel
theorem d_Main_read_45 : decode prog_1_method_8_code 45 = .ok (.ireturn, 1) := by decide +kernel
theorem d_Odds_power_0 : decode prog_5_method_4_code 0 = .ok (.lconst 1, 1) := by decide +kernel
theorem d_Odds_power_1 : decode prog_5_method_4_code 1 = .ok (.lstore_n 3, 1) := by decide +kernel
theorem d_Odds_power_2 : decode prog_5_method_4_code 2 = .ok (.iconst 0, 1) := by decide +kernel
theorem d_Odds_power_3 : decode prog_5_method_4_code 3 = .ok (.istore 5, 2) := by decide +kernel
theorem d_Odds_power_5 : decode prog_5_method_4_code 5 = .ok (.iload 5, 2) := by decide +kernel
theorem d_Odds_power_7 : decode prog_5_method_4_code 7 = .ok (.iload_n 2, 1) := by decide +kernel
theorem d_Odds_power_8 : decode prog_5_method_4_code 8 = .ok (.if_icmp .ge 13, 3) := by decide +kernel
theorem d_Odds_power_11 : decode prog_5_method_4_code 11 = .ok (.lload_n 3, 1) := by decide +kernel
theorem d_Odds_power_12 : decode prog_5_method_4_code 12 = .ok (.lload_n 0, 1) := by decide +kernel
theorem d_Odds_power_13 : decode prog_5_method_4_code 13 = .ok (.lmul, 1) := by decide +kernel
theorem d_Odds_power_14 : decode prog_5_method_4_code 14 = .ok (.lstore_n 3, 1) := by decide +kernel
theorem d_Odds_power_15 : decode prog_5_method_4_code 15 = .ok (.iinc 5 1, 3) := by decide +kernel
theorem d_Odds_power_18 : decode prog_5_method_4_code 18 = .ok (.goto (-13), 3) := by decide +kernel
theorem d_Odds_power_21 : decode prog_5_method_4_code 21 = .ok (.lload_n 3, 1) := by decide +kernel
theorem d_Odds_power_22 : decode prog_5_method_4_code 22 = .ok (.lreturn, 1) := by decide +kernel
theorem d_Odds_waysOfAtLeast_0 : decode prog_5_method_2_code 0 = .ok (.lconst 0, 1) := by decide +kernel
theorem d_Odds_waysOfAtLeast_1 : decode prog_5_method_2_code 1 = .ok (.lstore 4, 2) := by decide +kernel
theorem d_Odds_waysOfAtLeast_3 : decode prog_5_method_2_code 3 = .ok (.lconst 1, 1) := by decide +kernel
theorem d_Odds_waysOfAtLeast_4 : decode prog_5_method_2_code 4 = .ok (.lstore 6, 2) := by decide +kernel
theorem d_Odds_waysOfAtLeast_6 : decode prog_5_method_2_code 6 = .ok (.iconst 0, 1) := by decide +kernel
theorem d_Odds_waysOfAtLeast_7 : decode prog_5_method_2_code 7 = .ok (.istore 8, 2) := by decide +kernel
theorem d_Odds_waysOfAtLeast_9 : decode prog_5_method_2_code 9 = .ok (.iload 8, 2) := by decide +kernel
theorem d_Odds_waysOfAtLeast_11 : decode prog_5_method_2_code 11 = .ok (.iload_n 1, 1) := by decide +kernel
theorem d_Odds_waysOfAtLeast_12 : decode prog_5_method_2_code 12 = .ok (.if_icmp .gt 56, 3) := by decide +kernel
theorem d_Odds_waysOfAtLeast_15 : decode prog_5_method_2_code 15 = .ok (.iload 8, 2) := by decide +kernel
theorem d_Odds_waysOfAtLeast_17 : decode prog_5_method_2_code 17 = .ok (.iload_n 0, 1) := by decide +kernel
theorem d_Odds_waysOfAtLeast_18 : decode prog_5_method_2_code 18 = .ok (.if_icmp .lt 28, 3) := by decide +kernel
theorem d_Odds_waysOfAtLeast_21 : decode prog_5_method_2_code 21 = .ok (.lload 4, 2) := by decide +kernel
theorem d_Odds_waysOfAtLeast_23 : decode prog_5_method_2_code 23 = .ok (.lload 6, 2) := by decide +kernel
theorem d_Odds_waysOfAtLeast_25 : decode prog_5_method_2_code 25 = .ok (.iload_n 2, 1) := by decide +kernel
theorem d_Odds_waysOfAtLeast_26 : decode prog_5_method_2_code 26 = .ok (.i2l, 1) := by decide +kernel
theorem d_Odds_waysOfAtLeast_27 : decode prog_5_method_2_code 27 = .ok (.iload 8, 2) := by decide +kernel
theorem d_Odds_waysOfAtLeast_29 : decode prog_5_method_2_code 29 = .ok (.invokestatic 7, 3) := by decide +kernel
theorem d_Odds_waysOfAtLeast_32 : decode prog_5_method_2_code 32 = .ok (.lmul, 1) := by decide +kernel
theorem d_Odds_waysOfAtLeast_33 : decode prog_5_method_2_code 33 = .ok (.iload_n 3, 1) := by decide +kernel
theorem d_Odds_waysOfAtLeast_34 : decode prog_5_method_2_code 34 = .ok (.i2l, 1) := by decide +kernel
theorem d_Odds_waysOfAtLeast_35 : decode prog_5_method_2_code 35 = .ok (.iload_n 1, 1) := by decide +kernel
theorem d_Odds_waysOfAtLeast_36 : decode prog_5_method_2_code 36 = .ok (.iload 8, 2) := by decide +kernel
theorem d_Odds_waysOfAtLeast_38 : decode prog_5_method_2_code 38 = .ok (.isub, 1) := by decide +kernel
theorem d_Odds_waysOfAtLeast_39 : decode prog_5_method_2_code 39 = .ok (.invokestatic 7, 3) := by decide +kernel
theorem d_Odds_waysOfAtLeast_42 : decode prog_5_method_2_code 42 = .ok (.lmul, 1) := by decide +kernel
theorem d_Odds_waysOfAtLeast_43 : decode prog_5_method_2_code 43 = .ok (.ladd, 1) := by decide +kernel
theorem d_Odds_waysOfAtLeast_44 : decode prog_5_method_2_code 44 = .ok (.lstore 4, 2) := by decide +kernel
theorem d_Odds_waysOfAtLeast_46 : decode prog_5_method_2_code 46 = .ok (.lload 6, 2) := by decide +kernel
theorem d_Odds_waysOfAtLeast_48 : decode prog_5_method_2_code 48 = .ok (.iload_n 1, 1) := by decide +kernel
theorem d_Odds_waysOfAtLeast_49 : decode prog_5_method_2_code 49 = .ok (.iload 8, 2) := by decide +kernel
theorem d_Odds_waysOfAtLeast_51 : decode prog_5_method_2_code 51 = .ok (.isub, 1) := by decide +kernel
theorem d_Odds_waysOfAtLeast_52 : decode prog_5_method_2_code 52 = .ok (.i2l, 1) := by decide +kernel
theorem d_Odds_waysOfAtLeast_53 : decode prog_5_method_2_code 53 = .ok (.lmul, 1) := by decide +kernel
theorem d_Odds_waysOfAtLeast_54 : decode prog_5_method_2_code 54 = .ok (.iload 8, 2) := by decide +kernel
theorem d_Odds_waysOfAtLeast_56 : decode prog_5_method_2_code 56 = .ok (.iconst 1, 1) := by decide +kernel
theorem d_Odds_waysOfAtLeast_57 : decode prog_5_method_2_code 57 = .ok (.iadd, 1) := by decide +kernel
theorem d_Odds_waysOfAtLeast_58 : decode prog_5_method_2_code 58 = .ok (.i2l, 1) := by decide +kernel
theorem d_Odds_waysOfAtLeast_59 : decode prog_5_method_2_code 59 = .ok (.ldiv, 1) := by decide +kernel
theorem d_Odds_waysOfAtLeast_60 : decode prog_5_method_2_code 60 = .ok (.lstore 6, 2) := by decide +kernel
theorem d_Odds_waysOfAtLeast_62 : decode prog_5_method_2_code 62 = .ok (.iinc 8 1, 3) := by decide +kernel
theorem d_Odds_waysOfAtLeast_65 : decode prog_5_method_2_code 65 = .ok (.goto (-56), 3) := by decide +kernel
theorem d_Odds_waysOfAtLeast_68 : decode prog_5_method_2_code 68 = .ok (.lload 4, 2) := by decide +kernel
theorem d_Odds_waysOfAtLeast_70 : decode prog_5_method_2_code 70 = .ok (.lreturn, 1) := by decide +kernel
theorem d_Odds_commonDivisor_0 : decode prog_5_method_6_code 0 = .ok (.lload_n 0, 1) := by decide +kernel
theorem d_Odds_commonDivisor_1 : decode prog_5_method_6_code 1 = .ok (.lstore 4, 2) := by decide +kernel
theorem d_Odds_commonDivisor_3 : decode prog_5_method_6_code 3 = .ok (.lload_n 2, 1) := by decide +kernel
theorem d_Odds_commonDivisor_4 : decode prog_5_method_6_code 4 = .ok (.lstore 6, 2) := by decide +kernel
theorem d_Odds_commonDivisor_6 : decode prog_5_method_6_code 6 = .ok (.iconst 0, 1) := by decide +kernel
theorem d_Odds_commonDivisor_7 : decode prog_5_method_6_code 7 = .ok (.istore 8, 2) := by decide +kernel
theorem d_Odds_commonDivisor_9 : decode prog_5_method_6_code 9 = .ok (.iload 8, 2) := by decide +kernel
theorem d_Odds_commonDivisor_11 : decode prog_5_method_6_code 11 = .ok (.bipush 100, 2) := by decide +kernel
theorem d_Odds_commonDivisor_13 : decode prog_5_method_6_code 13 = .ok (.if_icmp .ge 31, 3) := by decide +kernel
theorem d_Odds_commonDivisor_16 : decode prog_5_method_6_code 16 = .ok (.lload 6, 2) := by decide +kernel
theorem d_Odds_commonDivisor_18 : decode prog_5_method_6_code 18 = .ok (.lconst 0, 1) := by decide +kernel
theorem d_Odds_commonDivisor_19 : decode prog_5_method_6_code 19 = .ok (.lcmp, 1) := by decide +kernel
theorem d_Odds_commonDivisor_20 : decode prog_5_method_6_code 20 = .ok (.ifCond .eq 24, 3) := by decide +kernel
theorem d_Odds_commonDivisor_23 : decode prog_5_method_6_code 23 = .ok (.lload 4, 2) := by decide +kernel
theorem d_Odds_commonDivisor_25 : decode prog_5_method_6_code 25 = .ok (.lload 6, 2) := by decide +kernel
theorem d_Odds_commonDivisor_27 : decode prog_5_method_6_code 27 = .ok (.lrem, 1) := by decide +kernel
theorem d_Odds_commonDivisor_28 : decode prog_5_method_6_code 28 = .ok (.lstore 9, 2) := by decide +kernel
theorem d_Odds_commonDivisor_30 : decode prog_5_method_6_code 30 = .ok (.lload 6, 2) := by decide +kernel
theorem d_Odds_commonDivisor_32 : decode prog_5_method_6_code 32 = .ok (.lstore 4, 2) := by decide +kernel
theorem d_Odds_commonDivisor_34 : decode prog_5_method_6_code 34 = .ok (.lload 9, 2) := by decide +kernel
theorem d_Odds_commonDivisor_36 : decode prog_5_method_6_code 36 = .ok (.lstore 6, 2) := by decide +kernel
theorem d_Odds_commonDivisor_38 : decode prog_5_method_6_code 38 = .ok (.iinc 8 1, 3) := by decide +kernel
theorem d_Odds_commonDivisor_41 : decode prog_5_method_6_code 41 = .ok (.goto (-32), 3) := by decide +kernel
theorem d_Odds_commonDivisor_44 : decode prog_5_method_6_code 44 = .ok (.lload 4, 2) := by decide +kernel
theorem d_Odds_commonDivisor_46 : decode prog_5_method_6_code 46 = .ok (.lreturn, 1) := by decide +kernel
theorem d_Odds_inLowestTerms_0 : decode prog_5_method_5_code 0 = .ok (.iload 4, 2) := by decide +kernel
theorem d_Odds_inLowestTerms_2 : decode prog_5_method_5_code 2 = .ok (.ifCond .ne 7, 3) := by decide +kernel
theorem d_Odds_inLowestTerms_5 : decode prog_5_method_5_code 5 = .ok (.lload_n 0, 1) := by decide +kernel
theorem d_Odds_inLowestTerms_6 : decode prog_5_method_5_code 6 = .ok (.goto 4, 3) := by decide +kernel
theorem d_Odds_inLowestTerms_9 : decode prog_5_method_5_code 9 = .ok (.lload_n 2, 1) := by decide +kernel
theorem d_Odds_inLowestTerms_10 : decode prog_5_method_5_code 10 = .ok (.lstore 5, 2) := by decide +kernel
theorem d_Odds_inLowestTerms_12 : decode prog_5_method_5_code 12 = .ok (.lload_n 0, 1) := by decide +kernel
theorem d_Odds_inLowestTerms_13 : decode prog_5_method_5_code 13 = .ok (.lload_n 2, 1) := by decide +kernel
theorem d_Odds_inLowestTerms_14 : decode prog_5_method_5_code 14 = .ok (.invokestatic 13, 3) := by decide +kernel
theorem d_Odds_inLowestTerms_17 : decode prog_5_method_5_code 17 = .ok (.lstore 7, 2) := by decide +kernel
theorem d_Odds_inLowestTerms_19 : decode prog_5_method_5_code 19 = .ok (.lload 7, 2) := by decide +kernel
theorem d_Odds_inLowestTerms_21 : decode prog_5_method_5_code 21 = .ok (.lconst 0, 1) := by decide +kernel
theorem d_Odds_inLowestTerms_22 : decode prog_5_method_5_code 22 = .ok (.lcmp, 1) := by decide +kernel
theorem d_Odds_inLowestTerms_23 : decode prog_5_method_5_code 23 = .ok (.ifCond .ne 8, 3) := by decide +kernel
theorem d_Odds_inLowestTerms_26 : decode prog_5_method_5_code 26 = .ok (.lload 5, 2) := by decide +kernel
theorem d_Odds_inLowestTerms_28 : decode prog_5_method_5_code 28 = .ok (.goto 8, 3) := by decide +kernel
theorem d_Odds_inLowestTerms_31 : decode prog_5_method_5_code 31 = .ok (.lload 5, 2) := by decide +kernel
theorem d_Odds_inLowestTerms_33 : decode prog_5_method_5_code 33 = .ok (.lload 7, 2) := by decide +kernel
theorem d_Odds_inLowestTerms_35 : decode prog_5_method_5_code 35 = .ok (.ldiv, 1) := by decide +kernel
theorem d_Odds_inLowestTerms_36 : decode prog_5_method_5_code 36 = .ok (.lreturn, 1) := by decide +kernel
theorem d_Main_more_0 : decode prog_1_method_9_code 0 = .ok (.iload_n 1, 1) := by decide +kernel
theorem d_Main_more_1 : decode prog_1_method_9_code 1 = .ok (.iconst 0, 1) := by decide +kernel
theorem d_Main_more_2 : decode prog_1_method_9_code 2 = .ok (.bipush 12, 2) := by decide +kernel
theorem d_Main_more_4 : decode prog_1_method_9_code 4 = .ok (.invokestatic 61, 3) := by decide +kernel
theorem d_Main_more_7 : decode prog_1_method_9_code 7 = .ok (.ifCond .eq 25, 3) := by decide +kernel
theorem d_Main_more_10 : decode prog_1_method_9_code 10 = .ok (.iload_n 3, 1) := by decide +kernel
theorem d_Main_more_11 : decode prog_1_method_9_code 11 = .ok (.iconst 0, 1) := by decide +kernel
theorem d_Main_more_12 : decode prog_1_method_9_code 12 = .ok (.bipush 12, 2) := by decide +kernel
theorem d_Main_more_14 : decode prog_1_method_9_code 14 = .ok (.iload_n 1, 1) := by decide +kernel
theorem d_Main_more_15 : decode prog_1_method_9_code 15 = .ok (.isub, 1) := by decide +kernel
theorem d_Main_more_16 : decode prog_1_method_9_code 16 = .ok (.invokestatic 61, 3) := by decide +kernel
theorem d_Main_more_19 : decode prog_1_method_9_code 19 = .ok (.ifCond .eq 13, 3) := by decide +kernel
theorem d_Main_more_22 : decode prog_1_method_9_code 22 = .ok (.iload 5, 2) := by decide +kernel
theorem d_Main_more_24 : decode prog_1_method_9_code 24 = .ok (.iconst 0, 1) := by decide +kernel
theorem d_Main_more_25 : decode prog_1_method_9_code 25 = .ok (.iconst 1, 1) := by decide +kernel
theorem d_Main_more_26 : decode prog_1_method_9_code 26 = .ok (.invokestatic 61, 3) := by decide +kernel
theorem d_Main_more_29 : decode prog_1_method_9_code 29 = .ok (.ifCond .ne 7, 3) := by decide +kernel
theorem d_Main_more_32 : decode prog_1_method_9_code 32 = .ok (.ldc2_w 124, 3) := by decide +kernel
theorem d_Main_more_35 : decode prog_1_method_9_code 35 = .ok (.lreturn, 1) := by decide +kernel
theorem d_Main_more_36 : decode prog_1_method_9_code 36 = .ok (.iload_n 2, 1) := by decide +kernel
theorem d_Main_more_37 : decode prog_1_method_9_code 37 = .ok (.iconst 1, 1) := by decide +kernel
theorem d_Main_more_38 : decode prog_1_method_9_code 38 = .ok (.bipush 9, 2) := by decide +kernel
theorem d_Main_more_40 : decode prog_1_method_9_code 40 = .ok (.invokestatic 61, 3) := by decide +kernel
theorem d_Main_more_43 : decode prog_1_method_9_code 43 = .ok (.ifCond .eq 14, 3) := by decide +kernel
theorem d_Main_more_46 : decode prog_1_method_9_code 46 = .ok (.iload 4, 2) := by decide +kernel
theorem d_Main_more_48 : decode prog_1_method_9_code 48 = .ok (.iconst 1, 1) := by decide +kernel
theorem d_Main_more_49 : decode prog_1_method_9_code 49 = .ok (.bipush 9, 2) := by decide +kernel
theorem d_Main_more_51 : decode prog_1_method_9_code 51 = .ok (.invokestatic 61, 3) := by decide +kernel
theorem d_Main_more_54 : decode prog_1_method_9_code 54 = .ok (.ifCond .ne 7, 3) := by decide +kernel
theorem d_Main_more_57 : decode prog_1_method_9_code 57 = .ok (.ldc2_w 124, 3) := by decide +kernel
theorem d_Main_more_60 : decode prog_1_method_9_code 60 = .ok (.lreturn, 1) := by decide +kernel
theorem d_Main_more_61 : decode prog_1_method_9_code 61 = .ok (.iload_n 1, 1) := by decide +kernel
theorem d_Main_more_62 : decode prog_1_method_9_code 62 = .ok (.iload_n 3, 1) := by decide +kernel
theorem d_Main_more_63 : decode prog_1_method_9_code 63 = .ok (.iadd, 1) := by decide +kernel
theorem d_Main_more_64 : decode prog_1_method_9_code 64 = .ok (.istore 6, 2) := by decide +kernel
theorem d_Main_more_66 : decode prog_1_method_9_code 66 = .ok (.iload_n 1, 1) := by decide +kernel
theorem d_Main_more_67 : decode prog_1_method_9_code 67 = .ok (.iload 6, 2) := by decide +kernel
theorem d_Main_more_69 : decode prog_1_method_9_code 69 = .ok (.iload_n 2, 1) := by decide +kernel
theorem d_Main_more_70 : decode prog_1_method_9_code 70 = .ok (.iload 4, 2) := by decide +kernel
theorem d_Main_more_72 : decode prog_1_method_9_code 72 = .ok (.invokestatic 126, 3) := by decide +kernel
theorem d_Main_more_75 : decode prog_1_method_9_code 75 = .ok (.iload_n 2, 1) := by decide +kernel
theorem d_Main_more_76 : decode prog_1_method_9_code 76 = .ok (.iload 4, 2) := by decide +kernel
theorem d_Main_more_78 : decode prog_1_method_9_code 78 = .ok (.iadd, 1) := by decide +kernel
theorem d_Main_more_79 : decode prog_1_method_9_code 79 = .ok (.i2l, 1) := by decide +kernel
theorem d_Main_more_80 : decode prog_1_method_9_code 80 = .ok (.iload 6, 2) := by decide +kernel
theorem d_Main_more_82 : decode prog_1_method_9_code 82 = .ok (.invokestatic 132, 3) := by decide +kernel
theorem d_Main_more_85 : decode prog_1_method_9_code 85 = .ok (.iload 5, 2) := by decide +kernel
theorem d_Main_more_87 : decode prog_1_method_9_code 87 = .ok (.invokestatic 136, 3) := by decide +kernel
theorem d_Main_more_90 : decode prog_1_method_9_code 90 = .ok (.lreturn, 1) := by decide +kernel
theorem d_Odds_areRare_0 : decode prog_5_method_3_code 0 = .ok (.iload_n 1, 1) := by decide +kernel
theorem d_Odds_areRare_1 : decode prog_5_method_3_code 1 = .ok (.i2l, 1) := by decide +kernel
theorem d_Odds_areRare_2 : decode prog_5_method_3_code 2 = .ok (.iload_n 0, 1) := by decide +kernel
theorem d_Odds_areRare_3 : decode prog_5_method_3_code 3 = .ok (.invokestatic 7, 3) := by decide +kernel
theorem d_Odds_areRare_6 : decode prog_5_method_3_code 6 = .ok (.iload_n 3, 1) := by decide +kernel
theorem d_Odds_areRare_7 : decode prog_5_method_3_code 7 = .ok (.i2l, 1) := by decide +kernel
theorem d_Odds_areRare_8 : decode prog_5_method_3_code 8 = .ok (.lmul, 1) := by decide +kernel
theorem d_Odds_areRare_9 : decode prog_5_method_3_code 9 = .ok (.iload_n 1, 1) := by decide +kernel
theorem d_Odds_areRare_10 : decode prog_5_method_3_code 10 = .ok (.iload_n 2, 1) := by decide +kernel
theorem d_Odds_areRare_11 : decode prog_5_method_3_code 11 = .ok (.iadd, 1) := by decide +kernel
theorem d_Odds_areRare_12 : decode prog_5_method_3_code 12 = .ok (.i2l, 1) := by decide +kernel
theorem d_Odds_areRare_13 : decode prog_5_method_3_code 13 = .ok (.iload_n 0, 1) := by decide +kernel
theorem d_Odds_areRare_14 : decode prog_5_method_3_code 14 = .ok (.invokestatic 7, 3) := by decide +kernel
theorem d_Odds_areRare_17 : decode prog_5_method_3_code 17 = .ok (.lcmp, 1) := by decide +kernel
theorem d_Odds_areRare_18 : decode prog_5_method_3_code 18 = .ok (.ifCond .gt 7, 3) := by decide +kernel
theorem d_Odds_areRare_21 : decode prog_5_method_3_code 21 = .ok (.iconst 1, 1) := by decide +kernel
theorem d_Odds_areRare_22 : decode prog_5_method_3_code 22 = .ok (.goto 4, 3) := by decide +kernel
theorem d_Odds_areRare_25 : decode prog_5_method_3_code 25 = .ok (.iconst 0, 1) := by decide +kernel
theorem d_Odds_areRare_26 : decode prog_5_method_3_code 26 = .ok (.ireturn, 1) := by decide +kernel
theorem d_Main_says_0 : decode prog_1_method_10_code 0 = .ok (.iload_n 1, 1) := by decide +kernel
theorem d_Main_says_1 : decode prog_1_method_10_code 1 = .ok (.iconst 1, 1) := by decide +kernel
theorem d_Main_says_2 : decode prog_1_method_10_code 2 = .ok (.bipush 9, 2) := by decide +kernel
theorem d_Main_says_4 : decode prog_1_method_10_code 4 = .ok (.invokestatic 61, 3) := by decide +kernel
theorem d_Main_says_7 : decode prog_1_method_10_code 7 = .ok (.ifCond .eq 24, 3) := by decide +kernel
theorem d_Main_says_10 : decode prog_1_method_10_code 10 = .ok (.iload_n 2, 1) := by decide +kernel
theorem d_Main_says_11 : decode prog_1_method_10_code 11 = .ok (.iconst 1, 1) := by decide +kernel
theorem d_Main_says_12 : decode prog_1_method_10_code 12 = .ok (.bipush 9, 2) := by decide +kernel
theorem d_Main_says_14 : decode prog_1_method_10_code 14 = .ok (.invokestatic 61, 3) := by decide +kernel
theorem d_Main_says_17 : decode prog_1_method_10_code 17 = .ok (.ifCond .eq 14, 3) := by decide +kernel
theorem d_Main_says_20 : decode prog_1_method_10_code 20 = .ok (.iload_n 3, 1) := by decide +kernel
theorem d_Main_says_21 : decode prog_1_method_10_code 21 = .ok (.iconst 1, 1) := by decide +kernel
theorem d_Main_says_22 : decode prog_1_method_10_code 22 = .ok (.sipush 1000, 3) := by decide +kernel
theorem d_Main_says_25 : decode prog_1_method_10_code 25 = .ok (.invokestatic 61, 3) := by decide +kernel
theorem d_Main_says_28 : decode prog_1_method_10_code 28 = .ok (.ifCond .ne 5, 3) := by decide +kernel
theorem d_Main_says_31 : decode prog_1_method_10_code 31 = .ok (.iconst (-1), 1) := by decide +kernel
theorem d_Main_says_32 : decode prog_1_method_10_code 32 = .ok (.ireturn, 1) := by decide +kernel
theorem d_Main_says_33 : decode prog_1_method_10_code 33 = .ok (.iconst 0, 1) := by decide +kernel
theorem d_Main_says_34 : decode prog_1_method_10_code 34 = .ok (.istore 4, 2) := by decide +kernel
theorem d_Main_says_36 : decode prog_1_method_10_code 36 = .ok (.iload 4, 2) := by decide +kernel
theorem d_Main_says_38 : decode prog_1_method_10_code 38 = .ok (.bipush 12, 2) := by decide +kernel
theorem d_Main_says_40 : decode prog_1_method_10_code 40 = .ok (.if_icmp .gt 23, 3) := by decide +kernel
theorem d_Main_says_43 : decode prog_1_method_10_code 43 = .ok (.iload 4, 2) := by decide +kernel
theorem d_Main_says_45 : decode prog_1_method_10_code 45 = .ok (.iload_n 1, 1) := by decide +kernel
theorem d_Main_says_46 : decode prog_1_method_10_code 46 = .ok (.iload_n 2, 1) := by decide +kernel
theorem d_Main_says_47 : decode prog_1_method_10_code 47 = .ok (.iload_n 3, 1) := by decide +kernel
theorem d_Main_says_48 : decode prog_1_method_10_code 48 = .ok (.invokestatic 140, 3) := by decide +kernel
theorem d_Main_says_51 : decode prog_1_method_10_code 51 = .ok (.ifCond .eq 6, 3) := by decide +kernel
theorem d_Main_says_54 : decode prog_1_method_10_code 54 = .ok (.iload 4, 2) := by decide +kernel
theorem d_Main_says_56 : decode prog_1_method_10_code 56 = .ok (.ireturn, 1) := by decide +kernel
theorem d_Main_says_57 : decode prog_1_method_10_code 57 = .ok (.iinc 4 1, 3) := by decide +kernel
theorem d_Main_says_60 : decode prog_1_method_10_code 60 = .ok (.goto (-24), 3) := by decide +kernel
theorem d_Main_says_63 : decode prog_1_method_10_code 63 = .ok (.bipush (-4), 2) := by decide +kernel
theorem d_Main_says_65 : decode prog_1_method_10_code 65 = .ok (.ireturn, 1) := by decide +kernel
theorem d_Main_controls_0 : decode prog_1_method_11_code 0 = .ok (.iload_n 1, 1) := by decide +kernel
theorem d_Main_controls_1 : decode prog_1_method_11_code 1 = .ok (.iconst 1, 1) := by decide +kernel
theorem d_Main_controls_2 : decode prog_1_method_11_code 2 = .ok (.bipush 9, 2) := by decide +kernel
theorem d_Main_controls_4 : decode prog_1_method_11_code 4 = .ok (.invokestatic 61, 3) := by decide +kernel
theorem d_Main_controls_7 : decode prog_1_method_11_code 7 = .ok (.ifCond .eq 24, 3) := by decide +kernel
theorem d_Main_controls_10 : decode prog_1_method_11_code 10 = .ok (.iload_n 2, 1) := by decide +kernel
theorem d_Main_controls_11 : decode prog_1_method_11_code 11 = .ok (.iconst 1, 1) := by decide +kernel
theorem d_Main_controls_12 : decode prog_1_method_11_code 12 = .ok (.bipush 9, 2) := by decide +kernel
theorem d_Main_controls_14 : decode prog_1_method_11_code 14 = .ok (.invokestatic 61, 3) := by decide +kernel
theorem d_Main_controls_17 : decode prog_1_method_11_code 17 = .ok (.ifCond .eq 14, 3) := by decide +kernel
theorem d_Main_controls_20 : decode prog_1_method_11_code 20 = .ok (.iload_n 3, 1) := by decide +kernel
theorem d_Main_controls_21 : decode prog_1_method_11_code 21 = .ok (.iconst 1, 1) := by decide +kernel
theorem d_Main_controls_22 : decode prog_1_method_11_code 22 = .ok (.sipush 1000, 3) := by decide +kernel
theorem d_Main_controls_25 : decode prog_1_method_11_code 25 = .ok (.invokestatic 61, 3) := by decide +kernel
theorem d_Main_controls_28 : decode prog_1_method_11_code 28 = .ok (.ifCond .ne 5, 3) := by decide +kernel
theorem d_Main_controls_31 : decode prog_1_method_11_code 31 = .ok (.iconst (-1), 1) := by decide +kernel
theorem d_Main_controls_32 : decode prog_1_method_11_code 32 = .ok (.ireturn, 1) := by decide +kernel
theorem d_Main_controls_33 : decode prog_1_method_11_code 33 = .ok (.iconst 1, 1) := by decide +kernel
theorem d_Main_controls_34 : decode prog_1_method_11_code 34 = .ok (.istore 4, 2) := by decide +kernel
theorem d_Main_controls_36 : decode prog_1_method_11_code 36 = .ok (.iload 4, 2) := by decide +kernel
theorem d_Main_controls_38 : decode prog_1_method_11_code 38 = .ok (.bipush 99, 2) := by decide +kernel
theorem d_Main_controls_40 : decode prog_1_method_11_code 40 = .ok (.if_icmp .gt 23, 3) := by decide +kernel
theorem d_Main_controls_43 : decode prog_1_method_11_code 43 = .ok (.iload_n 1, 1) := by decide +kernel
theorem d_Main_controls_44 : decode prog_1_method_11_code 44 = .ok (.iload_n 2, 1) := by decide +kernel
theorem d_Main_controls_45 : decode prog_1_method_11_code 45 = .ok (.iload 4, 2) := by decide +kernel
theorem d_Main_controls_47 : decode prog_1_method_11_code 47 = .ok (.iload_n 3, 1) := by decide +kernel
theorem d_Main_controls_48 : decode prog_1_method_11_code 48 = .ok (.invokestatic 140, 3) := by decide +kernel
theorem d_Main_controls_51 : decode prog_1_method_11_code 51 = .ok (.ifCond .eq 6, 3) := by decide +kernel
theorem d_Main_controls_54 : decode prog_1_method_11_code 54 = .ok (.iload 4, 2) := by decide +kernel
theorem d_Main_controls_56 : decode prog_1_method_11_code 56 = .ok (.ireturn, 1) := by decide +kernel
theorem d_Main_controls_57 : decode prog_1_method_11_code 57 = .ok (.iinc 4 1, 3) := by decide +kernel
theorem d_Main_controls_60 : decode prog_1_method_11_code 60 = .ok (.goto (-24), 3) := by decide +kernel
theorem d_Main_controls_63 : decode prog_1_method_11_code 63 = .ok (.bipush (-4), 2) := by decide +kernel
theorem d_Main_controls_65 : decode prog_1_method_11_code 65 = .ok (.ireturn, 1) := by decide +kernel
theorem d_Heap_pile_0 : decode prog_4_method_2_code 0 = .ok (.iload_n 1, 1) := by decide +kernel
theorem d_Heap_pile_1 : decode prog_4_method_2_code 1 = .ok (.iconst 0, 1) := by decide +kernel
theorem d_Heap_pile_2 : decode prog_4_method_2_code 2 = .ok (.iload 5, 2) := by decide +kernel
theorem d_Heap_pile_4 : decode prog_4_method_2_code 4 = .ok (.invokestatic 15, 3) := by decide +kernel
theorem d_Heap_pile_7 : decode prog_4_method_2_code 7 = .ok (.ifCond .eq 15, 3) := by decide +kernel
theorem d_Heap_pile_10 : decode prog_4_method_2_code 10 = .ok (.iload_n 2, 1) := by decide +kernel

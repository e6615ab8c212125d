theorem d_Heap_pile_11 : decode prog_4_method_2_code 11 = .ok (.iconst 0, 1) := by decide +kernel
theorem d_Heap_pile_12 : decode prog_4_method_2_code 12 = .ok (.iload 5, 2) := by decide +kernel
theorem d_Heap_pile_14 : decode prog_4_method_2_code 14 = .ok (.iload_n 1, 1) := by decide +kernel
theorem d_Heap_pile_15 : decode prog_4_method_2_code 15 = .ok (.isub, 1) := by decide +kernel
theorem d_Heap_pile_16 : decode prog_4_method_2_code 16 = .ok (.invokestatic 15, 3) := by decide +kernel
theorem d_Heap_pile_19 : decode prog_4_method_2_code 19 = .ok (.ifCond .ne 5, 3) := by decide +kernel
theorem d_Heap_pile_22 : decode prog_4_method_2_code 22 = .ok (.iconst 0, 1) := by decide +kernel
theorem d_Heap_pile_23 : decode prog_4_method_2_code 23 = .ok (.ireturn, 1) := by decide +kernel
theorem d_Heap_pile_24 : decode prog_4_method_2_code 24 = .ok (.iload_n 3, 1) := by decide +kernel
theorem d_Heap_pile_25 : decode prog_4_method_2_code 25 = .ok (.iconst 0, 1) := by decide +kernel
theorem d_Heap_pile_26 : decode prog_4_method_2_code 26 = .ok (.iload 5, 2) := by decide +kernel
theorem d_Heap_pile_28 : decode prog_4_method_2_code 28 = .ok (.iload_n 1, 1) := by decide +kernel
theorem d_Heap_pile_29 : decode prog_4_method_2_code 29 = .ok (.isub, 1) := by decide +kernel
theorem d_Heap_pile_30 : decode prog_4_method_2_code 30 = .ok (.iload_n 2, 1) := by decide +kernel
theorem d_Heap_pile_31 : decode prog_4_method_2_code 31 = .ok (.isub, 1) := by decide +kernel
theorem d_Heap_pile_32 : decode prog_4_method_2_code 32 = .ok (.invokestatic 15, 3) := by decide +kernel
theorem d_Heap_pile_35 : decode prog_4_method_2_code 35 = .ok (.ifCond .eq 20, 3) := by decide +kernel
theorem d_Heap_pile_38 : decode prog_4_method_2_code 38 = .ok (.iload 4, 2) := by decide +kernel
theorem d_Heap_pile_40 : decode prog_4_method_2_code 40 = .ok (.iconst 0, 1) := by decide +kernel
theorem d_Heap_pile_41 : decode prog_4_method_2_code 41 = .ok (.iload 5, 2) := by decide +kernel
theorem d_Heap_pile_43 : decode prog_4_method_2_code 43 = .ok (.iload_n 1, 1) := by decide +kernel
theorem d_Heap_pile_44 : decode prog_4_method_2_code 44 = .ok (.isub, 1) := by decide +kernel
theorem d_Heap_pile_45 : decode prog_4_method_2_code 45 = .ok (.iload_n 2, 1) := by decide +kernel
theorem d_Heap_pile_46 : decode prog_4_method_2_code 46 = .ok (.isub, 1) := by decide +kernel
theorem d_Heap_pile_47 : decode prog_4_method_2_code 47 = .ok (.iload_n 3, 1) := by decide +kernel
theorem d_Heap_pile_48 : decode prog_4_method_2_code 48 = .ok (.isub, 1) := by decide +kernel
theorem d_Heap_pile_49 : decode prog_4_method_2_code 49 = .ok (.invokestatic 15, 3) := by decide +kernel
theorem d_Heap_pile_52 : decode prog_4_method_2_code 52 = .ok (.ifCond .ne 5, 3) := by decide +kernel
theorem d_Heap_pile_55 : decode prog_4_method_2_code 55 = .ok (.iconst 0, 1) := by decide +kernel
theorem d_Heap_pile_56 : decode prog_4_method_2_code 56 = .ok (.ireturn, 1) := by decide +kernel
theorem d_Heap_pile_57 : decode prog_4_method_2_code 57 = .ok (.aload_n 0, 1) := by decide +kernel
theorem d_Heap_pile_58 : decode prog_4_method_2_code 58 = .ok (.getfield 9, 3) := by decide +kernel
theorem d_Heap_pile_61 : decode prog_4_method_2_code 61 = .ok (.iconst 0, 1) := by decide +kernel
theorem d_Heap_pile_62 : decode prog_4_method_2_code 62 = .ok (.iload_n 1, 1) := by decide +kernel
theorem d_Heap_pile_63 : decode prog_4_method_2_code 63 = .ok (.iastore, 1) := by decide +kernel
theorem d_Heap_pile_64 : decode prog_4_method_2_code 64 = .ok (.aload_n 0, 1) := by decide +kernel
theorem d_Heap_pile_65 : decode prog_4_method_2_code 65 = .ok (.getfield 9, 3) := by decide +kernel
theorem d_Heap_pile_68 : decode prog_4_method_2_code 68 = .ok (.iconst 1, 1) := by decide +kernel
theorem d_Heap_pile_69 : decode prog_4_method_2_code 69 = .ok (.iload_n 2, 1) := by decide +kernel
theorem d_Heap_pile_70 : decode prog_4_method_2_code 70 = .ok (.iastore, 1) := by decide +kernel
theorem d_Heap_pile_71 : decode prog_4_method_2_code 71 = .ok (.aload_n 0, 1) := by decide +kernel
theorem d_Heap_pile_72 : decode prog_4_method_2_code 72 = .ok (.getfield 9, 3) := by decide +kernel
theorem d_Heap_pile_75 : decode prog_4_method_2_code 75 = .ok (.iconst 2, 1) := by decide +kernel
theorem d_Heap_pile_76 : decode prog_4_method_2_code 76 = .ok (.iload_n 3, 1) := by decide +kernel
theorem d_Heap_pile_77 : decode prog_4_method_2_code 77 = .ok (.iastore, 1) := by decide +kernel
theorem d_Heap_pile_78 : decode prog_4_method_2_code 78 = .ok (.aload_n 0, 1) := by decide +kernel
theorem d_Heap_pile_79 : decode prog_4_method_2_code 79 = .ok (.getfield 9, 3) := by decide +kernel
theorem d_Heap_pile_82 : decode prog_4_method_2_code 82 = .ok (.iconst 3, 1) := by decide +kernel
theorem d_Heap_pile_83 : decode prog_4_method_2_code 83 = .ok (.iload 4, 2) := by decide +kernel
theorem d_Heap_pile_85 : decode prog_4_method_2_code 85 = .ok (.iastore, 1) := by decide +kernel
theorem d_Heap_pile_86 : decode prog_4_method_2_code 86 = .ok (.iconst 1, 1) := by decide +kernel
theorem d_Heap_pile_87 : decode prog_4_method_2_code 87 = .ok (.ireturn, 1) := by decide +kernel
theorem d_Heap_productOfMix_0 : decode prog_4_method_5_code 0 = .ok (.lconst 1, 1) := by decide +kernel
theorem d_Heap_productOfMix_1 : decode prog_4_method_5_code 1 = .ok (.lstore 5, 2) := by decide +kernel
theorem d_Heap_productOfMix_3 : decode prog_4_method_5_code 3 = .ok (.iconst 0, 1) := by decide +kernel
theorem d_Heap_productOfMix_4 : decode prog_4_method_5_code 4 = .ok (.istore 7, 2) := by decide +kernel
theorem d_Heap_productOfMix_6 : decode prog_4_method_5_code 6 = .ok (.iload 7, 2) := by decide +kernel
theorem d_Heap_productOfMix_8 : decode prog_4_method_5_code 8 = .ok (.iconst 4, 1) := by decide +kernel
theorem d_Heap_productOfMix_9 : decode prog_4_method_5_code 9 = .ok (.if_icmp .ge 39, 3) := by decide +kernel
theorem d_Heap_productOfMix_12 : decode prog_4_method_5_code 12 = .ok (.lload 5, 2) := by decide +kernel
theorem d_Heap_productOfMix_14 : decode prog_4_method_5_code 14 = .ok (.iload_n 1, 1) := by decide +kernel
theorem d_Heap_productOfMix_15 : decode prog_4_method_5_code 15 = .ok (.aload_n 2, 1) := by decide +kernel
theorem d_Heap_productOfMix_16 : decode prog_4_method_5_code 16 = .ok (.iload 7, 2) := by decide +kernel
theorem d_Heap_productOfMix_18 : decode prog_4_method_5_code 18 = .ok (.iaload, 1) := by decide +kernel
theorem d_Heap_productOfMix_19 : decode prog_4_method_5_code 19 = .ok (.imul, 1) := by decide +kernel
theorem d_Heap_productOfMix_20 : decode prog_4_method_5_code 20 = .ok (.iload_n 3, 1) := by decide +kernel
theorem d_Heap_productOfMix_21 : decode prog_4_method_5_code 21 = .ok (.aload 4, 2) := by decide +kernel
theorem d_Heap_productOfMix_23 : decode prog_4_method_5_code 23 = .ok (.iload 7, 2) := by decide +kernel
theorem d_Heap_productOfMix_25 : decode prog_4_method_5_code 25 = .ok (.iaload, 1) := by decide +kernel
theorem d_Heap_productOfMix_26 : decode prog_4_method_5_code 26 = .ok (.imul, 1) := by decide +kernel
theorem d_Heap_productOfMix_27 : decode prog_4_method_5_code 27 = .ok (.iadd, 1) := by decide +kernel
theorem d_Heap_productOfMix_28 : decode prog_4_method_5_code 28 = .ok (.i2l, 1) := by decide +kernel
theorem d_Heap_productOfMix_29 : decode prog_4_method_5_code 29 = .ok (.aload_n 0, 1) := by decide +kernel
theorem d_Heap_productOfMix_30 : decode prog_4_method_5_code 30 = .ok (.getfield 9, 3) := by decide +kernel
theorem d_Heap_productOfMix_33 : decode prog_4_method_5_code 33 = .ok (.iload 7, 2) := by decide +kernel
theorem d_Heap_productOfMix_35 : decode prog_4_method_5_code 35 = .ok (.iaload, 1) := by decide +kernel
theorem d_Heap_productOfMix_36 : decode prog_4_method_5_code 36 = .ok (.invokestatic 25, 3) := by decide +kernel
theorem d_Heap_productOfMix_39 : decode prog_4_method_5_code 39 = .ok (.lmul, 1) := by decide +kernel
theorem d_Heap_productOfMix_40 : decode prog_4_method_5_code 40 = .ok (.lstore 5, 2) := by decide +kernel
theorem d_Heap_productOfMix_42 : decode prog_4_method_5_code 42 = .ok (.iinc 7 1, 3) := by decide +kernel
theorem d_Heap_productOfMix_45 : decode prog_4_method_5_code 45 = .ok (.goto (-39), 3) := by decide +kernel
theorem d_Heap_productOfMix_48 : decode prog_4_method_5_code 48 = .ok (.lload 5, 2) := by decide +kernel
theorem d_Heap_productOfMix_50 : decode prog_4_method_5_code 50 = .ok (.lreturn, 1) := by decide +kernel
theorem d_Heap_productOf_0 : decode prog_4_method_3_code 0 = .ok (.aload_n 0, 1) := by decide +kernel
theorem d_Heap_productOf_1 : decode prog_4_method_3_code 1 = .ok (.iconst 1, 1) := by decide +kernel
theorem d_Heap_productOf_2 : decode prog_4_method_3_code 2 = .ok (.aload_n 1, 1) := by decide +kernel
theorem d_Heap_productOf_3 : decode prog_4_method_3_code 3 = .ok (.iconst 0, 1) := by decide +kernel
theorem d_Heap_productOf_4 : decode prog_4_method_3_code 4 = .ok (.aload_n 1, 1) := by decide +kernel
theorem d_Heap_productOf_5 : decode prog_4_method_3_code 5 = .ok (.invokevirtual 19, 3) := by decide +kernel
theorem d_Heap_productOf_8 : decode prog_4_method_3_code 8 = .ok (.lreturn, 1) := by decide +kernel
theorem d_Main_heap_0 : decode prog_1_method_12_code 0 = .ok (.aload_n 0, 1) := by decide +kernel
theorem d_Main_heap_1 : decode prog_1_method_12_code 1 = .ok (.getfield 51, 3) := by decide +kernel
theorem d_Main_heap_4 : decode prog_1_method_12_code 4 = .ok (.iload_n 1, 1) := by decide +kernel
theorem d_Main_heap_5 : decode prog_1_method_12_code 5 = .ok (.invokevirtual 110, 3) := by decide +kernel
theorem d_Main_heap_8 : decode prog_1_method_12_code 8 = .ok (.ifCond .eq 31, 3) := by decide +kernel
theorem d_Main_heap_11 : decode prog_1_method_12_code 11 = .ok (.iload 6, 2) := by decide +kernel
theorem d_Main_heap_13 : decode prog_1_method_12_code 13 = .ok (.iconst 0, 1) := by decide +kernel
theorem d_Main_heap_14 : decode prog_1_method_12_code 14 = .ok (.iconst 1, 1) := by decide +kernel
theorem d_Main_heap_15 : decode prog_1_method_12_code 15 = .ok (.invokestatic 61, 3) := by decide +kernel
theorem d_Main_heap_18 : decode prog_1_method_12_code 18 = .ok (.ifCond .eq 21, 3) := by decide +kernel
theorem d_Main_heap_21 : decode prog_1_method_12_code 21 = .ok (.aload_n 0, 1) := by decide +kernel
theorem d_Main_heap_22 : decode prog_1_method_12_code 22 = .ok (.getfield 33, 3) := by decide +kernel
theorem d_Main_heap_25 : decode prog_1_method_12_code 25 = .ok (.iload_n 2, 1) := by decide +kernel
theorem d_Main_heap_26 : decode prog_1_method_12_code 26 = .ok (.iload_n 3, 1) := by decide +kernel
theorem d_Main_heap_27 : decode prog_1_method_12_code 27 = .ok (.iload 4, 2) := by decide +kernel
theorem d_Main_heap_29 : decode prog_1_method_12_code 29 = .ok (.iload 5, 2) := by decide +kernel
theorem d_Main_heap_31 : decode prog_1_method_12_code 31 = .ok (.bipush 8, 2) := by decide +kernel
theorem d_Main_heap_33 : decode prog_1_method_12_code 33 = .ok (.invokevirtual 144, 3) := by decide +kernel
theorem d_Main_heap_36 : decode prog_1_method_12_code 36 = .ok (.ifCond .ne 7, 3) := by decide +kernel
theorem d_Main_heap_39 : decode prog_1_method_12_code 39 = .ok (.ldc2_w 124, 3) := by decide +kernel
theorem d_Main_heap_42 : decode prog_1_method_12_code 42 = .ok (.lreturn, 1) := by decide +kernel
theorem d_Main_heap_43 : decode prog_1_method_12_code 43 = .ok (.lconst 0, 1) := by decide +kernel
theorem d_Main_heap_44 : decode prog_1_method_12_code 44 = .ok (.lstore 7, 2) := by decide +kernel
theorem d_Main_heap_46 : decode prog_1_method_12_code 46 = .ok (.iconst 0, 1) := by decide +kernel
theorem d_Main_heap_47 : decode prog_1_method_12_code 47 = .ok (.istore 9, 2) := by decide +kernel
theorem d_Main_heap_49 : decode prog_1_method_12_code 49 = .ok (.iload 9, 2) := by decide +kernel
theorem d_Main_heap_51 : decode prog_1_method_12_code 51 = .ok (.aload_n 0, 1) := by decide +kernel
theorem d_Main_heap_52 : decode prog_1_method_12_code 52 = .ok (.getfield 51, 3) := by decide +kernel
theorem d_Main_heap_55 : decode prog_1_method_12_code 55 = .ok (.getfield 80, 3) := by decide +kernel
theorem d_Main_heap_58 : decode prog_1_method_12_code 58 = .ok (.if_icmp .ge 31, 3) := by decide +kernel
theorem d_Main_heap_61 : decode prog_1_method_12_code 61 = .ok (.lload 7, 2) := by decide +kernel
theorem d_Main_heap_63 : decode prog_1_method_12_code 63 = .ok (.aload_n 0, 1) := by decide +kernel
theorem d_Main_heap_64 : decode prog_1_method_12_code 64 = .ok (.getfield 33, 3) := by decide +kernel
theorem d_Main_heap_67 : decode prog_1_method_12_code 67 = .ok (.aload_n 0, 1) := by decide +kernel
theorem d_Main_heap_68 : decode prog_1_method_12_code 68 = .ok (.getfield 51, 3) := by decide +kernel
theorem d_Main_heap_71 : decode prog_1_method_12_code 71 = .ok (.getfield 148, 3) := by decide +kernel
theorem d_Main_heap_74 : decode prog_1_method_12_code 74 = .ok (.iload 9, 2) := by decide +kernel
theorem d_Main_heap_76 : decode prog_1_method_12_code 76 = .ok (.aaload, 1) := by decide +kernel
theorem d_Main_heap_77 : decode prog_1_method_12_code 77 = .ok (.invokevirtual 152, 3) := by decide +kernel
theorem d_Main_heap_80 : decode prog_1_method_12_code 80 = .ok (.ladd, 1) := by decide +kernel
theorem d_Main_heap_81 : decode prog_1_method_12_code 81 = .ok (.lstore 7, 2) := by decide +kernel
theorem d_Main_heap_83 : decode prog_1_method_12_code 83 = .ok (.iinc 9 1, 3) := by decide +kernel
theorem d_Main_heap_86 : decode prog_1_method_12_code 86 = .ok (.goto (-37), 3) := by decide +kernel
theorem d_Main_heap_89 : decode prog_1_method_12_code 89 = .ok (.lload 7, 2) := by decide +kernel
theorem d_Main_heap_91 : decode prog_1_method_12_code 91 = .ok (.lconst 0, 1) := by decide +kernel
theorem d_Main_heap_92 : decode prog_1_method_12_code 92 = .ok (.lcmp, 1) := by decide +kernel
theorem d_Main_heap_93 : decode prog_1_method_12_code 93 = .ok (.ifCond .ne 9, 3) := by decide +kernel
theorem d_Main_heap_96 : decode prog_1_method_12_code 96 = .ok (.ldc2_w 156, 3) := by decide +kernel
theorem d_Main_heap_99 : decode prog_1_method_12_code 99 = .ok (.goto 26, 3) := by decide +kernel
theorem d_Main_heap_102 : decode prog_1_method_12_code 102 = .ok (.aload_n 0, 1) := by decide +kernel
theorem d_Main_heap_103 : decode prog_1_method_12_code 103 = .ok (.getfield 33, 3) := by decide +kernel
theorem d_Main_heap_106 : decode prog_1_method_12_code 106 = .ok (.aload_n 0, 1) := by decide +kernel
theorem d_Main_heap_107 : decode prog_1_method_12_code 107 = .ok (.getfield 51, 3) := by decide +kernel
theorem d_Main_heap_110 : decode prog_1_method_12_code 110 = .ok (.getfield 148, 3) := by decide +kernel
theorem d_Main_heap_113 : decode prog_1_method_12_code 113 = .ok (.iload_n 1, 1) := by decide +kernel
theorem d_Main_heap_114 : decode prog_1_method_12_code 114 = .ok (.aaload, 1) := by decide +kernel
theorem d_Main_heap_115 : decode prog_1_method_12_code 115 = .ok (.invokevirtual 152, 3) := by decide +kernel
theorem d_Main_heap_118 : decode prog_1_method_12_code 118 = .ok (.lload 7, 2) := by decide +kernel
theorem d_Main_heap_120 : decode prog_1_method_12_code 120 = .ok (.iload 6, 2) := by decide +kernel
theorem d_Main_heap_122 : decode prog_1_method_12_code 122 = .ok (.invokestatic 136, 3) := by decide +kernel
theorem d_Main_heap_125 : decode prog_1_method_12_code 125 = .ok (.lreturn, 1) := by decide +kernel
theorem d_Main_most_0 : decode prog_1_method_13_code 0 = .ok (.aload_n 0, 1) := by decide +kernel
theorem d_Main_most_1 : decode prog_1_method_13_code 1 = .ok (.getfield 33, 3) := by decide +kernel
theorem d_Main_most_4 : decode prog_1_method_13_code 4 = .ok (.iload_n 1, 1) := by decide +kernel
theorem d_Main_most_5 : decode prog_1_method_13_code 5 = .ok (.iload_n 2, 1) := by decide +kernel
theorem d_Main_most_6 : decode prog_1_method_13_code 6 = .ok (.iload_n 3, 1) := by decide +kernel
theorem d_Main_most_7 : decode prog_1_method_13_code 7 = .ok (.iload 4, 2) := by decide +kernel
theorem d_Main_most_9 : decode prog_1_method_13_code 9 = .ok (.bipush 8, 2) := by decide +kernel
theorem d_Main_most_11 : decode prog_1_method_13_code 11 = .ok (.invokevirtual 144, 3) := by decide +kernel
theorem d_Main_most_14 : decode prog_1_method_13_code 14 = .ok (.ifCond .ne 5, 3) := by decide +kernel
theorem d_Main_most_17 : decode prog_1_method_13_code 17 = .ok (.iconst (-1), 1) := by decide +kernel
theorem d_Main_most_18 : decode prog_1_method_13_code 18 = .ok (.ireturn, 1) := by decide +kernel
theorem d_Main_most_19 : decode prog_1_method_13_code 19 = .ok (.bipush (-4), 2) := by decide +kernel
theorem d_Main_most_21 : decode prog_1_method_13_code 21 = .ok (.istore 5, 2) := by decide +kernel
theorem d_Main_most_23 : decode prog_1_method_13_code 23 = .ok (.lconst 0, 1) := by decide +kernel
theorem d_Main_most_24 : decode prog_1_method_13_code 24 = .ok (.lstore 6, 2) := by decide +kernel
theorem d_Main_most_26 : decode prog_1_method_13_code 26 = .ok (.iconst 0, 1) := by decide +kernel
theorem d_Main_most_27 : decode prog_1_method_13_code 27 = .ok (.istore 8, 2) := by decide +kernel
theorem d_Main_most_29 : decode prog_1_method_13_code 29 = .ok (.iload 8, 2) := by decide +kernel
theorem d_Main_most_31 : decode prog_1_method_13_code 31 = .ok (.aload_n 0, 1) := by decide +kernel
theorem d_Main_most_32 : decode prog_1_method_13_code 32 = .ok (.getfield 51, 3) := by decide +kernel
theorem d_Main_most_35 : decode prog_1_method_13_code 35 = .ok (.getfield 80, 3) := by decide +kernel
theorem d_Main_most_38 : decode prog_1_method_13_code 38 = .ok (.if_icmp .ge 44, 3) := by decide +kernel
theorem d_Main_most_41 : decode prog_1_method_13_code 41 = .ok (.aload_n 0, 1) := by decide +kernel
theorem d_Main_most_42 : decode prog_1_method_13_code 42 = .ok (.getfield 33, 3) := by decide +kernel
theorem d_Main_most_45 : decode prog_1_method_13_code 45 = .ok (.aload_n 0, 1) := by decide +kernel
theorem d_Main_most_46 : decode prog_1_method_13_code 46 = .ok (.getfield 51, 3) := by decide +kernel
theorem d_Main_most_49 : decode prog_1_method_13_code 49 = .ok (.getfield 148, 3) := by decide +kernel
theorem d_Main_most_52 : decode prog_1_method_13_code 52 = .ok (.iload 8, 2) := by decide +kernel
theorem d_Main_most_54 : decode prog_1_method_13_code 54 = .ok (.aaload, 1) := by decide +kernel
theorem d_Main_most_55 : decode prog_1_method_13_code 55 = .ok (.invokevirtual 152, 3) := by decide +kernel
theorem d_Main_most_58 : decode prog_1_method_13_code 58 = .ok (.lstore 9, 2) := by decide +kernel
theorem d_Main_most_60 : decode prog_1_method_13_code 60 = .ok (.lload 9, 2) := by decide +kernel
theorem d_Main_most_62 : decode prog_1_method_13_code 62 = .ok (.lload 6, 2) := by decide +kernel
theorem d_Main_most_64 : decode prog_1_method_13_code 64 = .ok (.lcmp, 1) := by decide +kernel
theorem d_Main_most_65 : decode prog_1_method_13_code 65 = .ok (.ifCond .le 11, 3) := by decide +kernel
theorem d_Main_most_68 : decode prog_1_method_13_code 68 = .ok (.lload 9, 2) := by decide +kernel
theorem d_Main_most_70 : decode prog_1_method_13_code 70 = .ok (.lstore 6, 2) := by decide +kernel
theorem d_Main_most_72 : decode prog_1_method_13_code 72 = .ok (.iload 8, 2) := by decide +kernel
theorem d_Main_most_74 : decode prog_1_method_13_code 74 = .ok (.istore 5, 2) := by decide +kernel
theorem d_Main_most_76 : decode prog_1_method_13_code 76 = .ok (.iinc 8 1, 3) := by decide +kernel
theorem d_Main_most_79 : decode prog_1_method_13_code 79 = .ok (.goto (-50), 3) := by decide +kernel
theorem d_Main_most_82 : decode prog_1_method_13_code 82 = .ok (.iload 5, 2) := by decide +kernel
theorem d_Main_most_84 : decode prog_1_method_13_code 84 = .ok (.ireturn, 1) := by decide +kernel
theorem d_Heap_bestShare_0 : decode prog_4_method_4_code 0 = .ok (.iconst 0, 1) := by decide +kernel
theorem d_Heap_bestShare_1 : decode prog_4_method_4_code 1 = .ok (.istore_n 3, 1) := by decide +kernel
theorem d_Heap_bestShare_2 : decode prog_4_method_4_code 2 = .ok (.ldc2_w 23, 3) := by decide +kernel
theorem d_Heap_bestShare_5 : decode prog_4_method_4_code 5 = .ok (.lstore 4, 2) := by decide +kernel
theorem d_Heap_bestShare_7 : decode prog_4_method_4_code 7 = .ok (.iconst 0, 1) := by decide +kernel
theorem d_Heap_bestShare_8 : decode prog_4_method_4_code 8 = .ok (.istore 6, 2) := by decide +kernel
theorem d_Heap_bestShare_10 : decode prog_4_method_4_code 10 = .ok (.iload 6, 2) := by decide +kernel
theorem d_Heap_bestShare_12 : decode prog_4_method_4_code 12 = .ok (.bipush 10, 2) := by decide +kernel
theorem d_Heap_bestShare_14 : decode prog_4_method_4_code 14 = .ok (.if_icmp .gt 39, 3) := by decide +kernel
theorem d_Heap_bestShare_17 : decode prog_4_method_4_code 17 = .ok (.aload_n 0, 1) := by decide +kernel
theorem d_Heap_bestShare_18 : decode prog_4_method_4_code 18 = .ok (.iload 6, 2) := by decide +kernel
theorem d_Heap_bestShare_20 : decode prog_4_method_4_code 20 = .ok (.aload_n 1, 1) := by decide +kernel
theorem d_Heap_bestShare_21 : decode prog_4_method_4_code 21 = .ok (.bipush 10, 2) := by decide +kernel
theorem d_Heap_bestShare_23 : decode prog_4_method_4_code 23 = .ok (.iload 6, 2) := by decide +kernel
theorem d_Heap_bestShare_25 : decode prog_4_method_4_code 25 = .ok (.isub, 1) := by decide +kernel
theorem d_Heap_bestShare_26 : decode prog_4_method_4_code 26 = .ok (.aload_n 2, 1) := by decide +kernel
theorem d_Heap_bestShare_27 : decode prog_4_method_4_code 27 = .ok (.invokevirtual 19, 3) := by decide +kernel
theorem d_Heap_bestShare_30 : decode prog_4_method_4_code 30 = .ok (.lstore 7, 2) := by decide +kernel
theorem d_Heap_bestShare_32 : decode prog_4_method_4_code 32 = .ok (.lload 7, 2) := by decide +kernel
theorem d_Heap_bestShare_34 : decode prog_4_method_4_code 34 = .ok (.lload 4, 2) := by decide +kernel
theorem d_Heap_bestShare_36 : decode prog_4_method_4_code 36 = .ok (.lcmp, 1) := by decide +kernel
theorem d_Heap_bestShare_37 : decode prog_4_method_4_code 37 = .ok (.ifCond .le 10, 3) := by decide +kernel
theorem d_Heap_bestShare_40 : decode prog_4_method_4_code 40 = .ok (.lload 7, 2) := by decide +kernel
theorem d_Heap_bestShare_42 : decode prog_4_method_4_code 42 = .ok (.lstore 4, 2) := by decide +kernel
theorem d_Heap_bestShare_44 : decode prog_4_method_4_code 44 = .ok (.iload 6, 2) := by decide +kernel
theorem d_Heap_bestShare_46 : decode prog_4_method_4_code 46 = .ok (.istore_n 3, 1) := by decide +kernel
theorem d_Heap_bestShare_47 : decode prog_4_method_4_code 47 = .ok (.iinc 6 1, 3) := by decide +kernel
theorem d_Heap_bestShare_50 : decode prog_4_method_4_code 50 = .ok (.goto (-40), 3) := by decide +kernel
theorem d_Heap_bestShare_53 : decode prog_4_method_4_code 53 = .ok (.iload_n 3, 1) := by decide +kernel
theorem d_Heap_bestShare_54 : decode prog_4_method_4_code 54 = .ok (.ireturn, 1) := by decide +kernel
theorem d_Main_shares_0 : decode prog_1_method_14_code 0 = .ok (.aload_n 0, 1) := by decide +kernel
theorem d_Main_shares_1 : decode prog_1_method_14_code 1 = .ok (.getfield 51, 3) := by decide +kernel
theorem d_Main_shares_4 : decode prog_1_method_14_code 4 = .ok (.iload_n 1, 1) := by decide +kernel
theorem d_Main_shares_5 : decode prog_1_method_14_code 5 = .ok (.invokevirtual 110, 3) := by decide +kernel
theorem d_Main_shares_8 : decode prog_1_method_14_code 8 = .ok (.ifCond .eq 19, 3) := by decide +kernel
theorem d_Main_shares_11 : decode prog_1_method_14_code 11 = .ok (.aload_n 0, 1) := by decide +kernel
theorem d_Main_shares_12 : decode prog_1_method_14_code 12 = .ok (.getfield 51, 3) := by decide +kernel
theorem d_Main_shares_15 : decode prog_1_method_14_code 15 = .ok (.iload_n 2, 1) := by decide +kernel
theorem d_Main_shares_16 : decode prog_1_method_14_code 16 = .ok (.invokevirtual 110, 3) := by decide +kernel
theorem d_Main_shares_19 : decode prog_1_method_14_code 19 = .ok (.ifCond .eq 8, 3) := by decide +kernel
theorem d_Main_shares_22 : decode prog_1_method_14_code 22 = .ok (.iload_n 1, 1) := by decide +kernel
theorem d_Main_shares_23 : decode prog_1_method_14_code 23 = .ok (.iload_n 2, 1) := by decide +kernel
theorem d_Main_shares_24 : decode prog_1_method_14_code 24 = .ok (.if_icmp .ne 5, 3) := by decide +kernel
theorem d_Main_shares_27 : decode prog_1_method_14_code 27 = .ok (.iconst (-1), 1) := by decide +kernel
theorem d_Main_shares_28 : decode prog_1_method_14_code 28 = .ok (.ireturn, 1) := by decide +kernel
theorem d_Main_shares_29 : decode prog_1_method_14_code 29 = .ok (.aload_n 0, 1) := by decide +kernel
theorem d_Main_shares_30 : decode prog_1_method_14_code 30 = .ok (.getfield 33, 3) := by decide +kernel
theorem d_Main_shares_33 : decode prog_1_method_14_code 33 = .ok (.iload_n 3, 1) := by decide +kernel
theorem d_Main_shares_34 : decode prog_1_method_14_code 34 = .ok (.iload 4, 2) := by decide +kernel
theorem d_Main_shares_36 : decode prog_1_method_14_code 36 = .ok (.iload 5, 2) := by decide +kernel
theorem d_Main_shares_38 : decode prog_1_method_14_code 38 = .ok (.iload 6, 2) := by decide +kernel
theorem d_Main_shares_40 : decode prog_1_method_14_code 40 = .ok (.bipush 6, 2) := by decide +kernel
theorem d_Main_shares_42 : decode prog_1_method_14_code 42 = .ok (.invokevirtual 144, 3) := by decide +kernel
theorem d_Main_shares_45 : decode prog_1_method_14_code 45 = .ok (.ifCond .ne 5, 3) := by decide +kernel
theorem d_Main_shares_48 : decode prog_1_method_14_code 48 = .ok (.iconst (-1), 1) := by decide +kernel
theorem d_Main_shares_49 : decode prog_1_method_14_code 49 = .ok (.ireturn, 1) := by decide +kernel
theorem d_Main_shares_50 : decode prog_1_method_14_code 50 = .ok (.aload_n 0, 1) := by decide +kernel
theorem d_Main_shares_51 : decode prog_1_method_14_code 51 = .ok (.getfield 33, 3) := by decide +kernel
theorem d_Main_shares_54 : decode prog_1_method_14_code 54 = .ok (.aload_n 0, 1) := by decide +kernel
theorem d_Main_shares_55 : decode prog_1_method_14_code 55 = .ok (.getfield 51, 3) := by decide +kernel
theorem d_Main_shares_58 : decode prog_1_method_14_code 58 = .ok (.getfield 148, 3) := by decide +kernel
theorem d_Main_shares_61 : decode prog_1_method_14_code 61 = .ok (.iload_n 1, 1) := by decide +kernel
theorem d_Main_shares_62 : decode prog_1_method_14_code 62 = .ok (.aaload, 1) := by decide +kernel
theorem d_Main_shares_63 : decode prog_1_method_14_code 63 = .ok (.aload_n 0, 1) := by decide +kernel
theorem d_Main_shares_64 : decode prog_1_method_14_code 64 = .ok (.getfield 51, 3) := by decide +kernel
theorem d_Main_shares_67 : decode prog_1_method_14_code 67 = .ok (.getfield 148, 3) := by decide +kernel
theorem d_Main_shares_70 : decode prog_1_method_14_code 70 = .ok (.iload_n 2, 1) := by decide +kernel
theorem d_Main_shares_71 : decode prog_1_method_14_code 71 = .ok (.aaload, 1) := by decide +kernel
theorem d_Main_shares_72 : decode prog_1_method_14_code 72 = .ok (.invokevirtual 158, 3) := by decide +kernel
theorem d_Main_shares_75 : decode prog_1_method_14_code 75 = .ok (.ireturn, 1) := by decide +kernel
theorem d_Quern_cookedWave_0 : decode prog_6_method_25_code 0 = .ok (.iload_n 3, 1) := by decide +kernel
theorem d_Quern_cookedWave_1 : decode prog_6_method_25_code 1 = .ok (.iconst 3, 1) := by decide +kernel
theorem d_Quern_cookedWave_2 : decode prog_6_method_25_code 2 = .ok (.if_icmp .ge 19, 3) := by decide +kernel
theorem d_Quern_cookedWave_5 : decode prog_6_method_25_code 5 = .ok (.aload_n 0, 1) := by decide +kernel
theorem d_Quern_cookedWave_6 : decode prog_6_method_25_code 6 = .ok (.getfield 11, 3) := by decide +kernel
theorem d_Quern_cookedWave_9 : decode prog_6_method_25_code 9 = .ok (.iload_n 1, 1) := by decide +kernel
theorem d_Quern_cookedWave_10 : decode prog_6_method_25_code 10 = .ok (.aaload, 1) := by decide +kernel
theorem d_Quern_cookedWave_11 : decode prog_6_method_25_code 11 = .ok (.iload_n 3, 1) := by decide +kernel
theorem d_Quern_cookedWave_12 : decode prog_6_method_25_code 12 = .ok (.iaload, 1) := by decide +kernel
theorem d_Quern_cookedWave_13 : decode prog_6_method_25_code 13 = .ok (.iload_n 2, 1) := by decide +kernel
theorem d_Quern_cookedWave_14 : decode prog_6_method_25_code 14 = .ok (.imul, 1) := by decide +kernel
theorem d_Quern_cookedWave_15 : decode prog_6_method_25_code 15 = .ok (.bipush 100, 2) := by decide +kernel
theorem d_Quern_cookedWave_17 : decode prog_6_method_25_code 17 = .ok (.idiv, 1) := by decide +kernel
theorem d_Quern_cookedWave_18 : decode prog_6_method_25_code 18 = .ok (.goto 4, 3) := by decide +kernel
theorem d_Quern_cookedWave_21 : decode prog_6_method_25_code 21 = .ok (.iconst 0, 1) := by decide +kernel
theorem d_Quern_cookedWave_22 : decode prog_6_method_25_code 22 = .ok (.istore 4, 2) := by decide +kernel
theorem d_Quern_cookedWave_24 : decode prog_6_method_25_code 24 = .ok (.iload_n 3, 1) := by decide +kernel
theorem d_Quern_cookedWave_25 : decode prog_6_method_25_code 25 = .ok (.ifCond .le 21, 3) := by decide +kernel
theorem d_Quern_cookedWave_28 : decode prog_6_method_25_code 28 = .ok (.aload_n 0, 1) := by decide +kernel
theorem d_Quern_cookedWave_29 : decode prog_6_method_25_code 29 = .ok (.getfield 11, 3) := by decide +kernel
theorem d_Quern_cookedWave_32 : decode prog_6_method_25_code 32 = .ok (.iload_n 1, 1) := by decide +kernel
theorem d_Quern_cookedWave_33 : decode prog_6_method_25_code 33 = .ok (.aaload, 1) := by decide +kernel
theorem d_Quern_cookedWave_34 : decode prog_6_method_25_code 34 = .ok (.iload_n 3, 1) := by decide +kernel
theorem d_Quern_cookedWave_35 : decode prog_6_method_25_code 35 = .ok (.iconst 1, 1) := by decide +kernel
theorem d_Quern_cookedWave_36 : decode prog_6_method_25_code 36 = .ok (.isub, 1) := by decide +kernel
theorem d_Quern_cookedWave_37 : decode prog_6_method_25_code 37 = .ok (.iaload, 1) := by decide +kernel
theorem d_Quern_cookedWave_38 : decode prog_6_method_25_code 38 = .ok (.iload_n 2, 1) := by decide +kernel
theorem d_Quern_cookedWave_39 : decode prog_6_method_25_code 39 = .ok (.imul, 1) := by decide +kernel
theorem d_Quern_cookedWave_40 : decode prog_6_method_25_code 40 = .ok (.bipush 100, 2) := by decide +kernel
theorem d_Quern_cookedWave_42 : decode prog_6_method_25_code 42 = .ok (.idiv, 1) := by decide +kernel
theorem d_Quern_cookedWave_43 : decode prog_6_method_25_code 43 = .ok (.goto 4, 3) := by decide +kernel
theorem d_Quern_cookedWave_46 : decode prog_6_method_25_code 46 = .ok (.iconst 0, 1) := by decide +kernel
theorem d_Quern_cookedWave_47 : decode prog_6_method_25_code 47 = .ok (.istore 5, 2) := by decide +kernel
theorem d_Quern_cookedWave_49 : decode prog_6_method_25_code 49 = .ok (.aload_n 0, 1) := by decide +kernel
theorem d_Quern_cookedWave_50 : decode prog_6_method_25_code 50 = .ok (.getfield 11, 3) := by decide +kernel
theorem d_Quern_cookedWave_53 : decode prog_6_method_25_code 53 = .ok (.iload_n 1, 1) := by decide +kernel
theorem d_Quern_cookedWave_54 : decode prog_6_method_25_code 54 = .ok (.aaload, 1) := by decide +kernel
theorem d_Quern_cookedWave_55 : decode prog_6_method_25_code 55 = .ok (.iload_n 3, 1) := by decide +kernel
theorem d_Quern_cookedWave_56 : decode prog_6_method_25_code 56 = .ok (.iaload, 1) := by decide +kernel
theorem d_Quern_cookedWave_57 : decode prog_6_method_25_code 57 = .ok (.iload 4, 2) := by decide +kernel
theorem d_Quern_cookedWave_59 : decode prog_6_method_25_code 59 = .ok (.isub, 1) := by decide +kernel
theorem d_Quern_cookedWave_60 : decode prog_6_method_25_code 60 = .ok (.iload 5, 2) := by decide +kernel
theorem d_Quern_cookedWave_62 : decode prog_6_method_25_code 62 = .ok (.iadd, 1) := by decide +kernel
theorem d_Quern_cookedWave_63 : decode prog_6_method_25_code 63 = .ok (.ireturn, 1) := by decide +kernel
theorem d_Math_abs_0 : decode prog_12_method_59_code 0 = .ok (.iload_n 0, 1) := by decide +kernel
theorem d_Math_abs_1 : decode prog_12_method_59_code 1 = .ok (.ifCond .ge 8, 3) := by decide +kernel
theorem d_Math_abs_4 : decode prog_12_method_59_code 4 = .ok (.iload_n 0, 1) := by decide +kernel
theorem d_Math_abs_5 : decode prog_12_method_59_code 5 = .ok (.ineg, 1) := by decide +kernel
theorem d_Math_abs_6 : decode prog_12_method_59_code 6 = .ok (.goto 4, 3) := by decide +kernel
theorem d_Math_abs_9 : decode prog_12_method_59_code 9 = .ok (.iload_n 0, 1) := by decide +kernel
theorem d_Math_abs_10 : decode prog_12_method_59_code 10 = .ok (.ireturn, 1) := by decide +kernel
theorem d_Quern_differenceOfCooked_0 : decode prog_6_method_24_code 0 = .ok (.iconst 0, 1) := by decide +kernel
theorem d_Quern_differenceOfCooked_1 : decode prog_6_method_24_code 1 = .ok (.istore 4, 2) := by decide +kernel
theorem d_Quern_differenceOfCooked_3 : decode prog_6_method_24_code 3 = .ok (.iconst 0, 1) := by decide +kernel
theorem d_Quern_differenceOfCooked_4 : decode prog_6_method_24_code 4 = .ok (.istore 5, 2) := by decide +kernel
theorem d_Quern_differenceOfCooked_6 : decode prog_6_method_24_code 6 = .ok (.iload 5, 2) := by decide +kernel
theorem d_Quern_differenceOfCooked_8 : decode prog_6_method_24_code 8 = .ok (.iconst 4, 1) := by decide +kernel
theorem d_Quern_differenceOfCooked_9 : decode prog_6_method_24_code 9 = .ok (.if_icmp .ge 35, 3) := by decide +kernel
theorem d_Quern_differenceOfCooked_12 : decode prog_6_method_24_code 12 = .ok (.iload 4, 2) := by decide +kernel
theorem d_Quern_differenceOfCooked_14 : decode prog_6_method_24_code 14 = .ok (.aload_n 0, 1) := by decide +kernel
theorem d_Quern_differenceOfCooked_15 : decode prog_6_method_24_code 15 = .ok (.iload_n 1, 1) := by decide +kernel
theorem d_Quern_differenceOfCooked_16 : decode prog_6_method_24_code 16 = .ok (.iload_n 2, 1) := by decide +kernel
theorem d_Quern_differenceOfCooked_17 : decode prog_6_method_24_code 17 = .ok (.iload 5, 2) := by decide +kernel
theorem d_Quern_differenceOfCooked_19 : decode prog_6_method_24_code 19 = .ok (.invokevirtual 142, 3) := by decide +kernel
theorem d_Quern_differenceOfCooked_22 : decode prog_6_method_24_code 22 = .ok (.aload_n 0, 1) := by decide +kernel
theorem d_Quern_differenceOfCooked_23 : decode prog_6_method_24_code 23 = .ok (.getfield 11, 3) := by decide +kernel
theorem d_Quern_differenceOfCooked_26 : decode prog_6_method_24_code 26 = .ok (.iload_n 3, 1) := by decide +kernel
theorem d_Quern_differenceOfCooked_27 : decode prog_6_method_24_code 27 = .ok (.aaload, 1) := by decide +kernel
theorem d_Quern_differenceOfCooked_28 : decode prog_6_method_24_code 28 = .ok (.iload 5, 2) := by decide +kernel
theorem d_Quern_differenceOfCooked_30 : decode prog_6_method_24_code 30 = .ok (.iaload, 1) := by decide +kernel
theorem d_Quern_differenceOfCooked_31 : decode prog_6_method_24_code 31 = .ok (.isub, 1) := by decide +kernel
theorem d_Quern_differenceOfCooked_32 : decode prog_6_method_24_code 32 = .ok (.invokestatic 145, 3) := by decide +kernel
theorem d_Quern_differenceOfCooked_35 : decode prog_6_method_24_code 35 = .ok (.iadd, 1) := by decide +kernel
theorem d_Quern_differenceOfCooked_36 : decode prog_6_method_24_code 36 = .ok (.istore 4, 2) := by decide +kernel
theorem d_Quern_differenceOfCooked_38 : decode prog_6_method_24_code 38 = .ok (.iinc 5 1, 3) := by decide +kernel
theorem d_Quern_differenceOfCooked_41 : decode prog_6_method_24_code 41 = .ok (.goto (-35), 3) := by decide +kernel
theorem d_Quern_differenceOfCooked_44 : decode prog_6_method_24_code 44 = .ok (.iload 4, 2) := by decide +kernel
theorem d_Quern_differenceOfCooked_46 : decode prog_6_method_24_code 46 = .ok (.ireturn, 1) := by decide +kernel
theorem d_Quern_nearOnes_0 : decode prog_6_method_22_code 0 = .ok (.iconst 0, 1) := by decide +kernel
theorem d_Quern_nearOnes_1 : decode prog_6_method_22_code 1 = .ok (.istore_n 3, 1) := by decide +kernel
theorem d_Quern_nearOnes_2 : decode prog_6_method_22_code 2 = .ok (.iconst 0, 1) := by decide +kernel
theorem d_Quern_nearOnes_3 : decode prog_6_method_22_code 3 = .ok (.istore 4, 2) := by decide +kernel
theorem d_Quern_nearOnes_5 : decode prog_6_method_22_code 5 = .ok (.iload 4, 2) := by decide +kernel
theorem d_Quern_nearOnes_7 : decode prog_6_method_22_code 7 = .ok (.aload_n 0, 1) := by decide +kernel
theorem d_Quern_nearOnes_8 : decode prog_6_method_22_code 8 = .ok (.getfield 44, 3) := by decide +kernel
theorem d_Quern_nearOnes_11 : decode prog_6_method_22_code 11 = .ok (.if_icmp .ge 28, 3) := by decide +kernel
theorem d_Quern_nearOnes_14 : decode prog_6_method_22_code 14 = .ok (.aload_n 0, 1) := by decide +kernel
theorem d_Quern_nearOnes_15 : decode prog_6_method_22_code 15 = .ok (.iload_n 1, 1) := by decide +kernel
theorem d_Quern_nearOnes_16 : decode prog_6_method_22_code 16 = .ok (.iconst 0, 1) := by decide +kernel
theorem d_Quern_nearOnes_17 : decode prog_6_method_22_code 17 = .ok (.iload 4, 2) := by decide +kernel
theorem d_Quern_nearOnes_19 : decode prog_6_method_22_code 19 = .ok (.invokevirtual 139, 3) := by decide +kernel
theorem d_Quern_nearOnes_22 : decode prog_6_method_22_code 22 = .ok (.iload_n 2, 1) := by decide +kernel
theorem d_Quern_nearOnes_23 : decode prog_6_method_22_code 23 = .ok (.if_icmp .gt 10, 3) := by decide +kernel
theorem d_Quern_nearOnes_26 : decode prog_6_method_22_code 26 = .ok (.iload_n 3, 1) := by decide +kernel
theorem d_Quern_nearOnes_27 : decode prog_6_method_22_code 27 = .ok (.iconst 1, 1) := by decide +kernel
theorem d_Quern_nearOnes_28 : decode prog_6_method_22_code 28 = .ok (.iload 4, 2) := by decide +kernel
theorem d_Quern_nearOnes_30 : decode prog_6_method_22_code 30 = .ok (.ishl, 1) := by decide +kernel
theorem d_Quern_nearOnes_31 : decode prog_6_method_22_code 31 = .ok (.ior, 1) := by decide +kernel
theorem d_Quern_nearOnes_32 : decode prog_6_method_22_code 32 = .ok (.istore_n 3, 1) := by decide +kernel
theorem d_Quern_nearOnes_33 : decode prog_6_method_22_code 33 = .ok (.iinc 4 1, 3) := by decide +kernel
theorem d_Quern_nearOnes_36 : decode prog_6_method_22_code 36 = .ok (.goto (-31), 3) := by decide +kernel
theorem d_Quern_nearOnes_39 : decode prog_6_method_22_code 39 = .ok (.iload_n 3, 1) := by decide +kernel
theorem d_Quern_nearOnes_40 : decode prog_6_method_22_code 40 = .ok (.ireturn, 1) := by decide +kernel
theorem d_Integer_numberOfTrailingZeros_0 : decode prog_11_method_48_code 0 = .ok (.iload_n 0, 1) := by decide +kernel
theorem d_Integer_numberOfTrailingZeros_1 : decode prog_11_method_48_code 1 = .ok (.iconst (-1), 1) := by decide +kernel
theorem d_Integer_numberOfTrailingZeros_2 : decode prog_11_method_48_code 2 = .ok (.ixor, 1) := by decide +kernel
theorem d_Integer_numberOfTrailingZeros_3 : decode prog_11_method_48_code 3 = .ok (.iload_n 0, 1) := by decide +kernel
theorem d_Integer_numberOfTrailingZeros_4 : decode prog_11_method_48_code 4 = .ok (.iconst 1, 1) := by decide +kernel
theorem d_Integer_numberOfTrailingZeros_5 : decode prog_11_method_48_code 5 = .ok (.isub, 1) := by decide +kernel
theorem d_Integer_numberOfTrailingZeros_6 : decode prog_11_method_48_code 6 = .ok (.iand, 1) := by decide +kernel
theorem d_Integer_numberOfTrailingZeros_7 : decode prog_11_method_48_code 7 = .ok (.istore_n 0, 1) := by decide +kernel
theorem d_Integer_numberOfTrailingZeros_8 : decode prog_11_method_48_code 8 = .ok (.iload_n 0, 1) := by decide +kernel
theorem d_Integer_numberOfTrailingZeros_9 : decode prog_11_method_48_code 9 = .ok (.ifCond .gt 8, 3) := by decide +kernel
theorem d_Integer_numberOfTrailingZeros_12 : decode prog_11_method_48_code 12 = .ok (.iload_n 0, 1) := by decide +kernel
theorem d_Integer_numberOfTrailingZeros_13 : decode prog_11_method_48_code 13 = .ok (.bipush 32, 2) := by decide +kernel
theorem d_Integer_numberOfTrailingZeros_15 : decode prog_11_method_48_code 15 = .ok (.iand, 1) := by decide +kernel
theorem d_Integer_numberOfTrailingZeros_16 : decode prog_11_method_48_code 16 = .ok (.ireturn, 1) := by decide +kernel
theorem d_Integer_numberOfTrailingZeros_17 : decode prog_11_method_48_code 17 = .ok (.iconst 1, 1) := by decide +kernel
theorem d_Integer_numberOfTrailingZeros_18 : decode prog_11_method_48_code 18 = .ok (.istore_n 1, 1) := by decide +kernel
theorem d_Integer_numberOfTrailingZeros_19 : decode prog_11_method_48_code 19 = .ok (.iload_n 0, 1) := by decide +kernel
theorem d_Integer_numberOfTrailingZeros_20 : decode prog_11_method_48_code 20 = .ok (.ldc_w 264, 3) := by decide +kernel
theorem d_Integer_numberOfTrailingZeros_23 : decode prog_11_method_48_code 23 = .ok (.if_icmp .le 11, 3) := by decide +kernel
theorem d_Integer_numberOfTrailingZeros_26 : decode prog_11_method_48_code 26 = .ok (.iinc 1 16, 3) := by decide +kernel
theorem d_Integer_numberOfTrailingZeros_29 : decode prog_11_method_48_code 29 = .ok (.iload_n 0, 1) := by decide +kernel
theorem d_Integer_numberOfTrailingZeros_30 : decode prog_11_method_48_code 30 = .ok (.bipush 16, 2) := by decide +kernel
theorem d_Integer_numberOfTrailingZeros_32 : decode prog_11_method_48_code 32 = .ok (.iushr, 1) := by decide +kernel
theorem d_Integer_numberOfTrailingZeros_33 : decode prog_11_method_48_code 33 = .ok (.istore_n 0, 1) := by decide +kernel
theorem d_Integer_numberOfTrailingZeros_34 : decode prog_11_method_48_code 34 = .ok (.iload_n 0, 1) := by decide +kernel
theorem d_Integer_numberOfTrailingZeros_35 : decode prog_11_method_48_code 35 = .ok (.sipush 256, 3) := by decide +kernel
theorem d_Integer_numberOfTrailingZeros_38 : decode prog_11_method_48_code 38 = .ok (.if_icmp .le 11, 3) := by decide +kernel
theorem d_Integer_numberOfTrailingZeros_41 : decode prog_11_method_48_code 41 = .ok (.iinc 1 8, 3) := by decide +kernel
theorem d_Integer_numberOfTrailingZeros_44 : decode prog_11_method_48_code 44 = .ok (.iload_n 0, 1) := by decide +kernel
theorem d_Integer_numberOfTrailingZeros_45 : decode prog_11_method_48_code 45 = .ok (.bipush 8, 2) := by decide +kernel
theorem d_Integer_numberOfTrailingZeros_47 : decode prog_11_method_48_code 47 = .ok (.iushr, 1) := by decide +kernel
theorem d_Integer_numberOfTrailingZeros_48 : decode prog_11_method_48_code 48 = .ok (.istore_n 0, 1) := by decide +kernel
theorem d_Integer_numberOfTrailingZeros_49 : decode prog_11_method_48_code 49 = .ok (.iload_n 0, 1) := by decide +kernel
theorem d_Integer_numberOfTrailingZeros_50 : decode prog_11_method_48_code 50 = .ok (.bipush 16, 2) := by decide +kernel
theorem d_Integer_numberOfTrailingZeros_52 : decode prog_11_method_48_code 52 = .ok (.if_icmp .le 10, 3) := by decide +kernel
theorem d_Integer_numberOfTrailingZeros_55 : decode prog_11_method_48_code 55 = .ok (.iinc 1 4, 3) := by decide +kernel
theorem d_Integer_numberOfTrailingZeros_58 : decode prog_11_method_48_code 58 = .ok (.iload_n 0, 1) := by decide +kernel
theorem d_Integer_numberOfTrailingZeros_59 : decode prog_11_method_48_code 59 = .ok (.iconst 4, 1) := by decide +kernel
theorem d_Integer_numberOfTrailingZeros_60 : decode prog_11_method_48_code 60 = .ok (.iushr, 1) := by decide +kernel
theorem d_Integer_numberOfTrailingZeros_61 : decode prog_11_method_48_code 61 = .ok (.istore_n 0, 1) := by decide +kernel
theorem d_Integer_numberOfTrailingZeros_62 : decode prog_11_method_48_code 62 = .ok (.iload_n 0, 1) := by decide +kernel
theorem d_Integer_numberOfTrailingZeros_63 : decode prog_11_method_48_code 63 = .ok (.iconst 4, 1) := by decide +kernel
theorem d_Integer_numberOfTrailingZeros_64 : decode prog_11_method_48_code 64 = .ok (.if_icmp .le 10, 3) := by decide +kernel
theorem d_Integer_numberOfTrailingZeros_67 : decode prog_11_method_48_code 67 = .ok (.iinc 1 2, 3) := by decide +kernel
theorem d_Integer_numberOfTrailingZeros_70 : decode prog_11_method_48_code 70 = .ok (.iload_n 0, 1) := by decide +kernel
theorem d_Integer_numberOfTrailingZeros_71 : decode prog_11_method_48_code 71 = .ok (.iconst 2, 1) := by decide +kernel
theorem d_Integer_numberOfTrailingZeros_72 : decode prog_11_method_48_code 72 = .ok (.iushr, 1) := by decide +kernel
theorem d_Integer_numberOfTrailingZeros_73 : decode prog_11_method_48_code 73 = .ok (.istore_n 0, 1) := by decide +kernel
theorem d_Integer_numberOfTrailingZeros_74 : decode prog_11_method_48_code 74 = .ok (.iload_n 1, 1) := by decide +kernel
theorem d_Integer_numberOfTrailingZeros_75 : decode prog_11_method_48_code 75 = .ok (.iload_n 0, 1) := by decide +kernel
theorem d_Integer_numberOfTrailingZeros_76 : decode prog_11_method_48_code 76 = .ok (.iconst 1, 1) := by decide +kernel
theorem d_Integer_numberOfTrailingZeros_77 : decode prog_11_method_48_code 77 = .ok (.iushr, 1) := by decide +kernel
theorem d_Integer_numberOfTrailingZeros_78 : decode prog_11_method_48_code 78 = .ok (.iadd, 1) := by decide +kernel
theorem d_Integer_numberOfTrailingZeros_79 : decode prog_11_method_48_code 79 = .ok (.ireturn, 1) := by decide +kernel
theorem d_Quern_lowestKin_0 : decode prog_6_method_21_code 0 = .ok (.iconst 1, 1) := by decide +kernel
theorem d_Quern_lowestKin_1 : decode prog_6_method_21_code 1 = .ok (.iload_n 1, 1) := by decide +kernel
theorem d_Quern_lowestKin_2 : decode prog_6_method_21_code 2 = .ok (.ishl, 1) := by decide +kernel
theorem d_Quern_lowestKin_3 : decode prog_6_method_21_code 3 = .ok (.istore_n 3, 1) := by decide +kernel
theorem d_Quern_lowestKin_4 : decode prog_6_method_21_code 4 = .ok (.iconst 1, 1) := by decide +kernel
theorem d_Quern_lowestKin_5 : decode prog_6_method_21_code 5 = .ok (.istore 4, 2) := by decide +kernel
theorem d_Quern_lowestKin_7 : decode prog_6_method_21_code 7 = .ok (.iload 4, 2) := by decide +kernel
theorem d_Quern_lowestKin_9 : decode prog_6_method_21_code 9 = .ok (.aload_n 0, 1) := by decide +kernel
theorem d_Quern_lowestKin_10 : decode prog_6_method_21_code 10 = .ok (.getfield 44, 3) := by decide +kernel
theorem d_Quern_lowestKin_13 : decode prog_6_method_21_code 13 = .ok (.if_icmp .ge 46, 3) := by decide +kernel
theorem d_Quern_lowestKin_16 : decode prog_6_method_21_code 16 = .ok (.iconst 0, 1) := by decide +kernel
theorem d_Quern_lowestKin_17 : decode prog_6_method_21_code 17 = .ok (.istore 5, 2) := by decide +kernel
theorem d_Quern_lowestKin_19 : decode prog_6_method_21_code 19 = .ok (.iload 5, 2) := by decide +kernel
theorem d_Quern_lowestKin_21 : decode prog_6_method_21_code 21 = .ok (.aload_n 0, 1) := by decide +kernel
theorem d_Quern_lowestKin_22 : decode prog_6_method_21_code 22 = .ok (.getfield 44, 3) := by decide +kernel
theorem d_Quern_lowestKin_25 : decode prog_6_method_21_code 25 = .ok (.if_icmp .ge 28, 3) := by decide +kernel
theorem d_Quern_lowestKin_28 : decode prog_6_method_21_code 28 = .ok (.iload_n 3, 1) := by decide +kernel
theorem d_Quern_lowestKin_29 : decode prog_6_method_21_code 29 = .ok (.iload 5, 2) := by decide +kernel
theorem d_Quern_lowestKin_31 : decode prog_6_method_21_code 31 = .ok (.ishr, 1) := by decide +kernel
theorem d_Quern_lowestKin_32 : decode prog_6_method_21_code 32 = .ok (.iconst 1, 1) := by decide +kernel
theorem d_Quern_lowestKin_33 : decode prog_6_method_21_code 33 = .ok (.iand, 1) := by decide +kernel
theorem d_Quern_lowestKin_34 : decode prog_6_method_21_code 34 = .ok (.ifCond .eq 13, 3) := by decide +kernel
theorem d_Quern_lowestKin_37 : decode prog_6_method_21_code 37 = .ok (.iload_n 3, 1) := by decide +kernel
theorem d_Quern_lowestKin_38 : decode prog_6_method_21_code 38 = .ok (.aload_n 0, 1) := by decide +kernel
theorem d_Quern_lowestKin_39 : decode prog_6_method_21_code 39 = .ok (.iload 5, 2) := by decide +kernel
theorem d_Quern_lowestKin_41 : decode prog_6_method_21_code 41 = .ok (.iload_n 2, 1) := by decide +kernel
theorem d_Quern_lowestKin_42 : decode prog_6_method_21_code 42 = .ok (.invokevirtual 130, 3) := by decide +kernel
theorem d_Quern_lowestKin_45 : decode prog_6_method_21_code 45 = .ok (.ior, 1) := by decide +kernel
theorem d_Quern_lowestKin_46 : decode prog_6_method_21_code 46 = .ok (.istore_n 3, 1) := by decide +kernel
theorem d_Quern_lowestKin_47 : decode prog_6_method_21_code 47 = .ok (.iinc 5 1, 3) := by decide +kernel
theorem d_Quern_lowestKin_50 : decode prog_6_method_21_code 50 = .ok (.goto (-31), 3) := by decide +kernel
theorem d_Quern_lowestKin_53 : decode prog_6_method_21_code 53 = .ok (.iinc 4 1, 3) := by decide +kernel
theorem d_Quern_lowestKin_56 : decode prog_6_method_21_code 56 = .ok (.goto (-49), 3) := by decide +kernel
theorem d_Quern_lowestKin_59 : decode prog_6_method_21_code 59 = .ok (.iload_n 3, 1) := by decide +kernel
theorem d_Quern_lowestKin_60 : decode prog_6_method_21_code 60 = .ok (.invokestatic 133, 3) := by decide +kernel
theorem d_Quern_lowestKin_63 : decode prog_6_method_21_code 63 = .ok (.ireturn, 1) := by decide +kernel
theorem d_Quern_kinsOf_0 : decode prog_6_method_20_code 0 = .ok (.iconst 0, 1) := by decide +kernel
theorem d_Quern_kinsOf_1 : decode prog_6_method_20_code 1 = .ok (.istore_n 2, 1) := by decide +kernel
theorem d_Quern_kinsOf_2 : decode prog_6_method_20_code 2 = .ok (.iconst 0, 1) := by decide +kernel
theorem d_Quern_kinsOf_3 : decode prog_6_method_20_code 3 = .ok (.istore_n 3, 1) := by decide +kernel
theorem d_Quern_kinsOf_4 : decode prog_6_method_20_code 4 = .ok (.iload_n 3, 1) := by decide +kernel
theorem d_Quern_kinsOf_5 : decode prog_6_method_20_code 5 = .ok (.aload_n 0, 1) := by decide +kernel
theorem d_Quern_kinsOf_6 : decode prog_6_method_20_code 6 = .ok (.getfield 44, 3) := by decide +kernel
theorem d_Quern_kinsOf_9 : decode prog_6_method_20_code 9 = .ok (.if_icmp .ge 22, 3) := by decide +kernel
theorem d_Quern_kinsOf_12 : decode prog_6_method_20_code 12 = .ok (.aload_n 0, 1) := by decide +kernel
theorem d_Quern_kinsOf_13 : decode prog_6_method_20_code 13 = .ok (.iload_n 3, 1) := by decide +kernel
theorem d_Quern_kinsOf_14 : decode prog_6_method_20_code 14 = .ok (.iload_n 1, 1) := by decide +kernel
theorem d_Quern_kinsOf_15 : decode prog_6_method_20_code 15 = .ok (.invokevirtual 127, 3) := by decide +kernel
theorem d_Quern_kinsOf_18 : decode prog_6_method_20_code 18 = .ok (.iload_n 3, 1) := by decide +kernel
theorem d_Quern_kinsOf_19 : decode prog_6_method_20_code 19 = .ok (.if_icmp .ne 6, 3) := by decide +kernel
theorem d_Quern_kinsOf_22 : decode prog_6_method_20_code 22 = .ok (.iinc 2 1, 3) := by decide +kernel
theorem d_Quern_kinsOf_25 : decode prog_6_method_20_code 25 = .ok (.iinc 3 1, 3) := by decide +kernel
theorem d_Quern_kinsOf_28 : decode prog_6_method_20_code 28 = .ok (.goto (-24), 3) := by decide +kernel
theorem d_Quern_kinsOf_31 : decode prog_6_method_20_code 31 = .ok (.iload_n 2, 1) := by decide +kernel
theorem d_Quern_kinsOf_32 : decode prog_6_method_20_code 32 = .ok (.ireturn, 1) := by decide +kernel
theorem d_Main_kin_0 : decode prog_1_method_15_code 0 = .ok (.iload_n 1, 1) := by decide +kernel
theorem d_Main_kin_1 : decode prog_1_method_15_code 1 = .ok (.iconst 0, 1) := by decide +kernel
theorem d_Main_kin_2 : decode prog_1_method_15_code 2 = .ok (.sipush 200, 3) := by decide +kernel
theorem d_Main_kin_5 : decode prog_1_method_15_code 5 = .ok (.invokestatic 61, 3) := by decide +kernel
theorem d_Main_kin_8 : decode prog_1_method_15_code 8 = .ok (.ifCond .eq 19, 3) := by decide +kernel
theorem d_Main_kin_11 : decode prog_1_method_15_code 11 = .ok (.iload_n 2, 1) := by decide +kernel
theorem d_Main_kin_12 : decode prog_1_method_15_code 12 = .ok (.iconst (-1), 1) := by decide +kernel
theorem d_Main_kin_13 : decode prog_1_method_15_code 13 = .ok (.if_icmp .eq 16, 3) := by decide +kernel
theorem d_Main_kin_16 : decode prog_1_method_15_code 16 = .ok (.aload_n 0, 1) := by decide +kernel
theorem d_Main_kin_17 : decode prog_1_method_15_code 17 = .ok (.getfield 51, 3) := by decide +kernel
theorem d_Main_kin_20 : decode prog_1_method_15_code 20 = .ok (.iload_n 2, 1) := by decide +kernel
theorem d_Main_kin_21 : decode prog_1_method_15_code 21 = .ok (.invokevirtual 110, 3) := by decide +kernel
theorem d_Main_kin_24 : decode prog_1_method_15_code 24 = .ok (.ifCond .ne 5, 3) := by decide +kernel
theorem d_Main_kin_27 : decode prog_1_method_15_code 27 = .ok (.iconst (-1), 1) := by decide +kernel
theorem d_Main_kin_28 : decode prog_1_method_15_code 28 = .ok (.ireturn, 1) := by decide +kernel
theorem d_Main_kin_29 : decode prog_1_method_15_code 29 = .ok (.iload_n 2, 1) := by decide +kernel
theorem d_Main_kin_30 : decode prog_1_method_15_code 30 = .ok (.iconst (-1), 1) := by decide +kernel
theorem d_Main_kin_31 : decode prog_1_method_15_code 31 = .ok (.if_icmp .ne 14, 3) := by decide +kernel
theorem d_Main_kin_34 : decode prog_1_method_15_code 34 = .ok (.aload_n 0, 1) := by decide +kernel
theorem d_Main_kin_35 : decode prog_1_method_15_code 35 = .ok (.getfield 51, 3) := by decide +kernel
theorem d_Main_kin_38 : decode prog_1_method_15_code 38 = .ok (.iload_n 1, 1) := by decide +kernel
theorem d_Main_kin_39 : decode prog_1_method_15_code 39 = .ok (.invokevirtual 162, 3) := by decide +kernel
theorem d_Main_kin_42 : decode prog_1_method_15_code 42 = .ok (.goto 12, 3) := by decide +kernel
theorem d_Main_kin_45 : decode prog_1_method_15_code 45 = .ok (.aload_n 0, 1) := by decide +kernel
theorem d_Main_kin_46 : decode prog_1_method_15_code 46 = .ok (.getfield 51, 3) := by decide +kernel
theorem d_Main_kin_49 : decode prog_1_method_15_code 49 = .ok (.iload_n 2, 1) := by decide +kernel
theorem d_Main_kin_50 : decode prog_1_method_15_code 50 = .ok (.iload_n 1, 1) := by decide +kernel
theorem d_Main_kin_51 : decode prog_1_method_15_code 51 = .ok (.invokevirtual 166, 3) := by decide +kernel
theorem d_Main_kin_54 : decode prog_1_method_15_code 54 = .ok (.ireturn, 1) := by decide +kernel
theorem d_Quern_likeCooked_0 : decode prog_6_method_23_code 0 = .ok (.iconst 0, 1) := by decide +kernel
theorem d_Quern_likeCooked_1 : decode prog_6_method_23_code 1 = .ok (.istore_n 3, 1) := by decide +kernel
theorem d_Quern_likeCooked_2 : decode prog_6_method_23_code 2 = .ok (.iconst 1, 1) := by decide +kernel
theorem d_Quern_likeCooked_3 : decode prog_6_method_23_code 3 = .ok (.istore 4, 2) := by decide +kernel
theorem d_Quern_likeCooked_5 : decode prog_6_method_23_code 5 = .ok (.iload 4, 2) := by decide +kernel
theorem d_Quern_likeCooked_7 : decode prog_6_method_23_code 7 = .ok (.aload_n 0, 1) := by decide +kernel
theorem d_Quern_likeCooked_8 : decode prog_6_method_23_code 8 = .ok (.getfield 44, 3) := by decide +kernel
theorem d_Quern_likeCooked_11 : decode prog_6_method_23_code 11 = .ok (.if_icmp .ge 30, 3) := by decide +kernel
theorem d_Quern_likeCooked_14 : decode prog_6_method_23_code 14 = .ok (.aload_n 0, 1) := by decide +kernel
theorem d_Quern_likeCooked_15 : decode prog_6_method_23_code 15 = .ok (.iload_n 1, 1) := by decide +kernel
theorem d_Quern_likeCooked_16 : decode prog_6_method_23_code 16 = .ok (.iload_n 2, 1) := by decide +kernel
theorem d_Quern_likeCooked_17 : decode prog_6_method_23_code 17 = .ok (.iload 4, 2) := by decide +kernel
theorem d_Quern_likeCooked_19 : decode prog_6_method_23_code 19 = .ok (.invokevirtual 139, 3) := by decide +kernel
theorem d_Quern_likeCooked_22 : decode prog_6_method_23_code 22 = .ok (.aload_n 0, 1) := by decide +kernel
theorem d_Quern_likeCooked_23 : decode prog_6_method_23_code 23 = .ok (.iload_n 1, 1) := by decide +kernel
theorem d_Quern_likeCooked_24 : decode prog_6_method_23_code 24 = .ok (.iload_n 2, 1) := by decide +kernel
theorem d_Quern_likeCooked_25 : decode prog_6_method_23_code 25 = .ok (.iload_n 3, 1) := by decide +kernel
theorem d_Quern_likeCooked_26 : decode prog_6_method_23_code 26 = .ok (.invokevirtual 139, 3) := by decide +kernel
theorem d_Quern_likeCooked_29 : decode prog_6_method_23_code 29 = .ok (.if_icmp .ge 6, 3) := by decide +kernel
theorem d_Quern_likeCooked_32 : decode prog_6_method_23_code 32 = .ok (.iload 4, 2) := by decide +kernel
theorem d_Quern_likeCooked_34 : decode prog_6_method_23_code 34 = .ok (.istore_n 3, 1) := by decide +kernel
theorem d_Quern_likeCooked_35 : decode prog_6_method_23_code 35 = .ok (.iinc 4 1, 3) := by decide +kernel
theorem d_Quern_likeCooked_38 : decode prog_6_method_23_code 38 = .ok (.goto (-33), 3) := by decide +kernel
theorem d_Quern_likeCooked_41 : decode prog_6_method_23_code 41 = .ok (.iload_n 3, 1) := by decide +kernel
theorem d_Quern_likeCooked_42 : decode prog_6_method_23_code 42 = .ok (.ireturn, 1) := by decide +kernel
theorem d_Main_cooked_0 : decode prog_1_method_16_code 0 = .ok (.aload_n 0, 1) := by decide +kernel
theorem d_Main_cooked_1 : decode prog_1_method_16_code 1 = .ok (.getfield 51, 3) := by decide +kernel
theorem d_Main_cooked_4 : decode prog_1_method_16_code 4 = .ok (.iload_n 1, 1) := by decide +kernel
theorem d_Main_cooked_5 : decode prog_1_method_16_code 5 = .ok (.invokevirtual 110, 3) := by decide +kernel
theorem d_Main_cooked_8 : decode prog_1_method_16_code 8 = .ok (.ifCond .eq 22, 3) := by decide +kernel
theorem d_Main_cooked_11 : decode prog_1_method_16_code 11 = .ok (.iload_n 2, 1) := by decide +kernel
theorem d_Main_cooked_12 : decode prog_1_method_16_code 12 = .ok (.iconst 0, 1) := by decide +kernel
theorem d_Main_cooked_13 : decode prog_1_method_16_code 13 = .ok (.bipush 100, 2) := by decide +kernel
theorem d_Main_cooked_15 : decode prog_1_method_16_code 15 = .ok (.invokestatic 61, 3) := by decide +kernel
theorem d_Main_cooked_18 : decode prog_1_method_16_code 18 = .ok (.ifCond .eq 12, 3) := by decide +kernel
theorem d_Main_cooked_21 : decode prog_1_method_16_code 21 = .ok (.iload_n 3, 1) := by decide +kernel
theorem d_Main_cooked_22 : decode prog_1_method_16_code 22 = .ok (.iconst 0, 1) := by decide +kernel
theorem d_Main_cooked_23 : decode prog_1_method_16_code 23 = .ok (.iconst 4, 1) := by decide +kernel
theorem d_Main_cooked_24 : decode prog_1_method_16_code 24 = .ok (.invokestatic 61, 3) := by decide +kernel
theorem d_Main_cooked_27 : decode prog_1_method_16_code 27 = .ok (.ifCond .ne 5, 3) := by decide +kernel
theorem d_Main_cooked_30 : decode prog_1_method_16_code 30 = .ok (.iconst (-1), 1) := by decide +kernel
theorem d_Main_cooked_31 : decode prog_1_method_16_code 31 = .ok (.ireturn, 1) := by decide +kernel
theorem d_Main_cooked_32 : decode prog_1_method_16_code 32 = .ok (.iload_n 3, 1) := by decide +kernel
theorem d_Main_cooked_33 : decode prog_1_method_16_code 33 = .ok (.iconst 4, 1) := by decide +kernel
theorem d_Main_cooked_34 : decode prog_1_method_16_code 34 = .ok (.if_icmp .ne 15, 3) := by decide +kernel
theorem d_Main_cooked_37 : decode prog_1_method_16_code 37 = .ok (.aload_n 0, 1) := by decide +kernel
theorem d_Main_cooked_38 : decode prog_1_method_16_code 38 = .ok (.getfield 51, 3) := by decide +kernel
theorem d_Main_cooked_41 : decode prog_1_method_16_code 41 = .ok (.iload_n 1, 1) := by decide +kernel
theorem d_Main_cooked_42 : decode prog_1_method_16_code 42 = .ok (.iload_n 2, 1) := by decide +kernel
theorem d_Main_cooked_43 : decode prog_1_method_16_code 43 = .ok (.invokevirtual 169, 3) := by decide +kernel
theorem d_Main_cooked_46 : decode prog_1_method_16_code 46 = .ok (.goto 13, 3) := by decide +kernel
theorem d_Main_cooked_49 : decode prog_1_method_16_code 49 = .ok (.aload_n 0, 1) := by decide +kernel
theorem d_Main_cooked_50 : decode prog_1_method_16_code 50 = .ok (.getfield 51, 3) := by decide +kernel
theorem d_Main_cooked_53 : decode prog_1_method_16_code 53 = .ok (.iload_n 1, 1) := by decide +kernel
theorem d_Main_cooked_54 : decode prog_1_method_16_code 54 = .ok (.iload_n 2, 1) := by decide +kernel
theorem d_Main_cooked_55 : decode prog_1_method_16_code 55 = .ok (.iload_n 3, 1) := by decide +kernel
theorem d_Main_cooked_56 : decode prog_1_method_16_code 56 = .ok (.invokevirtual 172, 3) := by decide +kernel
theorem d_Main_cooked_59 : decode prog_1_method_16_code 59 = .ok (.ireturn, 1) := by decide +kernel
theorem d_Finds_tell_0 : decode prog_3_method_5_code 0 = .ok (.aload_n 0, 1) := by decide +kernel
theorem d_Finds_tell_1 : decode prog_3_method_5_code 1 = .ok (.getfield 11, 3) := by decide +kernel
theorem d_Finds_tell_4 : decode prog_3_method_5_code 4 = .ok (.iload_n 1, 1) := by decide +kernel
theorem d_Finds_tell_5 : decode prog_3_method_5_code 5 = .ok (.aaload, 1) := by decide +kernel
theorem d_Finds_tell_6 : decode prog_3_method_5_code 6 = .ok (.iload_n 2, 1) := by decide +kernel
theorem d_Finds_tell_7 : decode prog_3_method_5_code 7 = .ok (.iaload, 1) := by decide +kernel
theorem d_Finds_tell_8 : decode prog_3_method_5_code 8 = .ok (.istore 4, 2) := by decide +kernel
theorem d_Finds_tell_10 : decode prog_3_method_5_code 10 = .ok (.aload_n 0, 1) := by decide +kernel
theorem d_Finds_tell_11 : decode prog_3_method_5_code 11 = .ok (.getfield 11, 3) := by decide +kernel
theorem d_Finds_tell_14 : decode prog_3_method_5_code 14 = .ok (.iload_n 1, 1) := by decide +kernel
theorem d_Finds_tell_15 : decode prog_3_method_5_code 15 = .ok (.aaload, 1) := by decide +kernel
theorem d_Finds_tell_16 : decode prog_3_method_5_code 16 = .ok (.iload_n 2, 1) := by decide +kernel
theorem d_Finds_tell_17 : decode prog_3_method_5_code 17 = .ok (.iload_n 3, 1) := by decide +kernel
theorem d_Finds_tell_18 : decode prog_3_method_5_code 18 = .ok (.iastore, 1) := by decide +kernel
theorem d_Finds_tell_19 : decode prog_3_method_5_code 19 = .ok (.aload_n 0, 1) := by decide +kernel
theorem d_Finds_tell_20 : decode prog_3_method_5_code 20 = .ok (.dup, 1) := by decide +kernel
theorem d_Finds_tell_21 : decode prog_3_method_5_code 21 = .ok (.getfield 25, 3) := by decide +kernel
theorem d_Finds_tell_24 : decode prog_3_method_5_code 24 = .ok (.iconst 1, 1) := by decide +kernel
theorem d_Finds_tell_25 : decode prog_3_method_5_code 25 = .ok (.iload_n 1, 1) := by decide +kernel
theorem d_Finds_tell_26 : decode prog_3_method_5_code 26 = .ok (.ishl, 1) := by decide +kernel
theorem d_Finds_tell_27 : decode prog_3_method_5_code 27 = .ok (.ior, 1) := by decide +kernel
theorem d_Finds_tell_28 : decode prog_3_method_5_code 28 = .ok (.putfield 25, 3) := by decide +kernel
theorem d_Finds_tell_31 : decode prog_3_method_5_code 31 = .ok (.iload 4, 2) := by decide +kernel
theorem d_Finds_tell_33 : decode prog_3_method_5_code 33 = .ok (.ireturn, 1) := by decide +kernel
theorem d_Main_count_0 : decode prog_1_method_17_code 0 = .ok (.aload_n 0, 1) := by decide +kernel
theorem d_Main_count_1 : decode prog_1_method_17_code 1 = .ok (.getfield 51, 3) := by decide +kernel
theorem d_Main_count_4 : decode prog_1_method_17_code 4 = .ok (.iload_n 1, 1) := by decide +kernel
theorem d_Main_count_5 : decode prog_1_method_17_code 5 = .ok (.invokevirtual 90, 3) := by decide +kernel
theorem d_Main_count_8 : decode prog_1_method_17_code 8 = .ok (.ifCond .eq 24, 3) := by decide +kernel
theorem d_Main_count_11 : decode prog_1_method_17_code 11 = .ok (.aload_n 0, 1) := by decide +kernel
theorem d_Main_count_12 : decode prog_1_method_17_code 12 = .ok (.getfield 51, 3) := by decide +kernel
theorem d_Main_count_15 : decode prog_1_method_17_code 15 = .ok (.iload_n 2, 1) := by decide +kernel
theorem d_Main_count_16 : decode prog_1_method_17_code 16 = .ok (.invokevirtual 110, 3) := by decide +kernel
theorem d_Main_count_19 : decode prog_1_method_17_code 19 = .ok (.ifCond .eq 13, 3) := by decide +kernel
theorem d_Main_count_22 : decode prog_1_method_17_code 22 = .ok (.iload_n 3, 1) := by decide +kernel
theorem d_Main_count_23 : decode prog_1_method_17_code 23 = .ok (.iconst 0, 1) := by decide +kernel
theorem d_Main_count_24 : decode prog_1_method_17_code 24 = .ok (.bipush 99, 2) := by decide +kernel
theorem d_Main_count_26 : decode prog_1_method_17_code 26 = .ok (.invokestatic 61, 3) := by decide +kernel
theorem d_Main_count_29 : decode prog_1_method_17_code 29 = .ok (.ifCond .ne 5, 3) := by decide +kernel
theorem d_Main_count_32 : decode prog_1_method_17_code 32 = .ok (.iconst (-1), 1) := by decide +kernel
theorem d_Main_count_33 : decode prog_1_method_17_code 33 = .ok (.ireturn, 1) := by decide +kernel
theorem d_Main_count_34 : decode prog_1_method_17_code 34 = .ok (.aload_n 0, 1) := by decide +kernel
theorem d_Main_count_35 : decode prog_1_method_17_code 35 = .ok (.getfield 40, 3) := by decide +kernel
theorem d_Main_count_38 : decode prog_1_method_17_code 38 = .ok (.iload_n 1, 1) := by decide +kernel
theorem d_Main_count_39 : decode prog_1_method_17_code 39 = .ok (.iload_n 2, 1) := by decide +kernel
theorem d_Main_count_40 : decode prog_1_method_17_code 40 = .ok (.iload_n 3, 1) := by decide +kernel
theorem d_Main_count_41 : decode prog_1_method_17_code 41 = .ok (.invokevirtual 175, 3) := by decide +kernel
theorem d_Main_count_44 : decode prog_1_method_17_code 44 = .ok (.ireturn, 1) := by decide +kernel
theorem d_Main_isDoubt_0 : decode prog_1_method_35_code 0 = .ok (.iload_n 0, 1) := by decide +kernel
theorem d_Main_isDoubt_1 : decode prog_1_method_35_code 1 = .ok (.iconst 0, 1) := by decide +kernel
theorem d_Main_isDoubt_2 : decode prog_1_method_35_code 2 = .ok (.bipush 99, 2) := by decide +kernel
theorem d_Main_isDoubt_4 : decode prog_1_method_35_code 4 = .ok (.invokestatic 61, 3) := by decide +kernel
theorem d_Main_isDoubt_7 : decode prog_1_method_35_code 7 = .ok (.ireturn, 1) := by decide +kernel
theorem d_Math_max_0 : decode prog_12_method_65_code 0 = .ok (.iload_n 0, 1) := by decide +kernel
theorem d_Math_max_1 : decode prog_12_method_65_code 1 = .ok (.iload_n 1, 1) := by decide +kernel
theorem d_Math_max_2 : decode prog_12_method_65_code 2 = .ok (.if_icmp .lt 7, 3) := by decide +kernel
theorem d_Math_max_5 : decode prog_12_method_65_code 5 = .ok (.iload_n 0, 1) := by decide +kernel
theorem d_Math_max_6 : decode prog_12_method_65_code 6 = .ok (.goto 4, 3) := by decide +kernel
theorem d_Math_max_9 : decode prog_12_method_65_code 9 = .ok (.iload_n 1, 1) := by decide +kernel
theorem d_Math_max_10 : decode prog_12_method_65_code 10 = .ok (.ireturn, 1) := by decide +kernel
theorem d_Math_min_0 : decode prog_12_method_69_code 0 = .ok (.iload_n 0, 1) := by decide +kernel
theorem d_Math_min_1 : decode prog_12_method_69_code 1 = .ok (.iload_n 1, 1) := by decide +kernel
theorem d_Math_min_2 : decode prog_12_method_69_code 2 = .ok (.if_icmp .gt 7, 3) := by decide +kernel
theorem d_Math_min_5 : decode prog_12_method_69_code 5 = .ok (.iload_n 0, 1) := by decide +kernel
theorem d_Math_min_6 : decode prog_12_method_69_code 6 = .ok (.goto 4, 3) := by decide +kernel
theorem d_Math_min_9 : decode prog_12_method_69_code 9 = .ok (.iload_n 1, 1) := by decide +kernel
theorem d_Math_min_10 : decode prog_12_method_69_code 10 = .ok (.ireturn, 1) := by decide +kernel
theorem d_Integer_bitCount_0 : decode prog_11_method_49_code 0 = .ok (.iload_n 0, 1) := by decide +kernel
theorem d_Integer_bitCount_1 : decode prog_11_method_49_code 1 = .ok (.iload_n 0, 1) := by decide +kernel
theorem d_Integer_bitCount_2 : decode prog_11_method_49_code 2 = .ok (.iconst 1, 1) := by decide +kernel
theorem d_Integer_bitCount_3 : decode prog_11_method_49_code 3 = .ok (.iushr, 1) := by decide +kernel
theorem d_Integer_bitCount_4 : decode prog_11_method_49_code 4 = .ok (.ldc_w 265, 3) := by decide +kernel
theorem d_Integer_bitCount_7 : decode prog_11_method_49_code 7 = .ok (.iand, 1) := by decide +kernel
theorem d_Integer_bitCount_8 : decode prog_11_method_49_code 8 = .ok (.isub, 1) := by decide +kernel
theorem d_Integer_bitCount_9 : decode prog_11_method_49_code 9 = .ok (.istore_n 0, 1) := by decide +kernel
theorem d_Integer_bitCount_10 : decode prog_11_method_49_code 10 = .ok (.iload_n 0, 1) := by decide +kernel
theorem d_Integer_bitCount_11 : decode prog_11_method_49_code 11 = .ok (.ldc_w 266, 3) := by decide +kernel
theorem d_Integer_bitCount_14 : decode prog_11_method_49_code 14 = .ok (.iand, 1) := by decide +kernel
theorem d_Integer_bitCount_15 : decode prog_11_method_49_code 15 = .ok (.iload_n 0, 1) := by decide +kernel
theorem d_Integer_bitCount_16 : decode prog_11_method_49_code 16 = .ok (.iconst 2, 1) := by decide +kernel
theorem d_Integer_bitCount_17 : decode prog_11_method_49_code 17 = .ok (.iushr, 1) := by decide +kernel
theorem d_Integer_bitCount_18 : decode prog_11_method_49_code 18 = .ok (.ldc_w 266, 3) := by decide +kernel
theorem d_Integer_bitCount_21 : decode prog_11_method_49_code 21 = .ok (.iand, 1) := by decide +kernel
theorem d_Integer_bitCount_22 : decode prog_11_method_49_code 22 = .ok (.iadd, 1) := by decide +kernel
theorem d_Integer_bitCount_23 : decode prog_11_method_49_code 23 = .ok (.istore_n 0, 1) := by decide +kernel
theorem d_Integer_bitCount_24 : decode prog_11_method_49_code 24 = .ok (.iload_n 0, 1) := by decide +kernel
theorem d_Integer_bitCount_25 : decode prog_11_method_49_code 25 = .ok (.iload_n 0, 1) := by decide +kernel
theorem d_Integer_bitCount_26 : decode prog_11_method_49_code 26 = .ok (.iconst 4, 1) := by decide +kernel
theorem d_Integer_bitCount_27 : decode prog_11_method_49_code 27 = .ok (.iushr, 1) := by decide +kernel
theorem d_Integer_bitCount_28 : decode prog_11_method_49_code 28 = .ok (.iadd, 1) := by decide +kernel
theorem d_Integer_bitCount_29 : decode prog_11_method_49_code 29 = .ok (.ldc_w 267, 3) := by decide +kernel
theorem d_Integer_bitCount_32 : decode prog_11_method_49_code 32 = .ok (.iand, 1) := by decide +kernel
theorem d_Integer_bitCount_33 : decode prog_11_method_49_code 33 = .ok (.istore_n 0, 1) := by decide +kernel
theorem d_Integer_bitCount_34 : decode prog_11_method_49_code 34 = .ok (.iload_n 0, 1) := by decide +kernel
theorem d_Integer_bitCount_35 : decode prog_11_method_49_code 35 = .ok (.iload_n 0, 1) := by decide +kernel
theorem d_Integer_bitCount_36 : decode prog_11_method_49_code 36 = .ok (.bipush 8, 2) := by decide +kernel
theorem d_Integer_bitCount_38 : decode prog_11_method_49_code 38 = .ok (.iushr, 1) := by decide +kernel
theorem d_Integer_bitCount_39 : decode prog_11_method_49_code 39 = .ok (.iadd, 1) := by decide +kernel
theorem d_Integer_bitCount_40 : decode prog_11_method_49_code 40 = .ok (.istore_n 0, 1) := by decide +kernel
theorem d_Integer_bitCount_41 : decode prog_11_method_49_code 41 = .ok (.iload_n 0, 1) := by decide +kernel
theorem d_Integer_bitCount_42 : decode prog_11_method_49_code 42 = .ok (.iload_n 0, 1) := by decide +kernel
theorem d_Integer_bitCount_43 : decode prog_11_method_49_code 43 = .ok (.bipush 16, 2) := by decide +kernel
theorem d_Integer_bitCount_45 : decode prog_11_method_49_code 45 = .ok (.iushr, 1) := by decide +kernel
theorem d_Integer_bitCount_46 : decode prog_11_method_49_code 46 = .ok (.iadd, 1) := by decide +kernel
theorem d_Integer_bitCount_47 : decode prog_11_method_49_code 47 = .ok (.istore_n 0, 1) := by decide +kernel
theorem d_Integer_bitCount_48 : decode prog_11_method_49_code 48 = .ok (.iload_n 0, 1) := by decide +kernel
theorem d_Integer_bitCount_49 : decode prog_11_method_49_code 49 = .ok (.bipush 63, 2) := by decide +kernel
theorem d_Integer_bitCount_51 : decode prog_11_method_49_code 51 = .ok (.iand, 1) := by decide +kernel
theorem d_Integer_bitCount_52 : decode prog_11_method_49_code 52 = .ok (.ireturn, 1) := by decide +kernel
theorem d_Books_boundSum_0 : decode prog_2_method_4_code 0 = .ok (.iconst 0, 1) := by decide +kernel
theorem d_Books_boundSum_1 : decode prog_2_method_4_code 1 = .ok (.istore 5, 2) := by decide +kernel
theorem d_Books_boundSum_3 : decode prog_2_method_4_code 3 = .ok (.iload 5, 2) := by decide +kernel
theorem d_Books_boundSum_5 : decode prog_2_method_4_code 5 = .ok (.bipush 36, 2) := by decide +kernel
theorem d_Books_boundSum_7 : decode prog_2_method_4_code 7 = .ok (.if_icmp .gt 20, 3) := by decide +kernel
theorem d_Books_boundSum_10 : decode prog_2_method_4_code 10 = .ok (.iload 5, 2) := by decide +kernel
theorem d_Books_boundSum_12 : decode prog_2_method_4_code 12 = .ok (.iload_n 2, 1) := by decide +kernel
theorem d_Books_boundSum_13 : decode prog_2_method_4_code 13 = .ok (.imul, 1) := by decide +kernel
theorem d_Books_boundSum_14 : decode prog_2_method_4_code 14 = .ok (.iload_n 3, 1) := by decide +kernel
theorem d_Books_boundSum_15 : decode prog_2_method_4_code 15 = .ok (.iload 4, 2) := by decide +kernel
theorem d_Books_boundSum_17 : decode prog_2_method_4_code 17 = .ok (.isub, 1) := by decide +kernel
theorem d_Books_boundSum_18 : decode prog_2_method_4_code 18 = .ok (.if_icmp .ge 9, 3) := by decide +kernel
theorem d_Books_boundSum_21 : decode prog_2_method_4_code 21 = .ok (.iinc 5 1, 3) := by decide +kernel
theorem d_Books_boundSum_24 : decode prog_2_method_4_code 24 = .ok (.goto (-21), 3) := by decide +kernel
theorem d_Books_boundSum_27 : decode prog_2_method_4_code 27 = .ok (.bipush 36, 2) := by decide +kernel
theorem d_Books_boundSum_29 : decode prog_2_method_4_code 29 = .ok (.istore 6, 2) := by decide +kernel
theorem d_Books_boundSum_31 : decode prog_2_method_4_code 31 = .ok (.iload 6, 2) := by decide +kernel
theorem d_Books_boundSum_33 : decode prog_2_method_4_code 33 = .ok (.ifCond .lt 20, 3) := by decide +kernel
theorem d_Books_boundSum_36 : decode prog_2_method_4_code 36 = .ok (.iload 6, 2) := by decide +kernel
theorem d_Books_boundSum_38 : decode prog_2_method_4_code 38 = .ok (.iload_n 2, 1) := by decide +kernel
theorem d_Books_boundSum_39 : decode prog_2_method_4_code 39 = .ok (.imul, 1) := by decide +kernel
theorem d_Books_boundSum_40 : decode prog_2_method_4_code 40 = .ok (.iload_n 3, 1) := by decide +kernel
theorem d_Books_boundSum_41 : decode prog_2_method_4_code 41 = .ok (.iload 4, 2) := by decide +kernel
theorem d_Books_boundSum_43 : decode prog_2_method_4_code 43 = .ok (.iadd, 1) := by decide +kernel
theorem d_Books_boundSum_44 : decode prog_2_method_4_code 44 = .ok (.if_icmp .le 9, 3) := by decide +kernel
theorem d_Books_boundSum_47 : decode prog_2_method_4_code 47 = .ok (.iinc 6 (-1), 3) := by decide +kernel
theorem d_Books_boundSum_50 : decode prog_2_method_4_code 50 = .ok (.goto (-19), 3) := by decide +kernel
theorem d_Books_boundSum_53 : decode prog_2_method_4_code 53 = .ok (.aload_n 0, 1) := by decide +kernel
theorem d_Books_boundSum_54 : decode prog_2_method_4_code 54 = .ok (.getfield 11, 3) := by decide +kernel
theorem d_Books_boundSum_57 : decode prog_2_method_4_code 57 = .ok (.iload_n 1, 1) := by decide +kernel
theorem d_Books_boundSum_58 : decode prog_2_method_4_code 58 = .ok (.aload_n 0, 1) := by decide +kernel
theorem d_Books_boundSum_59 : decode prog_2_method_4_code 59 = .ok (.getfield 11, 3) := by decide +kernel
theorem d_Books_boundSum_62 : decode prog_2_method_4_code 62 = .ok (.iload_n 1, 1) := by decide +kernel
theorem d_Books_boundSum_63 : decode prog_2_method_4_code 63 = .ok (.iaload, 1) := by decide +kernel
theorem d_Books_boundSum_64 : decode prog_2_method_4_code 64 = .ok (.iload 5, 2) := by decide +kernel
theorem d_Books_boundSum_66 : decode prog_2_method_4_code 66 = .ok (.invokestatic 91, 3) := by decide +kernel
theorem d_Books_boundSum_69 : decode prog_2_method_4_code 69 = .ok (.iastore, 1) := by decide +kernel
theorem d_Books_boundSum_70 : decode prog_2_method_4_code 70 = .ok (.aload_n 0, 1) := by decide +kernel
theorem d_Books_boundSum_71 : decode prog_2_method_4_code 71 = .ok (.getfield 15, 3) := by decide +kernel
theorem d_Books_boundSum_74 : decode prog_2_method_4_code 74 = .ok (.iload_n 1, 1) := by decide +kernel
theorem d_Books_boundSum_75 : decode prog_2_method_4_code 75 = .ok (.aload_n 0, 1) := by decide +kernel
theorem d_Books_boundSum_76 : decode prog_2_method_4_code 76 = .ok (.getfield 15, 3) := by decide +kernel
theorem d_Books_boundSum_79 : decode prog_2_method_4_code 79 = .ok (.iload_n 1, 1) := by decide +kernel
theorem d_Books_boundSum_80 : decode prog_2_method_4_code 80 = .ok (.iaload, 1) := by decide +kernel
theorem d_Books_boundSum_81 : decode prog_2_method_4_code 81 = .ok (.iload 6, 2) := by decide +kernel
theorem d_Books_boundSum_83 : decode prog_2_method_4_code 83 = .ok (.invokestatic 97, 3) := by decide +kernel
theorem d_Books_boundSum_86 : decode prog_2_method_4_code 86 = .ok (.iastore, 1) := by decide +kernel
theorem d_Books_boundSum_87 : decode prog_2_method_4_code 87 = .ok (.iload 5, 2) := by decide +kernel
theorem d_Books_boundSum_89 : decode prog_2_method_4_code 89 = .ok (.ifCond .gt 15, 3) := by decide +kernel
theorem d_Books_boundSum_92 : decode prog_2_method_4_code 92 = .ok (.iload 6, 2) := by decide +kernel
theorem d_Books_boundSum_94 : decode prog_2_method_4_code 94 = .ok (.bipush 9, 2) := by decide +kernel
theorem d_Books_boundSum_96 : decode prog_2_method_4_code 96 = .ok (.iload_n 1, 1) := by decide +kernel
theorem d_Books_boundSum_97 : decode prog_2_method_4_code 97 = .ok (.invokestatic 100, 3) := by decide +kernel
theorem d_Books_boundSum_100 : decode prog_2_method_4_code 100 = .ok (.imul, 1) := by decide +kernel
theorem d_Books_boundSum_101 : decode prog_2_method_4_code 101 = .ok (.if_icmp .ge 13, 3) := by decide +kernel
theorem d_Books_boundSum_104 : decode prog_2_method_4_code 104 = .ok (.aload_n 0, 1) := by decide +kernel
theorem d_Books_boundSum_105 : decode prog_2_method_4_code 105 = .ok (.dup, 1) := by decide +kernel
theorem d_Books_boundSum_106 : decode prog_2_method_4_code 106 = .ok (.getfield 60, 3) := by decide +kernel
theorem d_Books_boundSum_109 : decode prog_2_method_4_code 109 = .ok (.iload_n 1, 1) := by decide +kernel
theorem d_Books_boundSum_110 : decode prog_2_method_4_code 110 = .ok (.ior, 1) := by decide +kernel
theorem d_Books_boundSum_111 : decode prog_2_method_4_code 111 = .ok (.putfield 60, 3) := by decide +kernel
theorem d_Books_boundSum_114 : decode prog_2_method_4_code 114 = .ok (.return_, 1) := by decide +kernel
theorem d_Books_boundSums_0 : decode prog_2_method_3_code 0 = .ok (.aload_n 0, 1) := by decide +kernel
theorem d_Books_boundSums_1 : decode prog_2_method_3_code 1 = .ok (.getfield 11, 3) := by decide +kernel
theorem d_Books_boundSums_4 : decode prog_2_method_3_code 4 = .ok (.iconst 0, 1) := by decide +kernel
theorem d_Books_boundSums_5 : decode prog_2_method_3_code 5 = .ok (.invokestatic 54, 3) := by decide +kernel
theorem d_Books_boundSums_8 : decode prog_2_method_3_code 8 = .ok (.aload_n 0, 1) := by decide +kernel
theorem d_Books_boundSums_9 : decode prog_2_method_3_code 9 = .ok (.getfield 15, 3) := by decide +kernel
theorem d_Books_boundSums_12 : decode prog_2_method_3_code 12 = .ok (.bipush 36, 2) := by decide +kernel
theorem d_Books_boundSums_14 : decode prog_2_method_3_code 14 = .ok (.invokestatic 54, 3) := by decide +kernel
theorem d_Books_boundSums_17 : decode prog_2_method_3_code 17 = .ok (.aload_n 0, 1) := by decide +kernel
theorem d_Books_boundSums_18 : decode prog_2_method_3_code 18 = .ok (.iconst 0, 1) := by decide +kernel
theorem d_Books_boundSums_19 : decode prog_2_method_3_code 19 = .ok (.putfield 60, 3) := by decide +kernel
theorem d_Books_boundSums_22 : decode prog_2_method_3_code 22 = .ok (.iconst 0, 1) := by decide +kernel
theorem d_Books_boundSums_23 : decode prog_2_method_3_code 23 = .ok (.istore 5, 2) := by decide +kernel
theorem d_Books_boundSums_25 : decode prog_2_method_3_code 25 = .ok (.iload 5, 2) := by decide +kernel
theorem d_Books_boundSums_27 : decode prog_2_method_3_code 27 = .ok (.aload_n 1, 1) := by decide +kernel
theorem d_Books_boundSums_28 : decode prog_2_method_3_code 28 = .ok (.getfield 63, 3) := by decide +kernel
theorem d_Books_boundSums_31 : decode prog_2_method_3_code 31 = .ok (.if_icmp .ge 58, 3) := by decide +kernel
theorem d_Books_boundSums_34 : decode prog_2_method_3_code 34 = .ok (.aload_n 1, 1) := by decide +kernel
theorem d_Books_boundSums_35 : decode prog_2_method_3_code 35 = .ok (.getfield 68, 3) := by decide +kernel
theorem d_Books_boundSums_38 : decode prog_2_method_3_code 38 = .ok (.iload 5, 2) := by decide +kernel
theorem d_Books_boundSums_40 : decode prog_2_method_3_code 40 = .ok (.iaload, 1) := by decide +kernel
theorem d_Books_boundSums_41 : decode prog_2_method_3_code 41 = .ok (.iconst 3, 1) := by decide +kernel
theorem d_Books_boundSums_42 : decode prog_2_method_3_code 42 = .ok (.if_icmp .ne 41, 3) := by decide +kernel
theorem d_Books_boundSums_45 : decode prog_2_method_3_code 45 = .ok (.aload_n 2, 1) := by decide +kernel
theorem d_Books_boundSums_46 : decode prog_2_method_3_code 46 = .ok (.iload 5, 2) := by decide +kernel
theorem d_Books_boundSums_48 : decode prog_2_method_3_code 48 = .ok (.invokevirtual 71, 3) := by decide +kernel
theorem d_Books_boundSums_51 : decode prog_2_method_3_code 51 = .ok (.ifCond .eq 32, 3) := by decide +kernel
theorem d_Books_boundSums_54 : decode prog_2_method_3_code 54 = .ok (.aload_n 0, 1) := by decide +kernel
theorem d_Books_boundSums_55 : decode prog_2_method_3_code 55 = .ok (.aload_n 1, 1) := by decide +kernel
theorem d_Books_boundSums_56 : decode prog_2_method_3_code 56 = .ok (.getfield 77, 3) := by decide +kernel
theorem d_Books_boundSums_59 : decode prog_2_method_3_code 59 = .ok (.iload 5, 2) := by decide +kernel
theorem d_Books_boundSums_61 : decode prog_2_method_3_code 61 = .ok (.iaload, 1) := by decide +kernel
theorem d_Books_boundSums_62 : decode prog_2_method_3_code 62 = .ok (.aload_n 1, 1) := by decide +kernel
theorem d_Books_boundSums_63 : decode prog_2_method_3_code 63 = .ok (.getfield 80, 3) := by decide +kernel
theorem d_Books_boundSums_66 : decode prog_2_method_3_code 66 = .ok (.iload 5, 2) := by decide +kernel
theorem d_Books_boundSums_68 : decode prog_2_method_3_code 68 = .ok (.iaload, 1) := by decide +kernel
theorem d_Books_boundSums_69 : decode prog_2_method_3_code 69 = .ok (.aload_n 2, 1) := by decide +kernel
theorem d_Books_boundSums_70 : decode prog_2_method_3_code 70 = .ok (.getfield 83, 3) := by decide +kernel
theorem d_Books_boundSums_73 : decode prog_2_method_3_code 73 = .ok (.iload 5, 2) := by decide +kernel
theorem d_Books_boundSums_75 : decode prog_2_method_3_code 75 = .ok (.aaload, 1) := by decide +kernel
theorem d_Books_boundSums_76 : decode prog_2_method_3_code 76 = .ok (.iload_n 3, 1) := by decide +kernel
theorem d_Books_boundSums_77 : decode prog_2_method_3_code 77 = .ok (.iaload, 1) := by decide +kernel
theorem d_Books_boundSums_78 : decode prog_2_method_3_code 78 = .ok (.iload 4, 2) := by decide +kernel
theorem d_Books_boundSums_80 : decode prog_2_method_3_code 80 = .ok (.invokevirtual 87, 3) := by decide +kernel
theorem d_Books_boundSums_83 : decode prog_2_method_3_code 83 = .ok (.iinc 5 1, 3) := by decide +kernel
theorem d_Books_boundSums_86 : decode prog_2_method_3_code 86 = .ok (.goto (-61), 3) := by decide +kernel
theorem d_Books_boundSums_89 : decode prog_2_method_3_code 89 = .ok (.return_, 1) := by decide +kernel
theorem d_Books_isFree_0 : decode prog_2_method_5_code 0 = .ok (.aload_n 0, 1) := by decide +kernel
theorem d_Books_isFree_1 : decode prog_2_method_5_code 1 = .ok (.getfield 60, 3) := by decide +kernel
theorem d_Books_isFree_4 : decode prog_2_method_5_code 4 = .ok (.iload_n 1, 1) := by decide +kernel
theorem d_Books_isFree_5 : decode prog_2_method_5_code 5 = .ok (.ishr, 1) := by decide +kernel
theorem d_Books_isFree_6 : decode prog_2_method_5_code 6 = .ok (.iconst 1, 1) := by decide +kernel
theorem d_Books_isFree_7 : decode prog_2_method_5_code 7 = .ok (.iand, 1) := by decide +kernel
theorem d_Books_isFree_8 : decode prog_2_method_5_code 8 = .ok (.ifCond .ne 7, 3) := by decide +kernel
theorem d_Books_isFree_11 : decode prog_2_method_5_code 11 = .ok (.iconst 1, 1) := by decide +kernel
theorem d_Books_isFree_12 : decode prog_2_method_5_code 12 = .ok (.goto 4, 3) := by decide +kernel
theorem d_Books_isFree_15 : decode prog_2_method_5_code 15 = .ok (.iconst 0, 1) := by decide +kernel
theorem d_Books_isFree_16 : decode prog_2_method_5_code 16 = .ok (.ireturn, 1) := by decide +kernel
theorem d_Books_greatestOf_0 : decode prog_2_method_7_code 0 = .ok (.aload_n 0, 1) := by decide +kernel
theorem d_Books_greatestOf_1 : decode prog_2_method_7_code 1 = .ok (.iload_n 1, 1) := by decide +kernel
theorem d_Books_greatestOf_2 : decode prog_2_method_7_code 2 = .ok (.invokevirtual 105, 3) := by decide +kernel
theorem d_Books_greatestOf_5 : decode prog_2_method_7_code 5 = .ok (.ifCond .eq 5, 3) := by decide +kernel
theorem d_Books_greatestOf_8 : decode prog_2_method_7_code 8 = .ok (.iconst 0, 1) := by decide +kernel
theorem d_Books_greatestOf_9 : decode prog_2_method_7_code 9 = .ok (.ireturn, 1) := by decide +kernel
theorem d_Books_greatestOf_10 : decode prog_2_method_7_code 10 = .ok (.iconst 1, 1) := by decide +kernel
theorem d_Books_greatestOf_11 : decode prog_2_method_7_code 11 = .ok (.iload_n 1, 1) := by decide +kernel
theorem d_Books_greatestOf_12 : decode prog_2_method_7_code 12 = .ok (.ishl, 1) := by decide +kernel
theorem d_Books_greatestOf_13 : decode prog_2_method_7_code 13 = .ok (.istore_n 2, 1) := by decide +kernel
theorem d_Books_greatestOf_14 : decode prog_2_method_7_code 14 = .ok (.bipush 9, 2) := by decide +kernel
theorem d_Books_greatestOf_16 : decode prog_2_method_7_code 16 = .ok (.istore_n 3, 1) := by decide +kernel
theorem d_Books_greatestOf_17 : decode prog_2_method_7_code 17 = .ok (.iconst 0, 1) := by decide +kernel
theorem d_Books_greatestOf_18 : decode prog_2_method_7_code 18 = .ok (.istore 4, 2) := by decide +kernel
theorem d_Books_greatestOf_20 : decode prog_2_method_7_code 20 = .ok (.iload 4, 2) := by decide +kernel
theorem d_Books_greatestOf_22 : decode prog_2_method_7_code 22 = .ok (.iload_n 2, 1) := by decide +kernel
theorem d_Books_greatestOf_23 : decode prog_2_method_7_code 23 = .ok (.if_icmp .ge 31, 3) := by decide +kernel
theorem d_Books_greatestOf_26 : decode prog_2_method_7_code 26 = .ok (.iload_n 3, 1) := by decide +kernel
theorem d_Books_greatestOf_27 : decode prog_2_method_7_code 27 = .ok (.aload_n 0, 1) := by decide +kernel
theorem d_Books_greatestOf_28 : decode prog_2_method_7_code 28 = .ok (.getfield 15, 3) := by decide +kernel
theorem d_Books_greatestOf_31 : decode prog_2_method_7_code 31 = .ok (.iload 4, 2) := by decide +kernel
theorem d_Books_greatestOf_33 : decode prog_2_method_7_code 33 = .ok (.iload_n 2, 1) := by decide +kernel
theorem d_Books_greatestOf_34 : decode prog_2_method_7_code 34 = .ok (.ior, 1) := by decide +kernel
theorem d_Books_greatestOf_35 : decode prog_2_method_7_code 35 = .ok (.iaload, 1) := by decide +kernel
theorem d_Books_greatestOf_36 : decode prog_2_method_7_code 36 = .ok (.aload_n 0, 1) := by decide +kernel
theorem d_Books_greatestOf_37 : decode prog_2_method_7_code 37 = .ok (.getfield 18, 3) := by decide +kernel
theorem d_Books_greatestOf_40 : decode prog_2_method_7_code 40 = .ok (.iload 4, 2) := by decide +kernel
theorem d_Books_greatestOf_42 : decode prog_2_method_7_code 42 = .ok (.iaload, 1) := by decide +kernel
theorem d_Books_greatestOf_43 : decode prog_2_method_7_code 43 = .ok (.isub, 1) := by decide +kernel
theorem d_Books_greatestOf_44 : decode prog_2_method_7_code 44 = .ok (.invokestatic 97, 3) := by decide +kernel
theorem d_Books_greatestOf_47 : decode prog_2_method_7_code 47 = .ok (.istore_n 3, 1) := by decide +kernel
theorem d_Books_greatestOf_48 : decode prog_2_method_7_code 48 = .ok (.iinc 4 1, 3) := by decide +kernel
theorem d_Books_greatestOf_51 : decode prog_2_method_7_code 51 = .ok (.goto (-31), 3) := by decide +kernel
theorem d_Books_greatestOf_54 : decode prog_2_method_7_code 54 = .ok (.iload_n 3, 1) := by decide +kernel
theorem d_Books_greatestOf_55 : decode prog_2_method_7_code 55 = .ok (.ireturn, 1) := by decide +kernel
theorem d_Books_leastOf_0 : decode prog_2_method_6_code 0 = .ok (.iconst 1, 1) := by decide +kernel
theorem d_Books_leastOf_1 : decode prog_2_method_6_code 1 = .ok (.iload_n 1, 1) := by decide +kernel
theorem d_Books_leastOf_2 : decode prog_2_method_6_code 2 = .ok (.ishl, 1) := by decide +kernel
theorem d_Books_leastOf_3 : decode prog_2_method_6_code 3 = .ok (.istore_n 2, 1) := by decide +kernel
theorem d_Books_leastOf_4 : decode prog_2_method_6_code 4 = .ok (.iconst 0, 1) := by decide +kernel
theorem d_Books_leastOf_5 : decode prog_2_method_6_code 5 = .ok (.istore_n 3, 1) := by decide +kernel
theorem d_Books_leastOf_6 : decode prog_2_method_6_code 6 = .ok (.iconst 0, 1) := by decide +kernel
theorem d_Books_leastOf_7 : decode prog_2_method_6_code 7 = .ok (.istore 4, 2) := by decide +kernel
theorem d_Books_leastOf_9 : decode prog_2_method_6_code 9 = .ok (.iload 4, 2) := by decide +kernel
theorem d_Books_leastOf_11 : decode prog_2_method_6_code 11 = .ok (.iload_n 2, 1) := by decide +kernel
theorem d_Books_leastOf_12 : decode prog_2_method_6_code 12 = .ok (.if_icmp .ge 31, 3) := by decide +kernel
theorem d_Books_leastOf_15 : decode prog_2_method_6_code 15 = .ok (.iload_n 3, 1) := by decide +kernel
theorem d_Books_leastOf_16 : decode prog_2_method_6_code 16 = .ok (.aload_n 0, 1) := by decide +kernel
theorem d_Books_leastOf_17 : decode prog_2_method_6_code 17 = .ok (.getfield 11, 3) := by decide +kernel
theorem d_Books_leastOf_20 : decode prog_2_method_6_code 20 = .ok (.iload 4, 2) := by decide +kernel
theorem d_Books_leastOf_22 : decode prog_2_method_6_code 22 = .ok (.iload_n 2, 1) := by decide +kernel
theorem d_Books_leastOf_23 : decode prog_2_method_6_code 23 = .ok (.ior, 1) := by decide +kernel
theorem d_Books_leastOf_24 : decode prog_2_method_6_code 24 = .ok (.iaload, 1) := by decide +kernel
theorem d_Books_leastOf_25 : decode prog_2_method_6_code 25 = .ok (.aload_n 0, 1) := by decide +kernel
theorem d_Books_leastOf_26 : decode prog_2_method_6_code 26 = .ok (.getfield 18, 3) := by decide +kernel
theorem d_Books_leastOf_29 : decode prog_2_method_6_code 29 = .ok (.iload 4, 2) := by decide +kernel
theorem d_Books_leastOf_31 : decode prog_2_method_6_code 31 = .ok (.iaload, 1) := by decide +kernel
theorem d_Books_leastOf_32 : decode prog_2_method_6_code 32 = .ok (.isub, 1) := by decide +kernel
theorem d_Books_leastOf_33 : decode prog_2_method_6_code 33 = .ok (.invokestatic 91, 3) := by decide +kernel
theorem d_Books_leastOf_36 : decode prog_2_method_6_code 36 = .ok (.istore_n 3, 1) := by decide +kernel
theorem d_Books_leastOf_37 : decode prog_2_method_6_code 37 = .ok (.iinc 4 1, 3) := by decide +kernel
theorem d_Books_leastOf_40 : decode prog_2_method_6_code 40 = .ok (.goto (-31), 3) := by decide +kernel
theorem d_Books_leastOf_43 : decode prog_2_method_6_code 43 = .ok (.iload_n 3, 1) := by decide +kernel
theorem d_Books_leastOf_44 : decode prog_2_method_6_code 44 = .ok (.ireturn, 1) := by decide +kernel
theorem d_Books_addStep_0 : decode prog_2_method_8_code 0 = .ok (.iconst 1, 1) := by decide +kernel
theorem d_Books_addStep_1 : decode prog_2_method_8_code 1 = .ok (.iload_n 1, 1) := by decide +kernel
theorem d_Books_addStep_2 : decode prog_2_method_8_code 2 = .ok (.ishl, 1) := by decide +kernel
theorem d_Books_addStep_3 : decode prog_2_method_8_code 3 = .ok (.istore_n 3, 1) := by decide +kernel
theorem d_Books_addStep_4 : decode prog_2_method_8_code 4 = .ok (.iconst 0, 1) := by decide +kernel
theorem d_Books_addStep_5 : decode prog_2_method_8_code 5 = .ok (.istore 4, 2) := by decide +kernel
theorem d_Books_addStep_7 : decode prog_2_method_8_code 7 = .ok (.iload 4, 2) := by decide +kernel
theorem d_Books_addStep_9 : decode prog_2_method_8_code 9 = .ok (.iload_n 3, 1) := by decide +kernel
theorem d_Books_addStep_10 : decode prog_2_method_8_code 10 = .ok (.if_icmp .ge 27, 3) := by decide +kernel
theorem d_Books_addStep_13 : decode prog_2_method_8_code 13 = .ok (.aload_n 0, 1) := by decide +kernel
theorem d_Books_addStep_14 : decode prog_2_method_8_code 14 = .ok (.getfield 18, 3) := by decide +kernel
theorem d_Books_addStep_17 : decode prog_2_method_8_code 17 = .ok (.iload 4, 2) := by decide +kernel
theorem d_Books_addStep_19 : decode prog_2_method_8_code 19 = .ok (.iload_n 3, 1) := by decide +kernel
theorem d_Books_addStep_20 : decode prog_2_method_8_code 20 = .ok (.ior, 1) := by decide +kernel
theorem d_Books_addStep_21 : decode prog_2_method_8_code 21 = .ok (.aload_n 0, 1) := by decide +kernel
theorem d_Books_addStep_22 : decode prog_2_method_8_code 22 = .ok (.getfield 18, 3) := by decide +kernel
theorem d_Books_addStep_25 : decode prog_2_method_8_code 25 = .ok (.iload 4, 2) := by decide +kernel
theorem d_Books_addStep_27 : decode prog_2_method_8_code 27 = .ok (.iaload, 1) := by decide +kernel
theorem d_Books_addStep_28 : decode prog_2_method_8_code 28 = .ok (.iload_n 2, 1) := by decide +kernel
theorem d_Books_addStep_29 : decode prog_2_method_8_code 29 = .ok (.iadd, 1) := by decide +kernel
theorem d_Books_addStep_30 : decode prog_2_method_8_code 30 = .ok (.iastore, 1) := by decide +kernel
theorem d_Books_addStep_31 : decode prog_2_method_8_code 31 = .ok (.iinc 4 1, 3) := by decide +kernel
theorem d_Books_addStep_34 : decode prog_2_method_8_code 34 = .ok (.goto (-27), 3) := by decide +kernel
theorem d_Books_addStep_37 : decode prog_2_method_8_code 37 = .ok (.return_, 1) := by decide +kernel
theorem d_Books_noteRange_0 : decode prog_2_method_9_code 0 = .ok (.iload_n 1, 1) := by decide +kernel
theorem d_Books_noteRange_1 : decode prog_2_method_9_code 1 = .ok (.iload_n 2, 1) := by decide +kernel
theorem d_Books_noteRange_2 : decode prog_2_method_9_code 2 = .ok (.if_icmp .le 4, 3) := by decide +kernel
theorem d_Books_noteRange_5 : decode prog_2_method_9_code 5 = .ok (.return_, 1) := by decide +kernel
theorem d_Books_noteRange_6 : decode prog_2_method_9_code 6 = .ok (.aload_n 0, 1) := by decide +kernel
theorem d_Books_noteRange_7 : decode prog_2_method_9_code 7 = .ok (.dup, 1) := by decide +kernel
theorem d_Books_noteRange_8 : decode prog_2_method_9_code 8 = .ok (.getfield 21, 3) := by decide +kernel
theorem d_Books_noteRange_11 : decode prog_2_method_9_code 11 = .ok (.iload_n 2, 1) := by decide +kernel
theorem d_Books_noteRange_12 : decode prog_2_method_9_code 12 = .ok (.iload_n 1, 1) := by decide +kernel
theorem d_Books_noteRange_13 : decode prog_2_method_9_code 13 = .ok (.isub, 1) := by decide +kernel
theorem d_Books_noteRange_14 : decode prog_2_method_9_code 14 = .ok (.iconst 1, 1) := by decide +kernel
theorem d_Books_noteRange_15 : decode prog_2_method_9_code 15 = .ok (.iadd, 1) := by decide +kernel
theorem d_Books_noteRange_16 : decode prog_2_method_9_code 16 = .ok (.iadd, 1) := by decide +kernel
theorem d_Books_noteRange_17 : decode prog_2_method_9_code 17 = .ok (.putfield 21, 3) := by decide +kernel
theorem d_Books_noteRange_20 : decode prog_2_method_9_code 20 = .ok (.bipush 8, 2) := by decide +kernel
theorem d_Books_noteRange_22 : decode prog_2_method_9_code 22 = .ok (.istore 4, 2) := by decide +kernel
theorem d_Books_noteRange_24 : decode prog_2_method_9_code 24 = .ok (.iload_n 3, 1) := by decide +kernel
theorem d_Books_noteRange_25 : decode prog_2_method_9_code 25 = .ok (.iload 4, 2) := by decide +kernel
theorem d_Books_noteRange_27 : decode prog_2_method_9_code 27 = .ok (.iand, 1) := by decide +kernel
theorem d_Books_noteRange_28 : decode prog_2_method_9_code 28 = .ok (.ifCond .eq 7, 3) := by decide +kernel
theorem d_Books_noteRange_31 : decode prog_2_method_9_code 31 = .ok (.iconst 1, 1) := by decide +kernel
theorem d_Books_noteRange_32 : decode prog_2_method_9_code 32 = .ok (.goto 4, 3) := by decide +kernel
theorem d_Books_noteRange_35 : decode prog_2_method_9_code 35 = .ok (.iconst 0, 1) := by decide +kernel
theorem d_Books_noteRange_36 : decode prog_2_method_9_code 36 = .ok (.istore 5, 2) := by decide +kernel
theorem d_Books_noteRange_38 : decode prog_2_method_9_code 38 = .ok (.aload_n 0, 1) := by decide +kernel
theorem d_Books_noteRange_39 : decode prog_2_method_9_code 39 = .ok (.getfield 18, 3) := by decide +kernel
theorem d_Books_noteRange_42 : decode prog_2_method_9_code 42 = .ok (.iload_n 3, 1) := by decide +kernel
theorem d_Books_noteRange_43 : decode prog_2_method_9_code 43 = .ok (.iload 4, 2) := by decide +kernel
theorem d_Books_noteRange_45 : decode prog_2_method_9_code 45 = .ok (.iconst (-1), 1) := by decide +kernel
theorem d_Books_noteRange_46 : decode prog_2_method_9_code 46 = .ok (.ixor, 1) := by decide +kernel
theorem d_Books_noteRange_47 : decode prog_2_method_9_code 47 = .ok (.iand, 1) := by decide +kernel
theorem d_Books_noteRange_48 : decode prog_2_method_9_code 48 = .ok (.iaload, 1) := by decide +kernel
theorem d_Books_noteRange_49 : decode prog_2_method_9_code 49 = .ok (.istore 6, 2) := by decide +kernel
theorem d_Books_noteRange_51 : decode prog_2_method_9_code 51 = .ok (.aload_n 0, 1) := by decide +kernel
theorem d_Books_noteRange_52 : decode prog_2_method_9_code 52 = .ok (.aload_n 0, 1) := by decide +kernel
theorem d_Books_noteRange_53 : decode prog_2_method_9_code 53 = .ok (.getfield 25, 3) := by decide +kernel
theorem d_Books_noteRange_56 : decode prog_2_method_9_code 56 = .ok (.iload 5, 2) := by decide +kernel
theorem d_Books_noteRange_58 : decode prog_2_method_9_code 58 = .ok (.ifCond .eq 10, 3) := by decide +kernel
theorem d_Books_noteRange_61 : decode prog_2_method_9_code 61 = .ok (.iload 6, 2) := by decide +kernel
theorem d_Books_noteRange_63 : decode prog_2_method_9_code 63 = .ok (.iload_n 1, 1) := by decide +kernel
theorem d_Books_noteRange_64 : decode prog_2_method_9_code 64 = .ok (.iadd, 1) := by decide +kernel
theorem d_Books_noteRange_65 : decode prog_2_method_9_code 65 = .ok (.goto 5, 3) := by decide +kernel
theorem d_Books_noteRange_68 : decode prog_2_method_9_code 68 = .ok (.iload 6, 2) := by decide +kernel
theorem d_Books_noteRange_70 : decode prog_2_method_9_code 70 = .ok (.invokestatic 97, 3) := by decide +kernel
theorem d_Books_noteRange_73 : decode prog_2_method_9_code 73 = .ok (.putfield 25, 3) := by decide +kernel
theorem d_Books_noteRange_76 : decode prog_2_method_9_code 76 = .ok (.aload_n 0, 1) := by decide +kernel
theorem d_Books_noteRange_77 : decode prog_2_method_9_code 77 = .ok (.aload_n 0, 1) := by decide +kernel
theorem d_Books_noteRange_78 : decode prog_2_method_9_code 78 = .ok (.getfield 28, 3) := by decide +kernel
theorem d_Books_noteRange_81 : decode prog_2_method_9_code 81 = .ok (.iload 5, 2) := by decide +kernel
theorem d_Books_noteRange_83 : decode prog_2_method_9_code 83 = .ok (.ifCond .eq 10, 3) := by decide +kernel
theorem d_Books_noteRange_86 : decode prog_2_method_9_code 86 = .ok (.iload 6, 2) := by decide +kernel
theorem d_Books_noteRange_88 : decode prog_2_method_9_code 88 = .ok (.iload_n 2, 1) := by decide +kernel
theorem d_Books_noteRange_89 : decode prog_2_method_9_code 89 = .ok (.iadd, 1) := by decide +kernel
theorem d_Books_noteRange_90 : decode prog_2_method_9_code 90 = .ok (.goto 5, 3) := by decide +kernel
theorem d_Books_noteRange_93 : decode prog_2_method_9_code 93 = .ok (.iload 6, 2) := by decide +kernel
theorem d_Books_noteRange_95 : decode prog_2_method_9_code 95 = .ok (.invokestatic 91, 3) := by decide +kernel
theorem d_Books_noteRange_98 : decode prog_2_method_9_code 98 = .ok (.putfield 28, 3) := by decide +kernel
theorem d_Books_noteRange_101 : decode prog_2_method_9_code 101 = .ok (.return_, 1) := by decide +kernel
theorem d_Books_noteFreeSteps_0 : decode prog_2_method_10_code 0 = .ok (.iconst 0, 1) := by decide +kernel
theorem d_Books_noteFreeSteps_1 : decode prog_2_method_10_code 1 = .ok (.istore_n 2, 1) := by decide +kernel
theorem d_Books_noteFreeSteps_2 : decode prog_2_method_10_code 2 = .ok (.iload_n 2, 1) := by decide +kernel
theorem d_Books_noteFreeSteps_3 : decode prog_2_method_10_code 3 = .ok (.iconst 4, 1) := by decide +kernel
theorem d_Books_noteFreeSteps_4 : decode prog_2_method_10_code 4 = .ok (.if_icmp .ge 45, 3) := by decide +kernel
theorem d_Books_noteFreeSteps_7 : decode prog_2_method_10_code 7 = .ok (.aload_n 0, 1) := by decide +kernel
theorem d_Books_noteFreeSteps_8 : decode prog_2_method_10_code 8 = .ok (.iload_n 2, 1) := by decide +kernel
theorem d_Books_noteFreeSteps_9 : decode prog_2_method_10_code 9 = .ok (.invokevirtual 105, 3) := by decide +kernel
theorem d_Books_noteFreeSteps_12 : decode prog_2_method_10_code 12 = .ok (.ifCond .eq 31, 3) := by decide +kernel
theorem d_Books_noteFreeSteps_15 : decode prog_2_method_10_code 15 = .ok (.aload_n 0, 1) := by decide +kernel
theorem d_Books_noteFreeSteps_16 : decode prog_2_method_10_code 16 = .ok (.dup, 1) := by decide +kernel
theorem d_Books_noteFreeSteps_17 : decode prog_2_method_10_code 17 = .ok (.getfield 21, 3) := by decide +kernel
theorem d_Books_noteFreeSteps_20 : decode prog_2_method_10_code 20 = .ok (.bipush 10, 2) := by decide +kernel
theorem d_Books_noteFreeSteps_22 : decode prog_2_method_10_code 22 = .ok (.imul, 1) := by decide +kernel
theorem d_Books_noteFreeSteps_23 : decode prog_2_method_10_code 23 = .ok (.putfield 21, 3) := by decide +kernel
theorem d_Books_noteFreeSteps_26 : decode prog_2_method_10_code 26 = .ok (.aload_n 0, 1) := by decide +kernel
theorem d_Books_noteFreeSteps_27 : decode prog_2_method_10_code 27 = .ok (.dup, 1) := by decide +kernel
theorem d_Books_noteFreeSteps_28 : decode prog_2_method_10_code 28 = .ok (.getfield 28, 3) := by decide +kernel
theorem d_Books_noteFreeSteps_31 : decode prog_2_method_10_code 31 = .ok (.iload_n 1, 1) := by decide +kernel
theorem d_Books_noteFreeSteps_32 : decode prog_2_method_10_code 32 = .ok (.iload_n 2, 1) := by decide +kernel
theorem d_Books_noteFreeSteps_33 : decode prog_2_method_10_code 33 = .ok (.ishr, 1) := by decide +kernel
theorem d_Books_noteFreeSteps_34 : decode prog_2_method_10_code 34 = .ok (.iconst 1, 1) := by decide +kernel
theorem d_Books_noteFreeSteps_35 : decode prog_2_method_10_code 35 = .ok (.iand, 1) := by decide +kernel
theorem d_Books_noteFreeSteps_36 : decode prog_2_method_10_code 36 = .ok (.bipush 9, 2) := by decide +kernel
theorem d_Books_noteFreeSteps_38 : decode prog_2_method_10_code 38 = .ok (.imul, 1) := by decide +kernel
theorem d_Books_noteFreeSteps_39 : decode prog_2_method_10_code 39 = .ok (.iadd, 1) := by decide +kernel
theorem d_Books_noteFreeSteps_40 : decode prog_2_method_10_code 40 = .ok (.putfield 28, 3) := by decide +kernel
theorem d_Books_noteFreeSteps_43 : decode prog_2_method_10_code 43 = .ok (.iinc 2 1, 3) := by decide +kernel
theorem d_Books_noteFreeSteps_46 : decode prog_2_method_10_code 46 = .ok (.goto (-44), 3) := by decide +kernel
theorem d_Books_noteFreeSteps_49 : decode prog_2_method_10_code 49 = .ok (.return_, 1) := by decide +kernel
theorem d_Books_search_0 : decode prog_2_method_2_code 0 = .ok (.aload_n 0, 1) := by decide +kernel
theorem d_Books_search_1 : decode prog_2_method_2_code 1 = .ok (.iconst 0, 1) := by decide +kernel
theorem d_Books_search_2 : decode prog_2_method_2_code 2 = .ok (.putfield 21, 3) := by decide +kernel
theorem d_Books_search_5 : decode prog_2_method_2_code 5 = .ok (.aload_n 0, 1) := by decide +kernel
theorem d_Books_search_6 : decode prog_2_method_2_code 6 = .ok (.bipush 37, 2) := by decide +kernel
theorem d_Books_search_8 : decode prog_2_method_2_code 8 = .ok (.putfield 25, 3) := by decide +kernel
theorem d_Books_search_11 : decode prog_2_method_2_code 11 = .ok (.aload_n 0, 1) := by decide +kernel
theorem d_Books_search_12 : decode prog_2_method_2_code 12 = .ok (.iconst (-1), 1) := by decide +kernel
theorem d_Books_search_13 : decode prog_2_method_2_code 13 = .ok (.putfield 28, 3) := by decide +kernel
theorem d_Books_search_16 : decode prog_2_method_2_code 16 = .ok (.aload_n 0, 1) := by decide +kernel
theorem d_Books_search_17 : decode prog_2_method_2_code 17 = .ok (.aload_n 1, 1) := by decide +kernel
theorem d_Books_search_18 : decode prog_2_method_2_code 18 = .ok (.aload_n 2, 1) := by decide +kernel
theorem d_Books_search_19 : decode prog_2_method_2_code 19 = .ok (.iload_n 3, 1) := by decide +kernel
theorem d_Books_search_20 : decode prog_2_method_2_code 20 = .ok (.iload 4, 2) := by decide +kernel
theorem d_Books_search_22 : decode prog_2_method_2_code 22 = .ok (.invokevirtual 31, 3) := by decide +kernel
theorem d_Books_search_25 : decode prog_2_method_2_code 25 = .ok (.aload_n 0, 1) := by decide +kernel
theorem d_Books_search_26 : decode prog_2_method_2_code 26 = .ok (.getfield 11, 3) := by decide +kernel
theorem d_Books_search_29 : decode prog_2_method_2_code 29 = .ok (.iconst 0, 1) := by decide +kernel
theorem d_Books_search_30 : decode prog_2_method_2_code 30 = .ok (.iaload, 1) := by decide +kernel
theorem d_Books_search_31 : decode prog_2_method_2_code 31 = .ok (.ifCond .le 4, 3) := by decide +kernel
theorem d_Books_search_34 : decode prog_2_method_2_code 34 = .ok (.return_, 1) := by decide +kernel
theorem d_Books_search_35 : decode prog_2_method_2_code 35 = .ok (.aload_n 0, 1) := by decide +kernel
theorem d_Books_search_36 : decode prog_2_method_2_code 36 = .ok (.iconst 0, 1) := by decide +kernel
theorem d_Books_search_37 : decode prog_2_method_2_code 37 = .ok (.invokevirtual 35, 3) := by decide +kernel
theorem d_Books_search_40 : decode prog_2_method_2_code 40 = .ok (.istore 6, 2) := by decide +kernel
theorem d_Books_search_42 : decode prog_2_method_2_code 42 = .ok (.aload_n 0, 1) := by decide +kernel
theorem d_Books_search_43 : decode prog_2_method_2_code 43 = .ok (.iconst 0, 1) := by decide +kernel
theorem d_Books_search_44 : decode prog_2_method_2_code 44 = .ok (.invokevirtual 39, 3) := by decide +kernel
theorem d_Books_search_47 : decode prog_2_method_2_code 47 = .ok (.istore 7, 2) := by decide +kernel
theorem d_Books_search_49 : decode prog_2_method_2_code 49 = .ok (.iload 7, 2) := by decide +kernel
theorem d_Books_search_51 : decode prog_2_method_2_code 51 = .ok (.iload 6, 2) := by decide +kernel
theorem d_Books_search_53 : decode prog_2_method_2_code 53 = .ok (.if_icmp .gt 100, 3) := by decide +kernel
theorem d_Books_search_56 : decode prog_2_method_2_code 56 = .ok (.aload_n 0, 1) := by decide +kernel
theorem d_Books_search_57 : decode prog_2_method_2_code 57 = .ok (.iconst 0, 1) := by decide +kernel
theorem d_Books_search_58 : decode prog_2_method_2_code 58 = .ok (.iload 7, 2) := by decide +kernel
theorem d_Books_search_60 : decode prog_2_method_2_code 60 = .ok (.invokevirtual 42, 3) := by decide +kernel
theorem d_Books_search_63 : decode prog_2_method_2_code 63 = .ok (.aload_n 0, 1) := by decide +kernel
theorem d_Books_search_64 : decode prog_2_method_2_code 64 = .ok (.iconst 1, 1) := by decide +kernel
theorem d_Books_search_65 : decode prog_2_method_2_code 65 = .ok (.invokevirtual 35, 3) := by decide +kernel
theorem d_Books_search_68 : decode prog_2_method_2_code 68 = .ok (.istore 8, 2) := by decide +kernel
theorem d_Books_search_70 : decode prog_2_method_2_code 70 = .ok (.aload_n 0, 1) := by decide +kernel
theorem d_Books_search_71 : decode prog_2_method_2_code 71 = .ok (.iconst 1, 1) := by decide +kernel
theorem d_Books_search_72 : decode prog_2_method_2_code 72 = .ok (.invokevirtual 39, 3) := by decide +kernel
theorem d_Books_search_75 : decode prog_2_method_2_code 75 = .ok (.istore 9, 2) := by decide +kernel
theorem d_Books_search_77 : decode prog_2_method_2_code 77 = .ok (.iload 9, 2) := by decide +kernel
theorem d_Books_search_79 : decode prog_2_method_2_code 79 = .ok (.iload 8, 2) := by decide +kernel
theorem d_Books_search_81 : decode prog_2_method_2_code 81 = .ok (.if_icmp .gt 66, 3) := by decide +kernel
theorem d_Books_search_84 : decode prog_2_method_2_code 84 = .ok (.aload_n 0, 1) := by decide +kernel
theorem d_Books_search_85 : decode prog_2_method_2_code 85 = .ok (.iconst 1, 1) := by decide +kernel
theorem d_Books_search_86 : decode prog_2_method_2_code 86 = .ok (.iload 9, 2) := by decide +kernel
theorem d_Books_search_88 : decode prog_2_method_2_code 88 = .ok (.invokevirtual 42, 3) := by decide +kernel
theorem d_Books_search_91 : decode prog_2_method_2_code 91 = .ok (.aload_n 0, 1) := by decide +kernel
theorem d_Books_search_92 : decode prog_2_method_2_code 92 = .ok (.iconst 2, 1) := by decide +kernel
theorem d_Books_search_93 : decode prog_2_method_2_code 93 = .ok (.invokevirtual 35, 3) := by decide +kernel
theorem d_Books_search_96 : decode prog_2_method_2_code 96 = .ok (.istore 10, 2) := by decide +kernel
theorem d_Books_search_98 : decode prog_2_method_2_code 98 = .ok (.aload_n 0, 1) := by decide +kernel
theorem d_Books_search_99 : decode prog_2_method_2_code 99 = .ok (.iconst 2, 1) := by decide +kernel
theorem d_Books_search_100 : decode prog_2_method_2_code 100 = .ok (.invokevirtual 39, 3) := by decide +kernel
theorem d_Books_search_103 : decode prog_2_method_2_code 103 = .ok (.istore 11, 2) := by decide +kernel
theorem d_Books_search_105 : decode prog_2_method_2_code 105 = .ok (.iload 11, 2) := by decide +kernel
theorem d_Books_search_107 : decode prog_2_method_2_code 107 = .ok (.iload 10, 2) := by decide +kernel
theorem d_Books_search_109 : decode prog_2_method_2_code 109 = .ok (.if_icmp .gt 32, 3) := by decide +kernel
theorem d_Books_search_112 : decode prog_2_method_2_code 112 = .ok (.aload_n 0, 1) := by decide +kernel
theorem d_Books_search_113 : decode prog_2_method_2_code 113 = .ok (.iconst 2, 1) := by decide +kernel
theorem d_Books_search_114 : decode prog_2_method_2_code 114 = .ok (.iload 11, 2) := by decide +kernel
theorem d_Books_search_116 : decode prog_2_method_2_code 116 = .ok (.invokevirtual 42, 3) := by decide +kernel
theorem d_Books_search_119 : decode prog_2_method_2_code 119 = .ok (.aload_n 0, 1) := by decide +kernel
theorem d_Books_search_120 : decode prog_2_method_2_code 120 = .ok (.aload_n 0, 1) := by decide +kernel
theorem d_Books_search_121 : decode prog_2_method_2_code 121 = .ok (.iconst 3, 1) := by decide +kernel
theorem d_Books_search_122 : decode prog_2_method_2_code 122 = .ok (.invokevirtual 39, 3) := by decide +kernel
theorem d_Books_search_125 : decode prog_2_method_2_code 125 = .ok (.aload_n 0, 1) := by decide +kernel
theorem d_Books_search_126 : decode prog_2_method_2_code 126 = .ok (.iconst 3, 1) := by decide +kernel
theorem d_Books_search_127 : decode prog_2_method_2_code 127 = .ok (.invokevirtual 35, 3) := by decide +kernel
theorem d_Books_search_130 : decode prog_2_method_2_code 130 = .ok (.iload 5, 2) := by decide +kernel
theorem d_Books_search_132 : decode prog_2_method_2_code 132 = .ok (.invokevirtual 46, 3) := by decide +kernel
theorem d_Books_search_135 : decode prog_2_method_2_code 135 = .ok (.iinc 11 1, 3) := by decide +kernel
theorem d_Books_search_138 : decode prog_2_method_2_code 138 = .ok (.goto (-33), 3) := by decide +kernel
theorem d_Books_search_141 : decode prog_2_method_2_code 141 = .ok (.iinc 9 1, 3) := by decide +kernel
theorem d_Books_search_144 : decode prog_2_method_2_code 144 = .ok (.goto (-67), 3) := by decide +kernel
theorem d_Books_search_147 : decode prog_2_method_2_code 147 = .ok (.iinc 7 1, 3) := by decide +kernel
theorem d_Books_search_150 : decode prog_2_method_2_code 150 = .ok (.goto (-101), 3) := by decide +kernel
theorem d_Books_search_153 : decode prog_2_method_2_code 153 = .ok (.aload_n 0, 1) := by decide +kernel
theorem d_Books_search_154 : decode prog_2_method_2_code 154 = .ok (.iload 5, 2) := by decide +kernel
theorem d_Books_search_156 : decode prog_2_method_2_code 156 = .ok (.invokevirtual 50, 3) := by decide +kernel
theorem d_Books_search_159 : decode prog_2_method_2_code 159 = .ok (.return_, 1) := by decide +kernel
theorem d_Main_books_0 : decode prog_1_method_18_code 0 = .ok (.aload_n 0, 1) := by decide +kernel
theorem d_Main_books_1 : decode prog_1_method_18_code 1 = .ok (.getfield 51, 3) := by decide +kernel
theorem d_Main_books_4 : decode prog_1_method_18_code 4 = .ok (.iload_n 1, 1) := by decide +kernel
theorem d_Main_books_5 : decode prog_1_method_18_code 5 = .ok (.invokevirtual 110, 3) := by decide +kernel
theorem d_Main_books_8 : decode prog_1_method_18_code 8 = .ok (.ifCond .eq 19, 3) := by decide +kernel
theorem d_Main_books_11 : decode prog_1_method_18_code 11 = .ok (.iload_n 2, 1) := by decide +kernel
theorem d_Main_books_12 : decode prog_1_method_18_code 12 = .ok (.invokestatic 178, 3) := by decide +kernel
theorem d_Main_books_15 : decode prog_1_method_18_code 15 = .ok (.ifCond .eq 12, 3) := by decide +kernel
theorem d_Main_books_18 : decode prog_1_method_18_code 18 = .ok (.iload_n 3, 1) := by decide +kernel
theorem d_Main_books_19 : decode prog_1_method_18_code 19 = .ok (.iconst (-1), 1) := by decide +kernel
theorem d_Main_books_20 : decode prog_1_method_18_code 20 = .ok (.iconst 3, 1) := by decide +kernel
theorem d_Main_books_21 : decode prog_1_method_18_code 21 = .ok (.invokestatic 61, 3) := by decide +kernel
theorem d_Main_books_24 : decode prog_1_method_18_code 24 = .ok (.ifCond .ne 5, 3) := by decide +kernel
theorem d_Main_books_27 : decode prog_1_method_18_code 27 = .ok (.iconst (-1), 1) := by decide +kernel
theorem d_Main_books_28 : decode prog_1_method_18_code 28 = .ok (.ireturn, 1) := by decide +kernel
theorem d_Main_books_29 : decode prog_1_method_18_code 29 = .ok (.aload_n 0, 1) := by decide +kernel
theorem d_Main_books_30 : decode prog_1_method_18_code 30 = .ok (.getfield 26, 3) := by decide +kernel
theorem d_Main_books_33 : decode prog_1_method_18_code 33 = .ok (.aload_n 0, 1) := by decide +kernel
theorem d_Main_books_34 : decode prog_1_method_18_code 34 = .ok (.getfield 51, 3) := by decide +kernel
theorem d_Main_books_37 : decode prog_1_method_18_code 37 = .ok (.aload_n 0, 1) := by decide +kernel
theorem d_Main_books_38 : decode prog_1_method_18_code 38 = .ok (.getfield 40, 3) := by decide +kernel
theorem d_Main_books_41 : decode prog_1_method_18_code 41 = .ok (.iload_n 1, 1) := by decide +kernel
theorem d_Main_books_42 : decode prog_1_method_18_code 42 = .ok (.iload_n 2, 1) := by decide +kernel
theorem d_Main_books_43 : decode prog_1_method_18_code 43 = .ok (.iload_n 3, 1) := by decide +kernel
theorem d_Main_books_44 : decode prog_1_method_18_code 44 = .ok (.iconst (-1), 1) := by decide +kernel
theorem d_Main_books_45 : decode prog_1_method_18_code 45 = .ok (.if_icmp .ne 7, 3) := by decide +kernel
theorem d_Main_books_48 : decode prog_1_method_18_code 48 = .ok (.iconst 0, 1) := by decide +kernel
theorem d_Main_books_49 : decode prog_1_method_18_code 49 = .ok (.goto 6, 3) := by decide +kernel
theorem d_Main_books_52 : decode prog_1_method_18_code 52 = .ok (.iconst 1, 1) := by decide +kernel
theorem d_Main_books_53 : decode prog_1_method_18_code 53 = .ok (.iload_n 3, 1) := by decide +kernel
theorem d_Main_books_54 : decode prog_1_method_18_code 54 = .ok (.ishl, 1) := by decide +kernel
theorem d_Main_books_55 : decode prog_1_method_18_code 55 = .ok (.invokevirtual 181, 3) := by decide +kernel
theorem d_Main_books_58 : decode prog_1_method_18_code 58 = .ok (.iload_n 3, 1) := by decide +kernel
theorem d_Main_books_59 : decode prog_1_method_18_code 59 = .ok (.iconst (-1), 1) := by decide +kernel
theorem d_Main_books_60 : decode prog_1_method_18_code 60 = .ok (.if_icmp .ne 11, 3) := by decide +kernel
theorem d_Main_books_63 : decode prog_1_method_18_code 63 = .ok (.aload_n 0, 1) := by decide +kernel
theorem d_Main_books_64 : decode prog_1_method_18_code 64 = .ok (.getfield 26, 3) := by decide +kernel
theorem d_Main_books_67 : decode prog_1_method_18_code 67 = .ok (.getfield 185, 3) := by decide +kernel
theorem d_Main_books_70 : decode prog_1_method_18_code 70 = .ok (.ireturn, 1) := by decide +kernel
theorem d_Main_books_71 : decode prog_1_method_18_code 71 = .ok (.aload_n 0, 1) := by decide +kernel
theorem d_Main_books_72 : decode prog_1_method_18_code 72 = .ok (.getfield 26, 3) := by decide +kernel
theorem d_Main_books_75 : decode prog_1_method_18_code 75 = .ok (.getfield 185, 3) := by decide +kernel
theorem d_Main_books_78 : decode prog_1_method_18_code 78 = .ok (.ifCond .ne 6, 3) := by decide +kernel
theorem d_Main_books_81 : decode prog_1_method_18_code 81 = .ok (.bipush (-4), 2) := by decide +kernel
theorem d_Main_books_83 : decode prog_1_method_18_code 83 = .ok (.ireturn, 1) := by decide +kernel
theorem d_Main_books_84 : decode prog_1_method_18_code 84 = .ok (.iload 4, 2) := by decide +kernel
theorem d_Main_books_86 : decode prog_1_method_18_code 86 = .ok (.ifCond .eq 13, 3) := by decide +kernel
theorem d_Main_books_89 : decode prog_1_method_18_code 89 = .ok (.aload_n 0, 1) := by decide +kernel
theorem d_Main_books_90 : decode prog_1_method_18_code 90 = .ok (.getfield 26, 3) := by decide +kernel
theorem d_Main_books_93 : decode prog_1_method_18_code 93 = .ok (.getfield 188, 3) := by decide +kernel
theorem d_Main_books_96 : decode prog_1_method_18_code 96 = .ok (.goto 10, 3) := by decide +kernel
theorem d_Main_books_99 : decode prog_1_method_18_code 99 = .ok (.aload_n 0, 1) := by decide +kernel
theorem d_Main_books_100 : decode prog_1_method_18_code 100 = .ok (.getfield 26, 3) := by decide +kernel
theorem d_Main_books_103 : decode prog_1_method_18_code 103 = .ok (.getfield 191, 3) := by decide +kernel
theorem d_Main_books_106 : decode prog_1_method_18_code 106 = .ok (.ireturn, 1) := by decide +kernel
theorem d_Main_groundOn_0 : decode prog_1_method_32_code 0 = .ok (.aload_n 0, 1) := by decide +kernel
theorem d_Main_groundOn_1 : decode prog_1_method_32_code 1 = .ok (.getfield 26, 3) := by decide +kernel
theorem d_Main_groundOn_4 : decode prog_1_method_32_code 4 = .ok (.aload_n 0, 1) := by decide +kernel
theorem d_Main_groundOn_5 : decode prog_1_method_32_code 5 = .ok (.getfield 51, 3) := by decide +kernel
theorem d_Main_groundOn_8 : decode prog_1_method_32_code 8 = .ok (.aload_n 0, 1) := by decide +kernel
theorem d_Main_groundOn_9 : decode prog_1_method_32_code 9 = .ok (.getfield 40, 3) := by decide +kernel
theorem d_Main_groundOn_12 : decode prog_1_method_32_code 12 = .ok (.iload_n 2, 1) := by decide +kernel
theorem d_Main_groundOn_13 : decode prog_1_method_32_code 13 = .ok (.iload_n 3, 1) := by decide +kernel
theorem d_Main_groundOn_14 : decode prog_1_method_32_code 14 = .ok (.aload_n 0, 1) := by decide +kernel
theorem d_Main_groundOn_15 : decode prog_1_method_32_code 15 = .ok (.getfield 51, 3) := by decide +kernel
theorem d_Main_groundOn_18 : decode prog_1_method_32_code 18 = .ok (.getfield 104, 3) := by decide +kernel
theorem d_Main_groundOn_21 : decode prog_1_method_32_code 21 = .ok (.iload_n 1, 1) := by decide +kernel
theorem d_Main_groundOn_22 : decode prog_1_method_32_code 22 = .ok (.iaload, 1) := by decide +kernel
theorem d_Main_groundOn_23 : decode prog_1_method_32_code 23 = .ok (.invokevirtual 181, 3) := by decide +kernel
theorem d_Main_groundOn_26 : decode prog_1_method_32_code 26 = .ok (.aload_n 0, 1) := by decide +kernel
theorem d_Main_groundOn_27 : decode prog_1_method_32_code 27 = .ok (.getfield 26, 3) := by decide +kernel
theorem d_Main_groundOn_30 : decode prog_1_method_32_code 30 = .ok (.getfield 185, 3) := by decide +kernel
theorem d_Main_groundOn_33 : decode prog_1_method_32_code 33 = .ok (.ifCond .ne 6, 3) := by decide +kernel
theorem d_Main_groundOn_36 : decode prog_1_method_32_code 36 = .ok (.bipush (-4), 2) := by decide +kernel
theorem d_Main_groundOn_38 : decode prog_1_method_32_code 38 = .ok (.ireturn, 1) := by decide +kernel
theorem d_Main_groundOn_39 : decode prog_1_method_32_code 39 = .ok (.iload 4, 2) := by decide +kernel
theorem d_Main_groundOn_41 : decode prog_1_method_32_code 41 = .ok (.ifCond .eq 13, 3) := by decide +kernel
theorem d_Main_groundOn_44 : decode prog_1_method_32_code 44 = .ok (.aload_n 0, 1) := by decide +kernel
theorem d_Main_groundOn_45 : decode prog_1_method_32_code 45 = .ok (.getfield 26, 3) := by decide +kernel
theorem d_Main_groundOn_48 : decode prog_1_method_32_code 48 = .ok (.getfield 191, 3) := by decide +kernel
theorem d_Main_groundOn_51 : decode prog_1_method_32_code 51 = .ok (.goto 10, 3) := by decide +kernel
theorem d_Main_groundOn_54 : decode prog_1_method_32_code 54 = .ok (.aload_n 0, 1) := by decide +kernel
theorem d_Main_groundOn_55 : decode prog_1_method_32_code 55 = .ok (.getfield 26, 3) := by decide +kernel
theorem d_Main_groundOn_58 : decode prog_1_method_32_code 58 = .ok (.getfield 188, 3) := by decide +kernel
theorem d_Main_groundOn_61 : decode prog_1_method_32_code 61 = .ok (.istore 5, 2) := by decide +kernel
theorem d_Main_groundOn_63 : decode prog_1_method_32_code 63 = .ok (.iconst 0, 1) := by decide +kernel
theorem d_Main_groundOn_64 : decode prog_1_method_32_code 64 = .ok (.aload_n 0, 1) := by decide +kernel
theorem d_Main_groundOn_65 : decode prog_1_method_32_code 65 = .ok (.getfield 40, 3) := by decide +kernel
theorem d_Main_groundOn_68 : decode prog_1_method_32_code 68 = .ok (.getfield 240, 3) := by decide +kernel
theorem d_Main_groundOn_71 : decode prog_1_method_32_code 71 = .ok (.iload_n 1, 1) := by decide +kernel
theorem d_Main_groundOn_72 : decode prog_1_method_32_code 72 = .ok (.aaload, 1) := by decide +kernel
theorem d_Main_groundOn_73 : decode prog_1_method_32_code 73 = .ok (.iload_n 2, 1) := by decide +kernel
theorem d_Main_groundOn_74 : decode prog_1_method_32_code 74 = .ok (.iaload, 1) := by decide +kernel
theorem d_Main_groundOn_75 : decode prog_1_method_32_code 75 = .ok (.iload 5, 2) := by decide +kernel
theorem d_Main_groundOn_77 : decode prog_1_method_32_code 77 = .ok (.aload_n 0, 1) := by decide +kernel
theorem d_Main_groundOn_78 : decode prog_1_method_32_code 78 = .ok (.getfield 51, 3) := by decide +kernel
theorem d_Main_groundOn_81 : decode prog_1_method_32_code 81 = .ok (.getfield 101, 3) := by decide +kernel
theorem d_Main_groundOn_84 : decode prog_1_method_32_code 84 = .ok (.iload_n 1, 1) := by decide +kernel
theorem d_Main_groundOn_85 : decode prog_1_method_32_code 85 = .ok (.iaload, 1) := by decide +kernel
theorem d_Main_groundOn_86 : decode prog_1_method_32_code 86 = .ok (.imul, 1) := by decide +kernel
theorem d_Main_groundOn_87 : decode prog_1_method_32_code 87 = .ok (.isub, 1) := by decide +kernel
theorem d_Main_groundOn_88 : decode prog_1_method_32_code 88 = .ok (.invokestatic 243, 3) := by decide +kernel
theorem d_Main_groundOn_91 : decode prog_1_method_32_code 91 = .ok (.ireturn, 1) := by decide +kernel
theorem d_Main_ground_0 : decode prog_1_method_19_code 0 = .ok (.aload_n 0, 1) := by decide +kernel
theorem d_Main_ground_1 : decode prog_1_method_19_code 1 = .ok (.getfield 51, 3) := by decide +kernel
theorem d_Main_ground_4 : decode prog_1_method_19_code 4 = .ok (.iload_n 1, 1) := by decide +kernel
theorem d_Main_ground_5 : decode prog_1_method_19_code 5 = .ok (.invokevirtual 90, 3) := by decide +kernel
theorem d_Main_ground_8 : decode prog_1_method_19_code 8 = .ok (.ifCond .eq 21, 3) := by decide +kernel
theorem d_Main_ground_11 : decode prog_1_method_19_code 11 = .ok (.aload_n 0, 1) := by decide +kernel
theorem d_Main_ground_12 : decode prog_1_method_19_code 12 = .ok (.getfield 51, 3) := by decide +kernel
theorem d_Main_ground_15 : decode prog_1_method_19_code 15 = .ok (.iload_n 2, 1) := by decide +kernel
theorem d_Main_ground_16 : decode prog_1_method_19_code 16 = .ok (.invokevirtual 110, 3) := by decide +kernel
theorem d_Main_ground_19 : decode prog_1_method_19_code 19 = .ok (.ifCond .eq 10, 3) := by decide +kernel
theorem d_Main_ground_22 : decode prog_1_method_19_code 22 = .ok (.iload_n 3, 1) := by decide +kernel
theorem d_Main_ground_23 : decode prog_1_method_19_code 23 = .ok (.invokestatic 178, 3) := by decide +kernel
theorem d_Main_ground_26 : decode prog_1_method_19_code 26 = .ok (.ifCond .ne 5, 3) := by decide +kernel
theorem d_Main_ground_29 : decode prog_1_method_19_code 29 = .ok (.iconst (-1), 1) := by decide +kernel
theorem d_Main_ground_30 : decode prog_1_method_19_code 30 = .ok (.ireturn, 1) := by decide +kernel
theorem d_Main_ground_31 : decode prog_1_method_19_code 31 = .ok (.aload_n 0, 1) := by decide +kernel
theorem d_Main_ground_32 : decode prog_1_method_19_code 32 = .ok (.iload_n 1, 1) := by decide +kernel
theorem d_Main_ground_33 : decode prog_1_method_19_code 33 = .ok (.iload_n 2, 1) := by decide +kernel
theorem d_Main_ground_34 : decode prog_1_method_19_code 34 = .ok (.iload_n 3, 1) := by decide +kernel
theorem d_Main_ground_35 : decode prog_1_method_19_code 35 = .ok (.iload 4, 2) := by decide +kernel
theorem d_Main_ground_37 : decode prog_1_method_19_code 37 = .ok (.invokevirtual 194, 3) := by decide +kernel
theorem d_Main_ground_40 : decode prog_1_method_19_code 40 = .ok (.ireturn, 1) := by decide +kernel
theorem d_Main_surelyGround_0 : decode prog_1_method_33_code 0 = .ok (.iconst 0, 1) := by decide +kernel
theorem d_Main_surelyGround_1 : decode prog_1_method_33_code 1 = .ok (.istore_n 3, 1) := by decide +kernel
theorem d_Main_surelyGround_2 : decode prog_1_method_33_code 2 = .ok (.iconst 0, 1) := by decide +kernel
theorem d_Main_surelyGround_3 : decode prog_1_method_33_code 3 = .ok (.istore 4, 2) := by decide +kernel
theorem d_Main_surelyGround_5 : decode prog_1_method_33_code 5 = .ok (.iload 4, 2) := by decide +kernel
theorem d_Main_surelyGround_7 : decode prog_1_method_33_code 7 = .ok (.aload_n 0, 1) := by decide +kernel
theorem d_Main_surelyGround_8 : decode prog_1_method_33_code 8 = .ok (.getfield 51, 3) := by decide +kernel
theorem d_Main_surelyGround_11 : decode prog_1_method_33_code 11 = .ok (.getfield 80, 3) := by decide +kernel
theorem d_Main_surelyGround_14 : decode prog_1_method_33_code 14 = .ok (.if_icmp .ge 28, 3) := by decide +kernel
theorem d_Main_surelyGround_17 : decode prog_1_method_33_code 17 = .ok (.aload_n 0, 1) := by decide +kernel
theorem d_Main_surelyGround_18 : decode prog_1_method_33_code 18 = .ok (.iload_n 1, 1) := by decide +kernel
theorem d_Main_surelyGround_19 : decode prog_1_method_33_code 19 = .ok (.iload 4, 2) := by decide +kernel
theorem d_Main_surelyGround_21 : decode prog_1_method_33_code 21 = .ok (.iload_n 2, 1) := by decide +kernel
theorem d_Main_surelyGround_22 : decode prog_1_method_33_code 22 = .ok (.iconst 0, 1) := by decide +kernel
theorem d_Main_surelyGround_23 : decode prog_1_method_33_code 23 = .ok (.invokevirtual 194, 3) := by decide +kernel
theorem d_Main_surelyGround_26 : decode prog_1_method_33_code 26 = .ok (.ifCond .le 10, 3) := by decide +kernel
theorem d_Main_surelyGround_29 : decode prog_1_method_33_code 29 = .ok (.iload_n 3, 1) := by decide +kernel
theorem d_Main_surelyGround_30 : decode prog_1_method_33_code 30 = .ok (.iconst 1, 1) := by decide +kernel
theorem d_Main_surelyGround_31 : decode prog_1_method_33_code 31 = .ok (.iload 4, 2) := by decide +kernel
theorem d_Main_surelyGround_33 : decode prog_1_method_33_code 33 = .ok (.ishl, 1) := by decide +kernel
theorem d_Main_surelyGround_34 : decode prog_1_method_33_code 34 = .ok (.ior, 1) := by decide +kernel
theorem d_Main_surelyGround_35 : decode prog_1_method_33_code 35 = .ok (.istore_n 3, 1) := by decide +kernel
theorem d_Main_surelyGround_36 : decode prog_1_method_33_code 36 = .ok (.iinc 4 1, 3) := by decide +kernel
theorem d_Main_surelyGround_39 : decode prog_1_method_33_code 39 = .ok (.goto (-34), 3) := by decide +kernel
theorem d_Main_surelyGround_42 : decode prog_1_method_33_code 42 = .ok (.iload_n 3, 1) := by decide +kernel
theorem d_Main_surelyGround_43 : decode prog_1_method_33_code 43 = .ok (.ireturn, 1) := by decide +kernel
theorem d_Main_sure_0 : decode prog_1_method_20_code 0 = .ok (.aload_n 0, 1) := by decide +kernel
theorem d_Main_sure_1 : decode prog_1_method_20_code 1 = .ok (.getfield 51, 3) := by decide +kernel
theorem d_Main_sure_4 : decode prog_1_method_20_code 4 = .ok (.iload_n 1, 1) := by decide +kernel
theorem d_Main_sure_5 : decode prog_1_method_20_code 5 = .ok (.invokevirtual 90, 3) := by decide +kernel
theorem d_Main_sure_8 : decode prog_1_method_20_code 8 = .ok (.ifCond .eq 10, 3) := by decide +kernel
theorem d_Main_sure_11 : decode prog_1_method_20_code 11 = .ok (.iload_n 2, 1) := by decide +kernel
theorem d_Main_sure_12 : decode prog_1_method_20_code 12 = .ok (.invokestatic 178, 3) := by decide +kernel
theorem d_Main_sure_15 : decode prog_1_method_20_code 15 = .ok (.ifCond .ne 5, 3) := by decide +kernel
theorem d_Main_sure_18 : decode prog_1_method_20_code 18 = .ok (.iconst (-1), 1) := by decide +kernel
theorem d_Main_sure_19 : decode prog_1_method_20_code 19 = .ok (.ireturn, 1) := by decide +kernel
theorem d_Main_sure_20 : decode prog_1_method_20_code 20 = .ok (.aload_n 0, 1) := by decide +kernel
theorem d_Main_sure_21 : decode prog_1_method_20_code 21 = .ok (.iload_n 1, 1) := by decide +kernel
theorem d_Main_sure_22 : decode prog_1_method_20_code 22 = .ok (.iload_n 2, 1) := by decide +kernel
theorem d_Main_sure_23 : decode prog_1_method_20_code 23 = .ok (.invokevirtual 198, 3) := by decide +kernel
theorem d_Main_sure_26 : decode prog_1_method_20_code 26 = .ok (.ireturn, 1) := by decide +kernel
theorem d_Quern_hoursSaved_0 : decode prog_6_method_27_code 0 = .ok (.iconst 0, 1) := by decide +kernel
theorem d_Quern_hoursSaved_1 : decode prog_6_method_27_code 1 = .ok (.istore_n 2, 1) := by decide +kernel
theorem d_Quern_hoursSaved_2 : decode prog_6_method_27_code 2 = .ok (.iconst 0, 1) := by decide +kernel
theorem d_Quern_hoursSaved_3 : decode prog_6_method_27_code 3 = .ok (.istore_n 3, 1) := by decide +kernel
theorem d_Quern_hoursSaved_4 : decode prog_6_method_27_code 4 = .ok (.iload_n 3, 1) := by decide +kernel
theorem d_Quern_hoursSaved_5 : decode prog_6_method_27_code 5 = .ok (.iconst 4, 1) := by decide +kernel
theorem d_Quern_hoursSaved_6 : decode prog_6_method_27_code 6 = .ok (.if_icmp .ge 26, 3) := by decide +kernel
theorem d_Quern_hoursSaved_9 : decode prog_6_method_27_code 9 = .ok (.iload_n 1, 1) := by decide +kernel
theorem d_Quern_hoursSaved_10 : decode prog_6_method_27_code 10 = .ok (.iload_n 3, 1) := by decide +kernel
theorem d_Quern_hoursSaved_11 : decode prog_6_method_27_code 11 = .ok (.ishr, 1) := by decide +kernel
theorem d_Quern_hoursSaved_12 : decode prog_6_method_27_code 12 = .ok (.iconst 1, 1) := by decide +kernel
theorem d_Quern_hoursSaved_13 : decode prog_6_method_27_code 13 = .ok (.iand, 1) := by decide +kernel
theorem d_Quern_hoursSaved_14 : decode prog_6_method_27_code 14 = .ok (.ifCond .eq 12, 3) := by decide +kernel
theorem d_Quern_hoursSaved_17 : decode prog_6_method_27_code 17 = .ok (.iload_n 2, 1) := by decide +kernel
theorem d_Quern_hoursSaved_18 : decode prog_6_method_27_code 18 = .ok (.aload_n 0, 1) := by decide +kernel
theorem d_Quern_hoursSaved_19 : decode prog_6_method_27_code 19 = .ok (.getfield 38, 3) := by decide +kernel
theorem d_Quern_hoursSaved_22 : decode prog_6_method_27_code 22 = .ok (.iload_n 3, 1) := by decide +kernel
theorem d_Quern_hoursSaved_23 : decode prog_6_method_27_code 23 = .ok (.iaload, 1) := by decide +kernel
theorem d_Quern_hoursSaved_24 : decode prog_6_method_27_code 24 = .ok (.iadd, 1) := by decide +kernel
theorem d_Quern_hoursSaved_25 : decode prog_6_method_27_code 25 = .ok (.istore_n 2, 1) := by decide +kernel
theorem d_Quern_hoursSaved_26 : decode prog_6_method_27_code 26 = .ok (.iinc 3 1, 3) := by decide +kernel
theorem d_Quern_hoursSaved_29 : decode prog_6_method_27_code 29 = .ok (.goto (-25), 3) := by decide +kernel
theorem d_Quern_hoursSaved_32 : decode prog_6_method_27_code 32 = .ok (.iload_n 2, 1) := by decide +kernel
theorem d_Quern_hoursSaved_33 : decode prog_6_method_27_code 33 = .ok (.ireturn, 1) := by decide +kernel
theorem d_Quern_grainsWithout_0 : decode prog_6_method_28_code 0 = .ok (.iconst 0, 1) := by decide +kernel
theorem d_Quern_grainsWithout_1 : decode prog_6_method_28_code 1 = .ok (.istore_n 2, 1) := by decide +kernel
theorem d_Quern_grainsWithout_2 : decode prog_6_method_28_code 2 = .ok (.iconst 0, 1) := by decide +kernel
theorem d_Quern_grainsWithout_3 : decode prog_6_method_28_code 3 = .ok (.istore_n 3, 1) := by decide +kernel
theorem d_Quern_grainsWithout_4 : decode prog_6_method_28_code 4 = .ok (.iload_n 3, 1) := by decide +kernel
theorem d_Quern_grainsWithout_5 : decode prog_6_method_28_code 5 = .ok (.iconst 4, 1) := by decide +kernel
theorem d_Quern_grainsWithout_6 : decode prog_6_method_28_code 6 = .ok (.if_icmp .ge 50, 3) := by decide +kernel
theorem d_Quern_grainsWithout_9 : decode prog_6_method_28_code 9 = .ok (.iload_n 1, 1) := by decide +kernel
theorem d_Quern_grainsWithout_10 : decode prog_6_method_28_code 10 = .ok (.iload_n 3, 1) := by decide +kernel
theorem d_Quern_grainsWithout_11 : decode prog_6_method_28_code 11 = .ok (.ishr, 1) := by decide +kernel
theorem d_Quern_grainsWithout_12 : decode prog_6_method_28_code 12 = .ok (.iconst 1, 1) := by decide +kernel
theorem d_Quern_grainsWithout_13 : decode prog_6_method_28_code 13 = .ok (.iand, 1) := by decide +kernel
theorem d_Quern_grainsWithout_14 : decode prog_6_method_28_code 14 = .ok (.ifCond .eq 6, 3) := by decide +kernel
theorem d_Quern_grainsWithout_17 : decode prog_6_method_28_code 17 = .ok (.goto 33, 3) := by decide +kernel
theorem d_Quern_grainsWithout_20 : decode prog_6_method_28_code 20 = .ok (.iconst 0, 1) := by decide +kernel
theorem d_Quern_grainsWithout_21 : decode prog_6_method_28_code 21 = .ok (.istore 4, 2) := by decide +kernel
theorem d_Quern_grainsWithout_23 : decode prog_6_method_28_code 23 = .ok (.iload 4, 2) := by decide +kernel
theorem d_Quern_grainsWithout_25 : decode prog_6_method_28_code 25 = .ok (.aload_n 0, 1) := by decide +kernel
theorem d_Quern_grainsWithout_26 : decode prog_6_method_28_code 26 = .ok (.getfield 44, 3) := by decide +kernel
theorem d_Quern_grainsWithout_29 : decode prog_6_method_28_code 29 = .ok (.if_icmp .ge 21, 3) := by decide +kernel
theorem d_Quern_grainsWithout_32 : decode prog_6_method_28_code 32 = .ok (.iload_n 2, 1) := by decide +kernel
theorem d_Quern_grainsWithout_33 : decode prog_6_method_28_code 33 = .ok (.aload_n 0, 1) := by decide +kernel
theorem d_Quern_grainsWithout_34 : decode prog_6_method_28_code 34 = .ok (.getfield 32, 3) := by decide +kernel
theorem d_Quern_grainsWithout_37 : decode prog_6_method_28_code 37 = .ok (.iload_n 3, 1) := by decide +kernel
theorem d_Quern_grainsWithout_38 : decode prog_6_method_28_code 38 = .ok (.aaload, 1) := by decide +kernel
theorem d_Quern_grainsWithout_39 : decode prog_6_method_28_code 39 = .ok (.iload 4, 2) := by decide +kernel
theorem d_Quern_grainsWithout_41 : decode prog_6_method_28_code 41 = .ok (.iaload, 1) := by decide +kernel
theorem d_Quern_grainsWithout_42 : decode prog_6_method_28_code 42 = .ok (.iadd, 1) := by decide +kernel
theorem d_Quern_grainsWithout_43 : decode prog_6_method_28_code 43 = .ok (.istore_n 2, 1) := by decide +kernel
theorem d_Quern_grainsWithout_44 : decode prog_6_method_28_code 44 = .ok (.iinc 4 1, 3) := by decide +kernel
theorem d_Quern_grainsWithout_47 : decode prog_6_method_28_code 47 = .ok (.goto (-24), 3) := by decide +kernel
theorem d_Quern_grainsWithout_50 : decode prog_6_method_28_code 50 = .ok (.iinc 3 1, 3) := by decide +kernel
theorem d_Quern_grainsWithout_53 : decode prog_6_method_28_code 53 = .ok (.goto (-49), 3) := by decide +kernel
theorem d_Quern_grainsWithout_56 : decode prog_6_method_28_code 56 = .ok (.iload_n 2, 1) := by decide +kernel
theorem d_Quern_grainsWithout_57 : decode prog_6_method_28_code 57 = .ok (.ireturn, 1) := by decide +kernel
theorem d_Quern_bestLeftOut_0 : decode prog_6_method_26_code 0 = .ok (.bipush (-4), 2) := by decide +kernel
theorem d_Quern_bestLeftOut_2 : decode prog_6_method_26_code 2 = .ok (.istore_n 2, 1) := by decide +kernel
theorem d_Quern_bestLeftOut_3 : decode prog_6_method_26_code 3 = .ok (.iconst 0, 1) := by decide +kernel
theorem d_Quern_bestLeftOut_4 : decode prog_6_method_26_code 4 = .ok (.istore_n 3, 1) := by decide +kernel
theorem d_Quern_bestLeftOut_5 : decode prog_6_method_26_code 5 = .ok (.iconst 0, 1) := by decide +kernel
theorem d_Quern_bestLeftOut_6 : decode prog_6_method_26_code 6 = .ok (.istore 4, 2) := by decide +kernel
theorem d_Quern_bestLeftOut_8 : decode prog_6_method_26_code 8 = .ok (.iload 4, 2) := by decide +kernel
theorem d_Quern_bestLeftOut_10 : decode prog_6_method_26_code 10 = .ok (.bipush 16, 2) := by decide +kernel
theorem d_Quern_bestLeftOut_12 : decode prog_6_method_26_code 12 = .ok (.if_icmp .ge 58, 3) := by decide +kernel
theorem d_Quern_bestLeftOut_15 : decode prog_6_method_26_code 15 = .ok (.iload 4, 2) := by decide +kernel
theorem d_Quern_bestLeftOut_17 : decode prog_6_method_26_code 17 = .ok (.aload_n 0, 1) := by decide +kernel
theorem d_Quern_bestLeftOut_18 : decode prog_6_method_26_code 18 = .ok (.getfield 51, 3) := by decide +kernel
theorem d_Quern_bestLeftOut_21 : decode prog_6_method_26_code 21 = .ok (.iand, 1) := by decide +kernel
theorem d_Quern_bestLeftOut_22 : decode prog_6_method_26_code 22 = .ok (.ifCond .ne 42, 3) := by decide +kernel
theorem d_Quern_bestLeftOut_25 : decode prog_6_method_26_code 25 = .ok (.aload_n 0, 1) := by decide +kernel
theorem d_Quern_bestLeftOut_26 : decode prog_6_method_26_code 26 = .ok (.iload 4, 2) := by decide +kernel
theorem d_Quern_bestLeftOut_28 : decode prog_6_method_26_code 28 = .ok (.invokevirtual 150, 3) := by decide +kernel
theorem d_Quern_bestLeftOut_31 : decode prog_6_method_26_code 31 = .ok (.iload_n 1, 1) := by decide +kernel
theorem d_Quern_bestLeftOut_32 : decode prog_6_method_26_code 32 = .ok (.if_icmp .ge 6, 3) := by decide +kernel
theorem d_Quern_bestLeftOut_35 : decode prog_6_method_26_code 35 = .ok (.goto 29, 3) := by decide +kernel
theorem d_Quern_bestLeftOut_38 : decode prog_6_method_26_code 38 = .ok (.aload_n 0, 1) := by decide +kernel
theorem d_Quern_bestLeftOut_39 : decode prog_6_method_26_code 39 = .ok (.iload 4, 2) := by decide +kernel

theorem d_Model_fits_51 : decode prog_10_method_43_code 51 = .ok (.iload 4, 2) := by decide +kernel
theorem d_Model_fits_53 : decode prog_10_method_43_code 53 = .ok (.iaload, 1) := by decide +kernel
theorem d_Model_fits_54 : decode prog_10_method_43_code 54 = .ok (.iconst 1, 1) := by decide +kernel
theorem d_Model_fits_55 : decode prog_10_method_43_code 55 = .ok (.if_icmp .ne 19, 3) := by decide +kernel
theorem d_Model_fits_58 : decode prog_10_method_43_code 58 = .ok (.iload 5, 2) := by decide +kernel
theorem d_Model_fits_60 : decode prog_10_method_43_code 60 = .ok (.i2l, 1) := by decide +kernel
theorem d_Model_fits_61 : decode prog_10_method_43_code 61 = .ok (.iload_n 3, 1) := by decide +kernel
theorem d_Model_fits_62 : decode prog_10_method_43_code 62 = .ok (.ineg, 1) := by decide +kernel
theorem d_Model_fits_63 : decode prog_10_method_43_code 63 = .ok (.i2l, 1) := by decide +kernel
theorem d_Model_fits_64 : decode prog_10_method_43_code 64 = .ok (.iload_n 3, 1) := by decide +kernel
theorem d_Model_fits_65 : decode prog_10_method_43_code 65 = .ok (.i2l, 1) := by decide +kernel
theorem d_Model_fits_66 : decode prog_10_method_43_code 66 = .ok (.invokestatic 82, 3) := by decide +kernel
theorem d_Model_fits_69 : decode prog_10_method_43_code 69 = .ok (.ifCond .ne 5, 3) := by decide +kernel
theorem d_Model_fits_72 : decode prog_10_method_43_code 72 = .ok (.iconst 0, 1) := by decide +kernel
theorem d_Model_fits_73 : decode prog_10_method_43_code 73 = .ok (.ireturn, 1) := by decide +kernel
theorem d_Model_fits_74 : decode prog_10_method_43_code 74 = .ok (.iinc 4 1, 3) := by decide +kernel
theorem d_Model_fits_77 : decode prog_10_method_43_code 77 = .ok (.goto (-74), 3) := by decide +kernel
theorem d_Model_fits_80 : decode prog_10_method_43_code 80 = .ok (.iconst 1, 1) := by decide +kernel
theorem d_Model_fits_81 : decode prog_10_method_43_code 81 = .ok (.ireturn, 1) := by decide +kernel
theorem d_Model_figure_0 : decode prog_10_method_44_code 0 = .ok (.iload_n 0, 1) := by decide +kernel
theorem d_Model_figure_1 : decode prog_10_method_44_code 1 = .ok (.istore_n 2, 1) := by decide +kernel
theorem d_Model_figure_2 : decode prog_10_method_44_code 2 = .ok (.iconst 3, 1) := by decide +kernel
theorem d_Model_figure_3 : decode prog_10_method_44_code 3 = .ok (.istore_n 3, 1) := by decide +kernel
theorem d_Model_figure_4 : decode prog_10_method_44_code 4 = .ok (.iload_n 3, 1) := by decide +kernel
theorem d_Model_figure_5 : decode prog_10_method_44_code 5 = .ok (.iload_n 1, 1) := by decide +kernel
theorem d_Model_figure_6 : decode prog_10_method_44_code 6 = .ok (.if_icmp .le 14, 3) := by decide +kernel
theorem d_Model_figure_9 : decode prog_10_method_44_code 9 = .ok (.iload_n 2, 1) := by decide +kernel
theorem d_Model_figure_10 : decode prog_10_method_44_code 10 = .ok (.bipush 10, 2) := by decide +kernel
theorem d_Model_figure_12 : decode prog_10_method_44_code 12 = .ok (.idiv, 1) := by decide +kernel
theorem d_Model_figure_13 : decode prog_10_method_44_code 13 = .ok (.istore_n 2, 1) := by decide +kernel
theorem d_Model_figure_14 : decode prog_10_method_44_code 14 = .ok (.iinc 3 (-1), 3) := by decide +kernel
theorem d_Model_figure_17 : decode prog_10_method_44_code 17 = .ok (.goto (-13), 3) := by decide +kernel
theorem d_Model_figure_20 : decode prog_10_method_44_code 20 = .ok (.iload_n 2, 1) := by decide +kernel
theorem d_Model_figure_21 : decode prog_10_method_44_code 21 = .ok (.bipush 10, 2) := by decide +kernel
theorem d_Model_figure_23 : decode prog_10_method_44_code 23 = .ok (.irem, 1) := by decide +kernel
theorem d_Model_figure_24 : decode prog_10_method_44_code 24 = .ok (.ireturn, 1) := by decide +kernel
theorem d_Model_books_0 : decode prog_10_method_45_code 0 = .ok (.aload_n 0, 1) := by decide +kernel
theorem d_Model_books_1 : decode prog_10_method_45_code 1 = .ok (.iload_n 1, 1) := by decide +kernel
theorem d_Model_books_2 : decode prog_10_method_45_code 2 = .ok (.invokevirtual 144, 3) := by decide +kernel
theorem d_Model_books_5 : decode prog_10_method_45_code 5 = .ok (.ifCond .eq 29, 3) := by decide +kernel
theorem d_Model_books_8 : decode prog_10_method_45_code 8 = .ok (.iload_n 2, 1) := by decide +kernel
theorem d_Model_books_9 : decode prog_10_method_45_code 9 = .ok (.i2l, 1) := by decide +kernel
theorem d_Model_books_10 : decode prog_10_method_45_code 10 = .ok (.lconst 0, 1) := by decide +kernel
theorem d_Model_books_11 : decode prog_10_method_45_code 11 = .ok (.ldc2_w 210, 3) := by decide +kernel
theorem d_Model_books_14 : decode prog_10_method_45_code 14 = .ok (.invokestatic 82, 3) := by decide +kernel
theorem d_Model_books_17 : decode prog_10_method_45_code 17 = .ok (.ifCond .eq 17, 3) := by decide +kernel
theorem d_Model_books_20 : decode prog_10_method_45_code 20 = .ok (.iload_n 3, 1) := by decide +kernel
theorem d_Model_books_21 : decode prog_10_method_45_code 21 = .ok (.i2l, 1) := by decide +kernel
theorem d_Model_books_22 : decode prog_10_method_45_code 22 = .ok (.ldc2_w 147, 3) := by decide +kernel
theorem d_Model_books_25 : decode prog_10_method_45_code 25 = .ok (.ldc2_w 103, 3) := by decide +kernel
theorem d_Model_books_28 : decode prog_10_method_45_code 28 = .ok (.invokestatic 82, 3) := by decide +kernel
theorem d_Model_books_31 : decode prog_10_method_45_code 31 = .ok (.ifCond .ne 5, 3) := by decide +kernel
theorem d_Model_books_34 : decode prog_10_method_45_code 34 = .ok (.iconst (-1), 1) := by decide +kernel
theorem d_Model_books_35 : decode prog_10_method_45_code 35 = .ok (.ireturn, 1) := by decide +kernel
theorem d_Model_books_36 : decode prog_10_method_45_code 36 = .ok (.iconst 0, 1) := by decide +kernel
theorem d_Model_books_37 : decode prog_10_method_45_code 37 = .ok (.istore 5, 2) := by decide +kernel
theorem d_Model_books_39 : decode prog_10_method_45_code 39 = .ok (.bipush (-4), 2) := by decide +kernel
theorem d_Model_books_41 : decode prog_10_method_45_code 41 = .ok (.istore 6, 2) := by decide +kernel
theorem d_Model_books_43 : decode prog_10_method_45_code 43 = .ok (.iconst 0, 1) := by decide +kernel
theorem d_Model_books_44 : decode prog_10_method_45_code 44 = .ok (.istore 7, 2) := by decide +kernel
theorem d_Model_books_46 : decode prog_10_method_45_code 46 = .ok (.iload 7, 2) := by decide +kernel
theorem d_Model_books_48 : decode prog_10_method_45_code 48 = .ok (.sipush 10000, 3) := by decide +kernel
theorem d_Model_books_51 : decode prog_10_method_45_code 51 = .ok (.if_icmp .ge 75, 3) := by decide +kernel
theorem d_Model_books_54 : decode prog_10_method_45_code 54 = .ok (.aload_n 0, 1) := by decide +kernel
theorem d_Model_books_55 : decode prog_10_method_45_code 55 = .ok (.iload 7, 2) := by decide +kernel
theorem d_Model_books_57 : decode prog_10_method_45_code 57 = .ok (.iload_n 1, 1) := by decide +kernel
theorem d_Model_books_58 : decode prog_10_method_45_code 58 = .ok (.iload_n 2, 1) := by decide +kernel
theorem d_Model_books_59 : decode prog_10_method_45_code 59 = .ok (.invokevirtual 215, 3) := by decide +kernel
theorem d_Model_books_62 : decode prog_10_method_45_code 62 = .ok (.ifCond .eq 58, 3) := by decide +kernel
theorem d_Model_books_65 : decode prog_10_method_45_code 65 = .ok (.iload 7, 2) := by decide +kernel
theorem d_Model_books_67 : decode prog_10_method_45_code 67 = .ok (.iload_n 3, 1) := by decide +kernel
theorem d_Model_books_68 : decode prog_10_method_45_code 68 = .ok (.ifCond .ge 7, 3) := by decide +kernel
theorem d_Model_books_71 : decode prog_10_method_45_code 71 = .ok (.iconst 0, 1) := by decide +kernel
theorem d_Model_books_72 : decode prog_10_method_45_code 72 = .ok (.goto 4, 3) := by decide +kernel
theorem d_Model_books_75 : decode prog_10_method_45_code 75 = .ok (.iload_n 3, 1) := by decide +kernel
theorem d_Model_books_76 : decode prog_10_method_45_code 76 = .ok (.invokestatic 218, 3) := by decide +kernel
theorem d_Model_books_79 : decode prog_10_method_45_code 79 = .ok (.istore 8, 2) := by decide +kernel
theorem d_Model_books_81 : decode prog_10_method_45_code 81 = .ok (.iload 5, 2) := by decide +kernel
theorem d_Model_books_83 : decode prog_10_method_45_code 83 = .ok (.ifCond .eq 25, 3) := by decide +kernel
theorem d_Model_books_86 : decode prog_10_method_45_code 86 = .ok (.iload 4, 2) := by decide +kernel
theorem d_Model_books_88 : decode prog_10_method_45_code 88 = .ok (.ifCond .eq 13, 3) := by decide +kernel
theorem d_Model_books_91 : decode prog_10_method_45_code 91 = .ok (.iload 8, 2) := by decide +kernel
theorem d_Model_books_93 : decode prog_10_method_45_code 93 = .ok (.iload 6, 2) := by decide +kernel
theorem d_Model_books_95 : decode prog_10_method_45_code 95 = .ok (.if_icmp .le 18, 3) := by decide +kernel
theorem d_Model_books_98 : decode prog_10_method_45_code 98 = .ok (.goto 10, 3) := by decide +kernel
theorem d_Model_books_101 : decode prog_10_method_45_code 101 = .ok (.iload 8, 2) := by decide +kernel
theorem d_Model_books_103 : decode prog_10_method_45_code 103 = .ok (.iload 6, 2) := by decide +kernel
theorem d_Model_books_105 : decode prog_10_method_45_code 105 = .ok (.if_icmp .ge 8, 3) := by decide +kernel
theorem d_Model_books_108 : decode prog_10_method_45_code 108 = .ok (.iload 8, 2) := by decide +kernel
theorem d_Model_books_110 : decode prog_10_method_45_code 110 = .ok (.goto 5, 3) := by decide +kernel
theorem d_Model_books_113 : decode prog_10_method_45_code 113 = .ok (.iload 6, 2) := by decide +kernel
theorem d_Model_books_115 : decode prog_10_method_45_code 115 = .ok (.istore 6, 2) := by decide +kernel
theorem d_Model_books_117 : decode prog_10_method_45_code 117 = .ok (.iinc 5 1, 3) := by decide +kernel
theorem d_Model_books_120 : decode prog_10_method_45_code 120 = .ok (.iinc 7 1, 3) := by decide +kernel
theorem d_Model_books_123 : decode prog_10_method_45_code 123 = .ok (.goto (-77), 3) := by decide +kernel
theorem d_Model_books_126 : decode prog_10_method_45_code 126 = .ok (.iload_n 3, 1) := by decide +kernel
theorem d_Model_books_127 : decode prog_10_method_45_code 127 = .ok (.ifCond .ge 8, 3) := by decide +kernel
theorem d_Model_books_130 : decode prog_10_method_45_code 130 = .ok (.iload 5, 2) := by decide +kernel
theorem d_Model_books_132 : decode prog_10_method_45_code 132 = .ok (.goto 5, 3) := by decide +kernel
theorem d_Model_books_135 : decode prog_10_method_45_code 135 = .ok (.iload 6, 2) := by decide +kernel
theorem d_Model_books_137 : decode prog_10_method_45_code 137 = .ok (.ireturn, 1) := by decide +kernel
theorem d_Model_groundOf_0 : decode prog_10_method_46_code 0 = .ok (.bipush (-4), 2) := by decide +kernel
theorem d_Model_groundOf_2 : decode prog_10_method_46_code 2 = .ok (.istore 5, 2) := by decide +kernel
theorem d_Model_groundOf_4 : decode prog_10_method_46_code 4 = .ok (.iconst 0, 1) := by decide +kernel
theorem d_Model_groundOf_5 : decode prog_10_method_46_code 5 = .ok (.istore 6, 2) := by decide +kernel
theorem d_Model_groundOf_7 : decode prog_10_method_46_code 7 = .ok (.iload 6, 2) := by decide +kernel
theorem d_Model_groundOf_9 : decode prog_10_method_46_code 9 = .ok (.sipush 10000, 3) := by decide +kernel
theorem d_Model_groundOf_12 : decode prog_10_method_46_code 12 = .ok (.if_icmp .ge 90, 3) := by decide +kernel
theorem d_Model_groundOf_15 : decode prog_10_method_46_code 15 = .ok (.aload_n 0, 1) := by decide +kernel
theorem d_Model_groundOf_16 : decode prog_10_method_46_code 16 = .ok (.iload 6, 2) := by decide +kernel
theorem d_Model_groundOf_18 : decode prog_10_method_46_code 18 = .ok (.iload_n 2, 1) := by decide +kernel
theorem d_Model_groundOf_19 : decode prog_10_method_46_code 19 = .ok (.iload_n 3, 1) := by decide +kernel
theorem d_Model_groundOf_20 : decode prog_10_method_46_code 20 = .ok (.invokevirtual 215, 3) := by decide +kernel
theorem d_Model_groundOf_23 : decode prog_10_method_46_code 23 = .ok (.ifCond .eq 73, 3) := by decide +kernel
theorem d_Model_groundOf_26 : decode prog_10_method_46_code 26 = .ok (.aload_n 0, 1) := by decide +kernel
theorem d_Model_groundOf_27 : decode prog_10_method_46_code 27 = .ok (.getfield 52, 3) := by decide +kernel
theorem d_Model_groundOf_30 : decode prog_10_method_46_code 30 = .ok (.bipush 6, 2) := by decide +kernel
theorem d_Model_groundOf_32 : decode prog_10_method_46_code 32 = .ok (.iload_n 1, 1) := by decide +kernel
theorem d_Model_groundOf_33 : decode prog_10_method_46_code 33 = .ok (.imul, 1) := by decide +kernel
theorem d_Model_groundOf_34 : decode prog_10_method_46_code 34 = .ok (.iload_n 2, 1) := by decide +kernel
theorem d_Model_groundOf_35 : decode prog_10_method_46_code 35 = .ok (.iadd, 1) := by decide +kernel
theorem d_Model_groundOf_36 : decode prog_10_method_46_code 36 = .ok (.iaload, 1) := by decide +kernel
theorem d_Model_groundOf_37 : decode prog_10_method_46_code 37 = .ok (.aload_n 0, 1) := by decide +kernel
theorem d_Model_groundOf_38 : decode prog_10_method_46_code 38 = .ok (.iload 6, 2) := by decide +kernel
theorem d_Model_groundOf_40 : decode prog_10_method_46_code 40 = .ok (.iload_n 1, 1) := by decide +kernel
theorem d_Model_groundOf_41 : decode prog_10_method_46_code 41 = .ok (.invokevirtual 212, 3) := by decide +kernel
theorem d_Model_groundOf_44 : decode prog_10_method_46_code 44 = .ok (.isub, 1) := by decide +kernel
theorem d_Model_groundOf_45 : decode prog_10_method_46_code 45 = .ok (.istore 7, 2) := by decide +kernel
theorem d_Model_groundOf_47 : decode prog_10_method_46_code 47 = .ok (.iload 7, 2) := by decide +kernel
theorem d_Model_groundOf_49 : decode prog_10_method_46_code 49 = .ok (.ifCond .ge 7, 3) := by decide +kernel
theorem d_Model_groundOf_52 : decode prog_10_method_46_code 52 = .ok (.iconst 0, 1) := by decide +kernel
theorem d_Model_groundOf_53 : decode prog_10_method_46_code 53 = .ok (.goto 5, 3) := by decide +kernel
theorem d_Model_groundOf_56 : decode prog_10_method_46_code 56 = .ok (.iload 7, 2) := by decide +kernel
theorem d_Model_groundOf_58 : decode prog_10_method_46_code 58 = .ok (.istore 7, 2) := by decide +kernel
theorem d_Model_groundOf_60 : decode prog_10_method_46_code 60 = .ok (.iload 5, 2) := by decide +kernel
theorem d_Model_groundOf_62 : decode prog_10_method_46_code 62 = .ok (.ifCond .lt 25, 3) := by decide +kernel
theorem d_Model_groundOf_65 : decode prog_10_method_46_code 65 = .ok (.iload 4, 2) := by decide +kernel
theorem d_Model_groundOf_67 : decode prog_10_method_46_code 67 = .ok (.ifCond .eq 13, 3) := by decide +kernel
theorem d_Model_groundOf_70 : decode prog_10_method_46_code 70 = .ok (.iload 7, 2) := by decide +kernel
theorem d_Model_groundOf_72 : decode prog_10_method_46_code 72 = .ok (.iload 5, 2) := by decide +kernel
theorem d_Model_groundOf_74 : decode prog_10_method_46_code 74 = .ok (.if_icmp .le 18, 3) := by decide +kernel
theorem d_Model_groundOf_77 : decode prog_10_method_46_code 77 = .ok (.goto 10, 3) := by decide +kernel
theorem d_Model_groundOf_80 : decode prog_10_method_46_code 80 = .ok (.iload 7, 2) := by decide +kernel
theorem d_Model_groundOf_82 : decode prog_10_method_46_code 82 = .ok (.iload 5, 2) := by decide +kernel
theorem d_Model_groundOf_84 : decode prog_10_method_46_code 84 = .ok (.if_icmp .ge 8, 3) := by decide +kernel
theorem d_Model_groundOf_87 : decode prog_10_method_46_code 87 = .ok (.iload 7, 2) := by decide +kernel
theorem d_Model_groundOf_89 : decode prog_10_method_46_code 89 = .ok (.goto 5, 3) := by decide +kernel
theorem d_Model_groundOf_92 : decode prog_10_method_46_code 92 = .ok (.iload 5, 2) := by decide +kernel
theorem d_Model_groundOf_94 : decode prog_10_method_46_code 94 = .ok (.istore 5, 2) := by decide +kernel
theorem d_Model_groundOf_96 : decode prog_10_method_46_code 96 = .ok (.iinc 6 1, 3) := by decide +kernel
theorem d_Model_groundOf_99 : decode prog_10_method_46_code 99 = .ok (.goto (-92), 3) := by decide +kernel
theorem d_Model_groundOf_102 : decode prog_10_method_46_code 102 = .ok (.iload 5, 2) := by decide +kernel
theorem d_Model_groundOf_104 : decode prog_10_method_46_code 104 = .ok (.ireturn, 1) := by decide +kernel
theorem d_Model_ground_0 : decode prog_10_method_47_code 0 = .ok (.aload_n 0, 1) := by decide +kernel
theorem d_Model_ground_1 : decode prog_10_method_47_code 1 = .ok (.iload_n 1, 1) := by decide +kernel
theorem d_Model_ground_2 : decode prog_10_method_47_code 2 = .ok (.invokevirtual 131, 3) := by decide +kernel
theorem d_Model_ground_5 : decode prog_10_method_47_code 5 = .ok (.ifCond .eq 35, 3) := by decide +kernel
theorem d_Model_ground_8 : decode prog_10_method_47_code 8 = .ok (.aload_n 0, 1) := by decide +kernel
theorem d_Model_ground_9 : decode prog_10_method_47_code 9 = .ok (.iload_n 2, 1) := by decide +kernel
theorem d_Model_ground_10 : decode prog_10_method_47_code 10 = .ok (.invokevirtual 144, 3) := by decide +kernel
theorem d_Model_ground_13 : decode prog_10_method_47_code 13 = .ok (.ifCond .eq 27, 3) := by decide +kernel
theorem d_Model_ground_16 : decode prog_10_method_47_code 16 = .ok (.iload_n 3, 1) := by decide +kernel
theorem d_Model_ground_17 : decode prog_10_method_47_code 17 = .ok (.i2l, 1) := by decide +kernel
theorem d_Model_ground_18 : decode prog_10_method_47_code 18 = .ok (.lconst 0, 1) := by decide +kernel
theorem d_Model_ground_19 : decode prog_10_method_47_code 19 = .ok (.ldc2_w 210, 3) := by decide +kernel
theorem d_Model_ground_22 : decode prog_10_method_47_code 22 = .ok (.invokestatic 82, 3) := by decide +kernel
theorem d_Model_ground_25 : decode prog_10_method_47_code 25 = .ok (.ifCond .eq 15, 3) := by decide +kernel
theorem d_Model_ground_28 : decode prog_10_method_47_code 28 = .ok (.aload_n 0, 1) := by decide +kernel
theorem d_Model_ground_29 : decode prog_10_method_47_code 29 = .ok (.iload_n 1, 1) := by decide +kernel
theorem d_Model_ground_30 : decode prog_10_method_47_code 30 = .ok (.iload_n 2, 1) := by decide +kernel
theorem d_Model_ground_31 : decode prog_10_method_47_code 31 = .ok (.iload_n 3, 1) := by decide +kernel
theorem d_Model_ground_32 : decode prog_10_method_47_code 32 = .ok (.iload 4, 2) := by decide +kernel
theorem d_Model_ground_34 : decode prog_10_method_47_code 34 = .ok (.invokevirtual 221, 3) := by decide +kernel
theorem d_Model_ground_37 : decode prog_10_method_47_code 37 = .ok (.goto 4, 3) := by decide +kernel
theorem d_Model_ground_40 : decode prog_10_method_47_code 40 = .ok (.iconst (-1), 1) := by decide +kernel
theorem d_Model_ground_41 : decode prog_10_method_47_code 41 = .ok (.ireturn, 1) := by decide +kernel
theorem d_Model_sureOf_0 : decode prog_10_method_48_code 0 = .ok (.iconst 0, 1) := by decide +kernel
theorem d_Model_sureOf_1 : decode prog_10_method_48_code 1 = .ok (.istore_n 3, 1) := by decide +kernel
theorem d_Model_sureOf_2 : decode prog_10_method_48_code 2 = .ok (.iconst 0, 1) := by decide +kernel
theorem d_Model_sureOf_3 : decode prog_10_method_48_code 3 = .ok (.istore 4, 2) := by decide +kernel
theorem d_Model_sureOf_5 : decode prog_10_method_48_code 5 = .ok (.iload 4, 2) := by decide +kernel
theorem d_Model_sureOf_7 : decode prog_10_method_48_code 7 = .ok (.aload_n 0, 1) := by decide +kernel
theorem d_Model_sureOf_8 : decode prog_10_method_48_code 8 = .ok (.getfield 13, 3) := by decide +kernel
theorem d_Model_sureOf_11 : decode prog_10_method_48_code 11 = .ok (.iconst 0, 1) := by decide +kernel
theorem d_Model_sureOf_12 : decode prog_10_method_48_code 12 = .ok (.iaload, 1) := by decide +kernel
theorem d_Model_sureOf_13 : decode prog_10_method_48_code 13 = .ok (.if_icmp .ge 32, 3) := by decide +kernel
theorem d_Model_sureOf_16 : decode prog_10_method_48_code 16 = .ok (.iload_n 3, 1) := by decide +kernel
theorem d_Model_sureOf_17 : decode prog_10_method_48_code 17 = .ok (.aload_n 0, 1) := by decide +kernel
theorem d_Model_sureOf_18 : decode prog_10_method_48_code 18 = .ok (.iload_n 1, 1) := by decide +kernel
theorem d_Model_sureOf_19 : decode prog_10_method_48_code 19 = .ok (.iload 4, 2) := by decide +kernel
theorem d_Model_sureOf_21 : decode prog_10_method_48_code 21 = .ok (.iload_n 2, 1) := by decide +kernel
theorem d_Model_sureOf_22 : decode prog_10_method_48_code 22 = .ok (.iconst 0, 1) := by decide +kernel
theorem d_Model_sureOf_23 : decode prog_10_method_48_code 23 = .ok (.invokevirtual 221, 3) := by decide +kernel
theorem d_Model_sureOf_26 : decode prog_10_method_48_code 26 = .ok (.ifCond .le 10, 3) := by decide +kernel
theorem d_Model_sureOf_29 : decode prog_10_method_48_code 29 = .ok (.iconst 1, 1) := by decide +kernel
theorem d_Model_sureOf_30 : decode prog_10_method_48_code 30 = .ok (.iload 4, 2) := by decide +kernel
theorem d_Model_sureOf_32 : decode prog_10_method_48_code 32 = .ok (.ishl, 1) := by decide +kernel
theorem d_Model_sureOf_33 : decode prog_10_method_48_code 33 = .ok (.goto 4, 3) := by decide +kernel
theorem d_Model_sureOf_36 : decode prog_10_method_48_code 36 = .ok (.iconst 0, 1) := by decide +kernel
theorem d_Model_sureOf_37 : decode prog_10_method_48_code 37 = .ok (.ior, 1) := by decide +kernel
theorem d_Model_sureOf_38 : decode prog_10_method_48_code 38 = .ok (.istore_n 3, 1) := by decide +kernel
theorem d_Model_sureOf_39 : decode prog_10_method_48_code 39 = .ok (.iinc 4 1, 3) := by decide +kernel
theorem d_Model_sureOf_42 : decode prog_10_method_48_code 42 = .ok (.goto (-37), 3) := by decide +kernel
theorem d_Model_sureOf_45 : decode prog_10_method_48_code 45 = .ok (.iload_n 3, 1) := by decide +kernel
theorem d_Model_sureOf_46 : decode prog_10_method_48_code 46 = .ok (.ireturn, 1) := by decide +kernel
theorem d_Model_sure_0 : decode prog_10_method_49_code 0 = .ok (.aload_n 0, 1) := by decide +kernel
theorem d_Model_sure_1 : decode prog_10_method_49_code 1 = .ok (.iload_n 1, 1) := by decide +kernel
theorem d_Model_sure_2 : decode prog_10_method_49_code 2 = .ok (.invokevirtual 131, 3) := by decide +kernel
theorem d_Model_sure_5 : decode prog_10_method_49_code 5 = .ok (.ifCond .eq 24, 3) := by decide +kernel
theorem d_Model_sure_8 : decode prog_10_method_49_code 8 = .ok (.iload_n 2, 1) := by decide +kernel
theorem d_Model_sure_9 : decode prog_10_method_49_code 9 = .ok (.i2l, 1) := by decide +kernel
theorem d_Model_sure_10 : decode prog_10_method_49_code 10 = .ok (.lconst 0, 1) := by decide +kernel
theorem d_Model_sure_11 : decode prog_10_method_49_code 11 = .ok (.ldc2_w 210, 3) := by decide +kernel
theorem d_Model_sure_14 : decode prog_10_method_49_code 14 = .ok (.invokestatic 82, 3) := by decide +kernel
theorem d_Model_sure_17 : decode prog_10_method_49_code 17 = .ok (.ifCond .eq 12, 3) := by decide +kernel
theorem d_Model_sure_20 : decode prog_10_method_49_code 20 = .ok (.aload_n 0, 1) := by decide +kernel
theorem d_Model_sure_21 : decode prog_10_method_49_code 21 = .ok (.iload_n 1, 1) := by decide +kernel
theorem d_Model_sure_22 : decode prog_10_method_49_code 22 = .ok (.iload_n 2, 1) := by decide +kernel
theorem d_Model_sure_23 : decode prog_10_method_49_code 23 = .ok (.invokevirtual 225, 3) := by decide +kernel
theorem d_Model_sure_26 : decode prog_10_method_49_code 26 = .ok (.goto 4, 3) := by decide +kernel
theorem d_Model_sure_29 : decode prog_10_method_49_code 29 = .ok (.iconst (-1), 1) := by decide +kernel
theorem d_Model_sure_30 : decode prog_10_method_49_code 30 = .ok (.ireturn, 1) := by decide +kernel
theorem d_Model_leave_0 : decode prog_10_method_50_code 0 = .ok (.iload_n 1, 1) := by decide +kernel
theorem d_Model_leave_1 : decode prog_10_method_50_code 1 = .ok (.i2l, 1) := by decide +kernel
theorem d_Model_leave_2 : decode prog_10_method_50_code 2 = .ok (.lconst 0, 1) := by decide +kernel
theorem d_Model_leave_3 : decode prog_10_method_50_code 3 = .ok (.ldc2_w 228, 3) := by decide +kernel
theorem d_Model_leave_6 : decode prog_10_method_50_code 6 = .ok (.invokestatic 82, 3) := by decide +kernel
theorem d_Model_leave_9 : decode prog_10_method_50_code 9 = .ok (.ifCond .eq 13, 3) := by decide +kernel
theorem d_Model_leave_12 : decode prog_10_method_50_code 12 = .ok (.iload_n 2, 1) := by decide +kernel
theorem d_Model_leave_13 : decode prog_10_method_50_code 13 = .ok (.i2l, 1) := by decide +kernel
theorem d_Model_leave_14 : decode prog_10_method_50_code 14 = .ok (.lconst 0, 1) := by decide +kernel
theorem d_Model_leave_15 : decode prog_10_method_50_code 15 = .ok (.lconst 1, 1) := by decide +kernel
theorem d_Model_leave_16 : decode prog_10_method_50_code 16 = .ok (.invokestatic 82, 3) := by decide +kernel
theorem d_Model_leave_19 : decode prog_10_method_50_code 19 = .ok (.ifCond .ne 5, 3) := by decide +kernel
theorem d_Model_leave_22 : decode prog_10_method_50_code 22 = .ok (.iconst (-1), 1) := by decide +kernel
theorem d_Model_leave_23 : decode prog_10_method_50_code 23 = .ok (.ireturn, 1) := by decide +kernel
theorem d_Model_leave_24 : decode prog_10_method_50_code 24 = .ok (.bipush (-4), 2) := by decide +kernel
theorem d_Model_leave_26 : decode prog_10_method_50_code 26 = .ok (.istore_n 3, 1) := by decide +kernel
theorem d_Model_leave_27 : decode prog_10_method_50_code 27 = .ok (.iconst 0, 1) := by decide +kernel
theorem d_Model_leave_28 : decode prog_10_method_50_code 28 = .ok (.istore 4, 2) := by decide +kernel
theorem d_Model_leave_30 : decode prog_10_method_50_code 30 = .ok (.iconst 0, 1) := by decide +kernel
theorem d_Model_leave_31 : decode prog_10_method_50_code 31 = .ok (.istore 5, 2) := by decide +kernel
theorem d_Model_leave_33 : decode prog_10_method_50_code 33 = .ok (.iload 5, 2) := by decide +kernel
theorem d_Model_leave_35 : decode prog_10_method_50_code 35 = .ok (.bipush 16, 2) := by decide +kernel
theorem d_Model_leave_37 : decode prog_10_method_50_code 37 = .ok (.if_icmp .ge 173, 3) := by decide +kernel
theorem d_Model_leave_40 : decode prog_10_method_50_code 40 = .ok (.iconst 0, 1) := by decide +kernel
theorem d_Model_leave_41 : decode prog_10_method_50_code 41 = .ok (.istore 6, 2) := by decide +kernel
theorem d_Model_leave_43 : decode prog_10_method_50_code 43 = .ok (.iconst 0, 1) := by decide +kernel
theorem d_Model_leave_44 : decode prog_10_method_50_code 44 = .ok (.istore 7, 2) := by decide +kernel
theorem d_Model_leave_46 : decode prog_10_method_50_code 46 = .ok (.iconst 1, 1) := by decide +kernel
theorem d_Model_leave_47 : decode prog_10_method_50_code 47 = .ok (.istore 8, 2) := by decide +kernel
theorem d_Model_leave_49 : decode prog_10_method_50_code 49 = .ok (.iconst 0, 1) := by decide +kernel
theorem d_Model_leave_50 : decode prog_10_method_50_code 50 = .ok (.istore 9, 2) := by decide +kernel
theorem d_Model_leave_52 : decode prog_10_method_50_code 52 = .ok (.iload 9, 2) := by decide +kernel
theorem d_Model_leave_54 : decode prog_10_method_50_code 54 = .ok (.iconst 4, 1) := by decide +kernel
theorem d_Model_leave_55 : decode prog_10_method_50_code 55 = .ok (.if_icmp .ge 120, 3) := by decide +kernel
theorem d_Model_leave_58 : decode prog_10_method_50_code 58 = .ok (.iload 6, 2) := by decide +kernel
theorem d_Model_leave_60 : decode prog_10_method_50_code 60 = .ok (.iload 5, 2) := by decide +kernel
theorem d_Model_leave_62 : decode prog_10_method_50_code 62 = .ok (.iload 9, 2) := by decide +kernel
theorem d_Model_leave_64 : decode prog_10_method_50_code 64 = .ok (.invokestatic 136, 3) := by decide +kernel
theorem d_Model_leave_67 : decode prog_10_method_50_code 67 = .ok (.ifCond .eq 13, 3) := by decide +kernel
theorem d_Model_leave_70 : decode prog_10_method_50_code 70 = .ok (.aload_n 0, 1) := by decide +kernel
theorem d_Model_leave_71 : decode prog_10_method_50_code 71 = .ok (.getfield 43, 3) := by decide +kernel
theorem d_Model_leave_74 : decode prog_10_method_50_code 74 = .ok (.iload 9, 2) := by decide +kernel
theorem d_Model_leave_76 : decode prog_10_method_50_code 76 = .ok (.iaload, 1) := by decide +kernel
theorem d_Model_leave_77 : decode prog_10_method_50_code 77 = .ok (.goto 4, 3) := by decide +kernel
theorem d_Model_leave_80 : decode prog_10_method_50_code 80 = .ok (.iconst 0, 1) := by decide +kernel
theorem d_Model_leave_81 : decode prog_10_method_50_code 81 = .ok (.iadd, 1) := by decide +kernel
theorem d_Model_leave_82 : decode prog_10_method_50_code 82 = .ok (.istore 6, 2) := by decide +kernel
theorem d_Model_leave_84 : decode prog_10_method_50_code 84 = .ok (.iload 8, 2) := by decide +kernel
theorem d_Model_leave_86 : decode prog_10_method_50_code 86 = .ok (.ifCond .eq 28, 3) := by decide +kernel
theorem d_Model_leave_89 : decode prog_10_method_50_code 89 = .ok (.iload 5, 2) := by decide +kernel
theorem d_Model_leave_91 : decode prog_10_method_50_code 91 = .ok (.iload 9, 2) := by decide +kernel
theorem d_Model_leave_93 : decode prog_10_method_50_code 93 = .ok (.invokestatic 136, 3) := by decide +kernel
theorem d_Model_leave_96 : decode prog_10_method_50_code 96 = .ok (.ifCond .eq 14, 3) := by decide +kernel
theorem d_Model_leave_99 : decode prog_10_method_50_code 99 = .ok (.aload_n 0, 1) := by decide +kernel
theorem d_Model_leave_100 : decode prog_10_method_50_code 100 = .ok (.getfield 46, 3) := by decide +kernel
theorem d_Model_leave_103 : decode prog_10_method_50_code 103 = .ok (.iload 9, 2) := by decide +kernel
theorem d_Model_leave_105 : decode prog_10_method_50_code 105 = .ok (.iaload, 1) := by decide +kernel
theorem d_Model_leave_106 : decode prog_10_method_50_code 106 = .ok (.iconst 1, 1) := by decide +kernel
theorem d_Model_leave_107 : decode prog_10_method_50_code 107 = .ok (.if_icmp .eq 7, 3) := by decide +kernel
theorem d_Model_leave_110 : decode prog_10_method_50_code 110 = .ok (.iconst 1, 1) := by decide +kernel
theorem d_Model_leave_111 : decode prog_10_method_50_code 111 = .ok (.goto 4, 3) := by decide +kernel
theorem d_Model_leave_114 : decode prog_10_method_50_code 114 = .ok (.iconst 0, 1) := by decide +kernel
theorem d_Model_leave_115 : decode prog_10_method_50_code 115 = .ok (.istore 8, 2) := by decide +kernel
theorem d_Model_leave_117 : decode prog_10_method_50_code 117 = .ok (.iconst 0, 1) := by decide +kernel
theorem d_Model_leave_118 : decode prog_10_method_50_code 118 = .ok (.istore 10, 2) := by decide +kernel
theorem d_Model_leave_120 : decode prog_10_method_50_code 120 = .ok (.iload 10, 2) := by decide +kernel
theorem d_Model_leave_122 : decode prog_10_method_50_code 122 = .ok (.aload_n 0, 1) := by decide +kernel
theorem d_Model_leave_123 : decode prog_10_method_50_code 123 = .ok (.getfield 13, 3) := by decide +kernel
theorem d_Model_leave_126 : decode prog_10_method_50_code 126 = .ok (.iconst 0, 1) := by decide +kernel
theorem d_Model_leave_127 : decode prog_10_method_50_code 127 = .ok (.iaload, 1) := by decide +kernel
theorem d_Model_leave_128 : decode prog_10_method_50_code 128 = .ok (.if_icmp .ge 41, 3) := by decide +kernel
theorem d_Model_leave_131 : decode prog_10_method_50_code 131 = .ok (.iload 7, 2) := by decide +kernel
theorem d_Model_leave_133 : decode prog_10_method_50_code 133 = .ok (.iload 5, 2) := by decide +kernel
theorem d_Model_leave_135 : decode prog_10_method_50_code 135 = .ok (.iload 9, 2) := by decide +kernel
theorem d_Model_leave_137 : decode prog_10_method_50_code 137 = .ok (.invokestatic 136, 3) := by decide +kernel
theorem d_Model_leave_140 : decode prog_10_method_50_code 140 = .ok (.ifCond .eq 7, 3) := by decide +kernel
theorem d_Model_leave_143 : decode prog_10_method_50_code 143 = .ok (.iconst 0, 1) := by decide +kernel
theorem d_Model_leave_144 : decode prog_10_method_50_code 144 = .ok (.goto 16, 3) := by decide +kernel
theorem d_Model_leave_147 : decode prog_10_method_50_code 147 = .ok (.aload_n 0, 1) := by decide +kernel
theorem d_Model_leave_148 : decode prog_10_method_50_code 148 = .ok (.getfield 37, 3) := by decide +kernel
theorem d_Model_leave_151 : decode prog_10_method_50_code 151 = .ok (.bipush 6, 2) := by decide +kernel
theorem d_Model_leave_153 : decode prog_10_method_50_code 153 = .ok (.iload 9, 2) := by decide +kernel
theorem d_Model_leave_155 : decode prog_10_method_50_code 155 = .ok (.imul, 1) := by decide +kernel
theorem d_Model_leave_156 : decode prog_10_method_50_code 156 = .ok (.iload 10, 2) := by decide +kernel
theorem d_Model_leave_158 : decode prog_10_method_50_code 158 = .ok (.iadd, 1) := by decide +kernel
theorem d_Model_leave_159 : decode prog_10_method_50_code 159 = .ok (.iaload, 1) := by decide +kernel
theorem d_Model_leave_160 : decode prog_10_method_50_code 160 = .ok (.iadd, 1) := by decide +kernel
theorem d_Model_leave_161 : decode prog_10_method_50_code 161 = .ok (.istore 7, 2) := by decide +kernel
theorem d_Model_leave_163 : decode prog_10_method_50_code 163 = .ok (.iinc 10 1, 3) := by decide +kernel
theorem d_Model_leave_166 : decode prog_10_method_50_code 166 = .ok (.goto (-46), 3) := by decide +kernel
theorem d_Model_leave_169 : decode prog_10_method_50_code 169 = .ok (.iinc 9 1, 3) := by decide +kernel
theorem d_Model_leave_172 : decode prog_10_method_50_code 172 = .ok (.goto (-120), 3) := by decide +kernel
theorem d_Model_leave_175 : decode prog_10_method_50_code 175 = .ok (.iload 8, 2) := by decide +kernel
theorem d_Model_leave_177 : decode prog_10_method_50_code 177 = .ok (.ifCond .eq 27, 3) := by decide +kernel
theorem d_Model_leave_180 : decode prog_10_method_50_code 180 = .ok (.iload 6, 2) := by decide +kernel
theorem d_Model_leave_182 : decode prog_10_method_50_code 182 = .ok (.iload_n 1, 1) := by decide +kernel
theorem d_Model_leave_183 : decode prog_10_method_50_code 183 = .ok (.if_icmp .lt 21, 3) := by decide +kernel
theorem d_Model_leave_186 : decode prog_10_method_50_code 186 = .ok (.iload_n 3, 1) := by decide +kernel
theorem d_Model_leave_187 : decode prog_10_method_50_code 187 = .ok (.ifCond .lt 10, 3) := by decide +kernel
theorem d_Model_leave_190 : decode prog_10_method_50_code 190 = .ok (.iload 7, 2) := by decide +kernel
theorem d_Model_leave_192 : decode prog_10_method_50_code 192 = .ok (.iload 4, 2) := by decide +kernel
theorem d_Model_leave_194 : decode prog_10_method_50_code 194 = .ok (.if_icmp .ge 10, 3) := by decide +kernel
theorem d_Model_leave_197 : decode prog_10_method_50_code 197 = .ok (.iload 5, 2) := by decide +kernel
theorem d_Model_leave_199 : decode prog_10_method_50_code 199 = .ok (.istore_n 3, 1) := by decide +kernel
theorem d_Model_leave_200 : decode prog_10_method_50_code 200 = .ok (.iload 7, 2) := by decide +kernel
theorem d_Model_leave_202 : decode prog_10_method_50_code 202 = .ok (.istore 4, 2) := by decide +kernel
theorem d_Model_leave_204 : decode prog_10_method_50_code 204 = .ok (.iinc 5 1, 3) := by decide +kernel
theorem d_Model_leave_207 : decode prog_10_method_50_code 207 = .ok (.goto (-174), 3) := by decide +kernel
theorem d_Model_leave_210 : decode prog_10_method_50_code 210 = .ok (.iload_n 3, 1) := by decide +kernel
theorem d_Model_leave_211 : decode prog_10_method_50_code 211 = .ok (.ifCond .ge 8, 3) := by decide +kernel
theorem d_Model_leave_214 : decode prog_10_method_50_code 214 = .ok (.bipush (-4), 2) := by decide +kernel
theorem d_Model_leave_216 : decode prog_10_method_50_code 216 = .ok (.goto 13, 3) := by decide +kernel
theorem d_Model_leave_219 : decode prog_10_method_50_code 219 = .ok (.iload_n 2, 1) := by decide +kernel
theorem d_Model_leave_220 : decode prog_10_method_50_code 220 = .ok (.ifCond .ne 7, 3) := by decide +kernel
theorem d_Model_leave_223 : decode prog_10_method_50_code 223 = .ok (.iload_n 3, 1) := by decide +kernel
theorem d_Model_leave_224 : decode prog_10_method_50_code 224 = .ok (.goto 5, 3) := by decide +kernel
theorem d_Model_leave_227 : decode prog_10_method_50_code 227 = .ok (.iload 4, 2) := by decide +kernel
theorem d_Model_leave_229 : decode prog_10_method_50_code 229 = .ok (.ireturn, 1) := by decide +kernel
theorem d_Model_blindOf_0 : decode prog_10_method_51_code 0 = .ok (.iconst 0, 1) := by decide +kernel
theorem d_Model_blindOf_1 : decode prog_10_method_51_code 1 = .ok (.istore_n 3, 1) := by decide +kernel
theorem d_Model_blindOf_2 : decode prog_10_method_51_code 2 = .ok (.iconst 0, 1) := by decide +kernel
theorem d_Model_blindOf_3 : decode prog_10_method_51_code 3 = .ok (.istore 4, 2) := by decide +kernel
theorem d_Model_blindOf_5 : decode prog_10_method_51_code 5 = .ok (.iload 4, 2) := by decide +kernel
theorem d_Model_blindOf_7 : decode prog_10_method_51_code 7 = .ok (.bipush 6, 2) := by decide +kernel
theorem d_Model_blindOf_9 : decode prog_10_method_51_code 9 = .ok (.if_icmp .ge 43, 3) := by decide +kernel
theorem d_Model_blindOf_12 : decode prog_10_method_51_code 12 = .ok (.iload_n 3, 1) := by decide +kernel
theorem d_Model_blindOf_13 : decode prog_10_method_51_code 13 = .ok (.iload_n 2, 1) := by decide +kernel
theorem d_Model_blindOf_14 : decode prog_10_method_51_code 14 = .ok (.ifCond .eq 18, 3) := by decide +kernel
theorem d_Model_blindOf_17 : decode prog_10_method_51_code 17 = .ok (.aload_n 0, 1) := by decide +kernel
theorem d_Model_blindOf_18 : decode prog_10_method_51_code 18 = .ok (.getfield 58, 3) := by decide +kernel
theorem d_Model_blindOf_21 : decode prog_10_method_51_code 21 = .ok (.bipush 6, 2) := by decide +kernel
theorem d_Model_blindOf_23 : decode prog_10_method_51_code 23 = .ok (.iload 4, 2) := by decide +kernel
theorem d_Model_blindOf_25 : decode prog_10_method_51_code 25 = .ok (.imul, 1) := by decide +kernel
theorem d_Model_blindOf_26 : decode prog_10_method_51_code 26 = .ok (.iload_n 1, 1) := by decide +kernel
theorem d_Model_blindOf_27 : decode prog_10_method_51_code 27 = .ok (.iadd, 1) := by decide +kernel
theorem d_Model_blindOf_28 : decode prog_10_method_51_code 28 = .ok (.iaload, 1) := by decide +kernel
theorem d_Model_blindOf_29 : decode prog_10_method_51_code 29 = .ok (.goto 15, 3) := by decide +kernel
theorem d_Model_blindOf_32 : decode prog_10_method_51_code 32 = .ok (.aload_n 0, 1) := by decide +kernel
theorem d_Model_blindOf_33 : decode prog_10_method_51_code 33 = .ok (.getfield 58, 3) := by decide +kernel
theorem d_Model_blindOf_36 : decode prog_10_method_51_code 36 = .ok (.bipush 6, 2) := by decide +kernel
theorem d_Model_blindOf_38 : decode prog_10_method_51_code 38 = .ok (.iload_n 1, 1) := by decide +kernel
theorem d_Model_blindOf_39 : decode prog_10_method_51_code 39 = .ok (.imul, 1) := by decide +kernel
theorem d_Model_blindOf_40 : decode prog_10_method_51_code 40 = .ok (.iload 4, 2) := by decide +kernel
theorem d_Model_blindOf_42 : decode prog_10_method_51_code 42 = .ok (.iadd, 1) := by decide +kernel
theorem d_Model_blindOf_43 : decode prog_10_method_51_code 43 = .ok (.iaload, 1) := by decide +kernel
theorem d_Model_blindOf_44 : decode prog_10_method_51_code 44 = .ok (.iadd, 1) := by decide +kernel
theorem d_Model_blindOf_45 : decode prog_10_method_51_code 45 = .ok (.istore_n 3, 1) := by decide +kernel
theorem d_Model_blindOf_46 : decode prog_10_method_51_code 46 = .ok (.iinc 4 1, 3) := by decide +kernel
theorem d_Model_blindOf_49 : decode prog_10_method_51_code 49 = .ok (.goto (-44), 3) := by decide +kernel
theorem d_Model_blindOf_52 : decode prog_10_method_51_code 52 = .ok (.iload_n 3, 1) := by decide +kernel
theorem d_Model_blindOf_53 : decode prog_10_method_51_code 53 = .ok (.ireturn, 1) := by decide +kernel
theorem d_Model_blindAll_0 : decode prog_10_method_52_code 0 = .ok (.iconst 0, 1) := by decide +kernel
theorem d_Model_blindAll_1 : decode prog_10_method_52_code 1 = .ok (.istore_n 1, 1) := by decide +kernel
theorem d_Model_blindAll_2 : decode prog_10_method_52_code 2 = .ok (.iconst 0, 1) := by decide +kernel
theorem d_Model_blindAll_3 : decode prog_10_method_52_code 3 = .ok (.istore_n 2, 1) := by decide +kernel
theorem d_Model_blindAll_4 : decode prog_10_method_52_code 4 = .ok (.iload_n 2, 1) := by decide +kernel
theorem d_Model_blindAll_5 : decode prog_10_method_52_code 5 = .ok (.bipush 36, 2) := by decide +kernel
theorem d_Model_blindAll_7 : decode prog_10_method_52_code 7 = .ok (.if_icmp .ge 18, 3) := by decide +kernel
theorem d_Model_blindAll_10 : decode prog_10_method_52_code 10 = .ok (.iload_n 1, 1) := by decide +kernel
theorem d_Model_blindAll_11 : decode prog_10_method_52_code 11 = .ok (.aload_n 0, 1) := by decide +kernel
theorem d_Model_blindAll_12 : decode prog_10_method_52_code 12 = .ok (.getfield 58, 3) := by decide +kernel
theorem d_Model_blindAll_15 : decode prog_10_method_52_code 15 = .ok (.iload_n 2, 1) := by decide +kernel
theorem d_Model_blindAll_16 : decode prog_10_method_52_code 16 = .ok (.iaload, 1) := by decide +kernel
theorem d_Model_blindAll_17 : decode prog_10_method_52_code 17 = .ok (.iadd, 1) := by decide +kernel
theorem d_Model_blindAll_18 : decode prog_10_method_52_code 18 = .ok (.istore_n 1, 1) := by decide +kernel
theorem d_Model_blindAll_19 : decode prog_10_method_52_code 19 = .ok (.iinc 2 1, 3) := by decide +kernel
theorem d_Model_blindAll_22 : decode prog_10_method_52_code 22 = .ok (.goto (-18), 3) := by decide +kernel
theorem d_Model_blindAll_25 : decode prog_10_method_52_code 25 = .ok (.iload_n 1, 1) := by decide +kernel
theorem d_Model_blindAll_26 : decode prog_10_method_52_code 26 = .ok (.ireturn, 1) := by decide +kernel
theorem d_Model_blind_0 : decode prog_10_method_53_code 0 = .ok (.aload_n 0, 1) := by decide +kernel
theorem d_Model_blind_1 : decode prog_10_method_53_code 1 = .ok (.iload_n 1, 1) := by decide +kernel
theorem d_Model_blind_2 : decode prog_10_method_53_code 2 = .ok (.invokevirtual 144, 3) := by decide +kernel
theorem d_Model_blind_5 : decode prog_10_method_53_code 5 = .ok (.ifCond .eq 11, 3) := by decide +kernel
theorem d_Model_blind_8 : decode prog_10_method_53_code 8 = .ok (.aload_n 0, 1) := by decide +kernel
theorem d_Model_blind_9 : decode prog_10_method_53_code 9 = .ok (.iload_n 2, 1) := by decide +kernel
theorem d_Model_blind_10 : decode prog_10_method_53_code 10 = .ok (.invokevirtual 144, 3) := by decide +kernel
theorem d_Model_blind_13 : decode prog_10_method_53_code 13 = .ok (.ifCond .ne 5, 3) := by decide +kernel
theorem d_Model_blind_16 : decode prog_10_method_53_code 16 = .ok (.iconst (-1), 1) := by decide +kernel
theorem d_Model_blind_17 : decode prog_10_method_53_code 17 = .ok (.ireturn, 1) := by decide +kernel
theorem d_Model_blind_18 : decode prog_10_method_53_code 18 = .ok (.aload_n 0, 1) := by decide +kernel
theorem d_Model_blind_19 : decode prog_10_method_53_code 19 = .ok (.invokevirtual 230, 3) := by decide +kernel
theorem d_Model_blind_22 : decode prog_10_method_53_code 22 = .ok (.sipush 200, 3) := by decide +kernel
theorem d_Model_blind_25 : decode prog_10_method_53_code 25 = .ok (.if_icmp .ne 6, 3) := by decide +kernel
theorem d_Model_blind_28 : decode prog_10_method_53_code 28 = .ok (.bipush (-3), 2) := by decide +kernel
theorem d_Model_blind_30 : decode prog_10_method_53_code 30 = .ok (.ireturn, 1) := by decide +kernel
theorem d_Model_blind_31 : decode prog_10_method_53_code 31 = .ok (.aload_n 0, 1) := by decide +kernel
theorem d_Model_blind_32 : decode prog_10_method_53_code 32 = .ok (.getfield 58, 3) := by decide +kernel
theorem d_Model_blind_35 : decode prog_10_method_53_code 35 = .ok (.bipush 6, 2) := by decide +kernel
theorem d_Model_blind_37 : decode prog_10_method_53_code 37 = .ok (.iload_n 1, 1) := by decide +kernel
theorem d_Model_blind_38 : decode prog_10_method_53_code 38 = .ok (.imul, 1) := by decide +kernel
theorem d_Model_blind_39 : decode prog_10_method_53_code 39 = .ok (.iload_n 2, 1) := by decide +kernel
theorem d_Model_blind_40 : decode prog_10_method_53_code 40 = .ok (.iadd, 1) := by decide +kernel
theorem d_Model_blind_41 : decode prog_10_method_53_code 41 = .ok (.dup2, 1) := by decide +kernel
theorem d_Model_blind_42 : decode prog_10_method_53_code 42 = .ok (.iaload, 1) := by decide +kernel
theorem d_Model_blind_43 : decode prog_10_method_53_code 43 = .ok (.iconst 1, 1) := by decide +kernel
theorem d_Model_blind_44 : decode prog_10_method_53_code 44 = .ok (.iadd, 1) := by decide +kernel
theorem d_Model_blind_45 : decode prog_10_method_53_code 45 = .ok (.iastore, 1) := by decide +kernel
theorem d_Model_blind_46 : decode prog_10_method_53_code 46 = .ok (.aload_n 0, 1) := by decide +kernel
theorem d_Model_blind_47 : decode prog_10_method_53_code 47 = .ok (.getfield 58, 3) := by decide +kernel
theorem d_Model_blind_50 : decode prog_10_method_53_code 50 = .ok (.bipush 6, 2) := by decide +kernel
theorem d_Model_blind_52 : decode prog_10_method_53_code 52 = .ok (.iload_n 1, 1) := by decide +kernel
theorem d_Model_blind_53 : decode prog_10_method_53_code 53 = .ok (.imul, 1) := by decide +kernel
theorem d_Model_blind_54 : decode prog_10_method_53_code 54 = .ok (.iload_n 2, 1) := by decide +kernel
theorem d_Model_blind_55 : decode prog_10_method_53_code 55 = .ok (.iadd, 1) := by decide +kernel
theorem d_Model_blind_56 : decode prog_10_method_53_code 56 = .ok (.iaload, 1) := by decide +kernel
theorem d_Model_blind_57 : decode prog_10_method_53_code 57 = .ok (.ireturn, 1) := by decide +kernel
theorem d_Model_slips_0 : decode prog_10_method_54_code 0 = .ok (.aload_n 0, 1) := by decide +kernel
theorem d_Model_slips_1 : decode prog_10_method_54_code 1 = .ok (.iload_n 1, 1) := by decide +kernel
theorem d_Model_slips_2 : decode prog_10_method_54_code 2 = .ok (.invokevirtual 144, 3) := by decide +kernel
theorem d_Model_slips_5 : decode prog_10_method_54_code 5 = .ok (.ifCond .eq 21, 3) := by decide +kernel
theorem d_Model_slips_8 : decode prog_10_method_54_code 8 = .ok (.aload_n 0, 1) := by decide +kernel
theorem d_Model_slips_9 : decode prog_10_method_54_code 9 = .ok (.iload_n 2, 1) := by decide +kernel
theorem d_Model_slips_10 : decode prog_10_method_54_code 10 = .ok (.invokevirtual 144, 3) := by decide +kernel
theorem d_Model_slips_13 : decode prog_10_method_54_code 13 = .ok (.ifCond .eq 13, 3) := by decide +kernel
theorem d_Model_slips_16 : decode prog_10_method_54_code 16 = .ok (.iload_n 3, 1) := by decide +kernel
theorem d_Model_slips_17 : decode prog_10_method_54_code 17 = .ok (.i2l, 1) := by decide +kernel
theorem d_Model_slips_18 : decode prog_10_method_54_code 18 = .ok (.lconst 0, 1) := by decide +kernel
theorem d_Model_slips_19 : decode prog_10_method_54_code 19 = .ok (.lconst 1, 1) := by decide +kernel
theorem d_Model_slips_20 : decode prog_10_method_54_code 20 = .ok (.invokestatic 82, 3) := by decide +kernel
theorem d_Model_slips_23 : decode prog_10_method_54_code 23 = .ok (.ifCond .ne 5, 3) := by decide +kernel
theorem d_Model_slips_26 : decode prog_10_method_54_code 26 = .ok (.iconst (-1), 1) := by decide +kernel
theorem d_Model_slips_27 : decode prog_10_method_54_code 27 = .ok (.ireturn, 1) := by decide +kernel
theorem d_Model_slips_28 : decode prog_10_method_54_code 28 = .ok (.aload_n 0, 1) := by decide +kernel
theorem d_Model_slips_29 : decode prog_10_method_54_code 29 = .ok (.iload_n 1, 1) := by decide +kernel
theorem d_Model_slips_30 : decode prog_10_method_54_code 30 = .ok (.iconst 0, 1) := by decide +kernel
theorem d_Model_slips_31 : decode prog_10_method_54_code 31 = .ok (.invokevirtual 233, 3) := by decide +kernel
theorem d_Model_slips_34 : decode prog_10_method_54_code 34 = .ok (.istore 4, 2) := by decide +kernel
theorem d_Model_slips_36 : decode prog_10_method_54_code 36 = .ok (.iload 4, 2) := by decide +kernel
theorem d_Model_slips_38 : decode prog_10_method_54_code 38 = .ok (.ifCond .ne 6, 3) := by decide +kernel
theorem d_Model_slips_41 : decode prog_10_method_54_code 41 = .ok (.bipush (-4), 2) := by decide +kernel
theorem d_Model_slips_43 : decode prog_10_method_54_code 43 = .ok (.ireturn, 1) := by decide +kernel
theorem d_Model_slips_44 : decode prog_10_method_54_code 44 = .ok (.aload_n 0, 1) := by decide +kernel
theorem d_Model_slips_45 : decode prog_10_method_54_code 45 = .ok (.getfield 58, 3) := by decide +kernel
theorem d_Model_slips_48 : decode prog_10_method_54_code 48 = .ok (.bipush 6, 2) := by decide +kernel
theorem d_Model_slips_50 : decode prog_10_method_54_code 50 = .ok (.iload_n 1, 1) := by decide +kernel
theorem d_Model_slips_51 : decode prog_10_method_54_code 51 = .ok (.imul, 1) := by decide +kernel
theorem d_Model_slips_52 : decode prog_10_method_54_code 52 = .ok (.iload_n 2, 1) := by decide +kernel
theorem d_Model_slips_53 : decode prog_10_method_54_code 53 = .ok (.iadd, 1) := by decide +kernel
theorem d_Model_slips_54 : decode prog_10_method_54_code 54 = .ok (.iaload, 1) := by decide +kernel
theorem d_Model_slips_55 : decode prog_10_method_54_code 55 = .ok (.i2l, 1) := by decide +kernel
theorem d_Model_slips_56 : decode prog_10_method_54_code 56 = .ok (.iload 4, 2) := by decide +kernel
theorem d_Model_slips_58 : decode prog_10_method_54_code 58 = .ok (.i2l, 1) := by decide +kernel
theorem d_Model_slips_59 : decode prog_10_method_54_code 59 = .ok (.invokestatic 180, 3) := by decide +kernel
theorem d_Model_slips_62 : decode prog_10_method_54_code 62 = .ok (.l2i, 1) := by decide +kernel
theorem d_Model_slips_63 : decode prog_10_method_54_code 63 = .ok (.istore 5, 2) := by decide +kernel
theorem d_Model_slips_65 : decode prog_10_method_54_code 65 = .ok (.iload_n 3, 1) := by decide +kernel
theorem d_Model_slips_66 : decode prog_10_method_54_code 66 = .ok (.ifCond .ne 20, 3) := by decide +kernel
theorem d_Model_slips_69 : decode prog_10_method_54_code 69 = .ok (.aload_n 0, 1) := by decide +kernel
theorem d_Model_slips_70 : decode prog_10_method_54_code 70 = .ok (.getfield 58, 3) := by decide +kernel
theorem d_Model_slips_73 : decode prog_10_method_54_code 73 = .ok (.bipush 6, 2) := by decide +kernel
theorem d_Model_slips_75 : decode prog_10_method_54_code 75 = .ok (.iload_n 1, 1) := by decide +kernel
theorem d_Model_slips_76 : decode prog_10_method_54_code 76 = .ok (.imul, 1) := by decide +kernel
theorem d_Model_slips_77 : decode prog_10_method_54_code 77 = .ok (.iload_n 2, 1) := by decide +kernel
theorem d_Model_slips_78 : decode prog_10_method_54_code 78 = .ok (.iadd, 1) := by decide +kernel
theorem d_Model_slips_79 : decode prog_10_method_54_code 79 = .ok (.iaload, 1) := by decide +kernel
theorem d_Model_slips_80 : decode prog_10_method_54_code 80 = .ok (.iload 5, 2) := by decide +kernel
theorem d_Model_slips_82 : decode prog_10_method_54_code 82 = .ok (.idiv, 1) := by decide +kernel
theorem d_Model_slips_83 : decode prog_10_method_54_code 83 = .ok (.goto 8, 3) := by decide +kernel
theorem d_Model_slips_86 : decode prog_10_method_54_code 86 = .ok (.iload 4, 2) := by decide +kernel
theorem d_Model_slips_88 : decode prog_10_method_54_code 88 = .ok (.iload 5, 2) := by decide +kernel
theorem d_Model_slips_90 : decode prog_10_method_54_code 90 = .ok (.idiv, 1) := by decide +kernel
theorem d_Model_slips_91 : decode prog_10_method_54_code 91 = .ok (.ireturn, 1) := by decide +kernel
theorem d_Model_lean_0 : decode prog_10_method_55_code 0 = .ok (.aload_n 0, 1) := by decide +kernel
theorem d_Model_lean_1 : decode prog_10_method_55_code 1 = .ok (.iload_n 1, 1) := by decide +kernel
theorem d_Model_lean_2 : decode prog_10_method_55_code 2 = .ok (.invokevirtual 144, 3) := by decide +kernel
theorem d_Model_lean_5 : decode prog_10_method_55_code 5 = .ok (.ifCond .eq 19, 3) := by decide +kernel
theorem d_Model_lean_8 : decode prog_10_method_55_code 8 = .ok (.aload_n 0, 1) := by decide +kernel
theorem d_Model_lean_9 : decode prog_10_method_55_code 9 = .ok (.iload_n 1, 1) := by decide +kernel
theorem d_Model_lean_10 : decode prog_10_method_55_code 10 = .ok (.iconst 1, 1) := by decide +kernel
theorem d_Model_lean_11 : decode prog_10_method_55_code 11 = .ok (.invokevirtual 233, 3) := by decide +kernel
theorem d_Model_lean_14 : decode prog_10_method_55_code 14 = .ok (.aload_n 0, 1) := by decide +kernel
theorem d_Model_lean_15 : decode prog_10_method_55_code 15 = .ok (.iload_n 1, 1) := by decide +kernel
theorem d_Model_lean_16 : decode prog_10_method_55_code 16 = .ok (.iconst 0, 1) := by decide +kernel
theorem d_Model_lean_17 : decode prog_10_method_55_code 17 = .ok (.invokevirtual 233, 3) := by decide +kernel
theorem d_Model_lean_20 : decode prog_10_method_55_code 20 = .ok (.isub, 1) := by decide +kernel
theorem d_Model_lean_21 : decode prog_10_method_55_code 21 = .ok (.goto 6, 3) := by decide +kernel
theorem d_Model_lean_24 : decode prog_10_method_55_code 24 = .ok (.sipush (-1000), 3) := by decide +kernel
theorem d_Model_lean_27 : decode prog_10_method_55_code 27 = .ok (.ireturn, 1) := by decide +kernel
theorem d_Model_right_0 : decode prog_10_method_56_code 0 = .ok (.aload_n 0, 1) := by decide +kernel
theorem d_Model_right_1 : decode prog_10_method_56_code 1 = .ok (.iload_n 1, 1) := by decide +kernel
theorem d_Model_right_2 : decode prog_10_method_56_code 2 = .ok (.invokevirtual 144, 3) := by decide +kernel
theorem d_Model_right_5 : decode prog_10_method_56_code 5 = .ok (.ifCond .eq 15, 3) := by decide +kernel
theorem d_Model_right_8 : decode prog_10_method_56_code 8 = .ok (.iload_n 2, 1) := by decide +kernel
theorem d_Model_right_9 : decode prog_10_method_56_code 9 = .ok (.i2l, 1) := by decide +kernel
theorem d_Model_right_10 : decode prog_10_method_56_code 10 = .ok (.lconst 0, 1) := by decide +kernel
theorem d_Model_right_11 : decode prog_10_method_56_code 11 = .ok (.ldc2_w 237, 3) := by decide +kernel
theorem d_Model_right_14 : decode prog_10_method_56_code 14 = .ok (.invokestatic 82, 3) := by decide +kernel
theorem d_Model_right_17 : decode prog_10_method_56_code 17 = .ok (.ifCond .ne 5, 3) := by decide +kernel
theorem d_Model_right_20 : decode prog_10_method_56_code 20 = .ok (.iconst (-1), 1) := by decide +kernel
theorem d_Model_right_21 : decode prog_10_method_56_code 21 = .ok (.ireturn, 1) := by decide +kernel
theorem d_Model_right_22 : decode prog_10_method_56_code 22 = .ok (.aload_n 0, 1) := by decide +kernel
theorem d_Model_right_23 : decode prog_10_method_56_code 23 = .ok (.iload_n 1, 1) := by decide +kernel
theorem d_Model_right_24 : decode prog_10_method_56_code 24 = .ok (.iconst 1, 1) := by decide +kernel
theorem d_Model_right_25 : decode prog_10_method_56_code 25 = .ok (.invokevirtual 233, 3) := by decide +kernel
theorem d_Model_right_28 : decode prog_10_method_56_code 28 = .ok (.istore_n 3, 1) := by decide +kernel
theorem d_Model_right_29 : decode prog_10_method_56_code 29 = .ok (.iload_n 3, 1) := by decide +kernel
theorem d_Model_right_30 : decode prog_10_method_56_code 30 = .ok (.ifCond .ne 8, 3) := by decide +kernel
theorem d_Model_right_33 : decode prog_10_method_56_code 33 = .ok (.bipush (-4), 2) := by decide +kernel
theorem d_Model_right_35 : decode prog_10_method_56_code 35 = .ok (.goto 13, 3) := by decide +kernel
theorem d_Model_right_38 : decode prog_10_method_56_code 38 = .ok (.iload_n 2, 1) := by decide +kernel
theorem d_Model_right_39 : decode prog_10_method_56_code 39 = .ok (.aload_n 0, 1) := by decide +kernel
theorem d_Model_right_40 : decode prog_10_method_56_code 40 = .ok (.iload_n 1, 1) := by decide +kernel
theorem d_Model_right_41 : decode prog_10_method_56_code 41 = .ok (.iconst 0, 1) := by decide +kernel
theorem d_Model_right_42 : decode prog_10_method_56_code 42 = .ok (.invokevirtual 233, 3) := by decide +kernel
theorem d_Model_right_45 : decode prog_10_method_56_code 45 = .ok (.imul, 1) := by decide +kernel
theorem d_Model_right_46 : decode prog_10_method_56_code 46 = .ok (.iload_n 3, 1) := by decide +kernel
theorem d_Model_right_47 : decode prog_10_method_56_code 47 = .ok (.idiv, 1) := by decide +kernel
theorem d_Model_right_48 : decode prog_10_method_56_code 48 = .ok (.ireturn, 1) := by decide +kernel
theorem d_Model_teeth_0 : decode prog_10_method_57_code 0 = .ok (.iload_n 1, 1) := by decide +kernel
theorem d_Model_teeth_1 : decode prog_10_method_57_code 1 = .ok (.i2l, 1) := by decide +kernel
theorem d_Model_teeth_2 : decode prog_10_method_57_code 2 = .ok (.lconst 0, 1) := by decide +kernel
theorem d_Model_teeth_3 : decode prog_10_method_57_code 3 = .ok (.iconst 1, 1) := by decide +kernel
theorem d_Model_teeth_4 : decode prog_10_method_57_code 4 = .ok (.aload_n 0, 1) := by decide +kernel
theorem d_Model_teeth_5 : decode prog_10_method_57_code 5 = .ok (.getfield 13, 3) := by decide +kernel
theorem d_Model_teeth_8 : decode prog_10_method_57_code 8 = .ok (.iconst 0, 1) := by decide +kernel
theorem d_Model_teeth_9 : decode prog_10_method_57_code 9 = .ok (.iaload, 1) := by decide +kernel
theorem d_Model_teeth_10 : decode prog_10_method_57_code 10 = .ok (.ishl, 1) := by decide +kernel
theorem d_Model_teeth_11 : decode prog_10_method_57_code 11 = .ok (.iconst 1, 1) := by decide +kernel
theorem d_Model_teeth_12 : decode prog_10_method_57_code 12 = .ok (.isub, 1) := by decide +kernel
theorem d_Model_teeth_13 : decode prog_10_method_57_code 13 = .ok (.i2l, 1) := by decide +kernel
theorem d_Model_teeth_14 : decode prog_10_method_57_code 14 = .ok (.invokestatic 82, 3) := by decide +kernel
theorem d_Model_teeth_17 : decode prog_10_method_57_code 17 = .ok (.ifCond .ne 5, 3) := by decide +kernel
theorem d_Model_teeth_20 : decode prog_10_method_57_code 20 = .ok (.iconst (-1), 1) := by decide +kernel
theorem d_Model_teeth_21 : decode prog_10_method_57_code 21 = .ok (.ireturn, 1) := by decide +kernel
theorem d_Model_teeth_22 : decode prog_10_method_57_code 22 = .ok (.aload_n 0, 1) := by decide +kernel
theorem d_Model_teeth_23 : decode prog_10_method_57_code 23 = .ok (.getfield 61, 3) := by decide +kernel
theorem d_Model_teeth_26 : decode prog_10_method_57_code 26 = .ok (.iconst 0, 1) := by decide +kernel
theorem d_Model_teeth_27 : decode prog_10_method_57_code 27 = .ok (.iaload, 1) := by decide +kernel
theorem d_Model_teeth_28 : decode prog_10_method_57_code 28 = .ok (.istore_n 2, 1) := by decide +kernel
theorem d_Model_teeth_29 : decode prog_10_method_57_code 29 = .ok (.aload_n 0, 1) := by decide +kernel
theorem d_Model_teeth_30 : decode prog_10_method_57_code 30 = .ok (.getfield 61, 3) := by decide +kernel
theorem d_Model_teeth_33 : decode prog_10_method_57_code 33 = .ok (.iconst 0, 1) := by decide +kernel
theorem d_Model_teeth_34 : decode prog_10_method_57_code 34 = .ok (.iload_n 1, 1) := by decide +kernel
theorem d_Model_teeth_35 : decode prog_10_method_57_code 35 = .ok (.iastore, 1) := by decide +kernel
theorem d_Model_teeth_36 : decode prog_10_method_57_code 36 = .ok (.iload_n 2, 1) := by decide +kernel
theorem d_Model_teeth_37 : decode prog_10_method_57_code 37 = .ok (.ireturn, 1) := by decide +kernel
theorem d_Model_eaten_0 : decode prog_10_method_58_code 0 = .ok (.aload_n 0, 1) := by decide +kernel
theorem d_Model_eaten_1 : decode prog_10_method_58_code 1 = .ok (.iload_n 1, 1) := by decide +kernel
theorem d_Model_eaten_2 : decode prog_10_method_58_code 2 = .ok (.invokevirtual 131, 3) := by decide +kernel
theorem d_Model_eaten_5 : decode prog_10_method_58_code 5 = .ok (.ifCond .eq 31, 3) := by decide +kernel
theorem d_Model_eaten_8 : decode prog_10_method_58_code 8 = .ok (.iload_n 2, 1) := by decide +kernel
theorem d_Model_eaten_9 : decode prog_10_method_58_code 9 = .ok (.i2l, 1) := by decide +kernel
theorem d_Model_eaten_10 : decode prog_10_method_58_code 10 = .ok (.lconst 0, 1) := by decide +kernel
theorem d_Model_eaten_11 : decode prog_10_method_58_code 11 = .ok (.ldc2_w 210, 3) := by decide +kernel
theorem d_Model_eaten_14 : decode prog_10_method_58_code 14 = .ok (.invokestatic 82, 3) := by decide +kernel
theorem d_Model_eaten_17 : decode prog_10_method_58_code 17 = .ok (.ifCond .eq 19, 3) := by decide +kernel
theorem d_Model_eaten_20 : decode prog_10_method_58_code 20 = .ok (.aload_n 0, 1) := by decide +kernel
theorem d_Model_eaten_21 : decode prog_10_method_58_code 21 = .ok (.iload_n 1, 1) := by decide +kernel
theorem d_Model_eaten_22 : decode prog_10_method_58_code 22 = .ok (.iload_n 2, 1) := by decide +kernel
theorem d_Model_eaten_23 : decode prog_10_method_58_code 23 = .ok (.invokevirtual 225, 3) := by decide +kernel
theorem d_Model_eaten_26 : decode prog_10_method_58_code 26 = .ok (.aload_n 0, 1) := by decide +kernel
theorem d_Model_eaten_27 : decode prog_10_method_58_code 27 = .ok (.getfield 61, 3) := by decide +kernel
theorem d_Model_eaten_30 : decode prog_10_method_58_code 30 = .ok (.iconst 0, 1) := by decide +kernel
theorem d_Model_eaten_31 : decode prog_10_method_58_code 31 = .ok (.iaload, 1) := by decide +kernel
theorem d_Model_eaten_32 : decode prog_10_method_58_code 32 = .ok (.iand, 1) := by decide +kernel
theorem d_Model_eaten_33 : decode prog_10_method_58_code 33 = .ok (.goto 4, 3) := by decide +kernel
theorem d_Model_eaten_36 : decode prog_10_method_58_code 36 = .ok (.iconst (-1), 1) := by decide +kernel
theorem d_Model_eaten_37 : decode prog_10_method_58_code 37 = .ok (.ireturn, 1) := by decide +kernel
theorem d_Model_readArea_0 : decode prog_10_method_59_code 0 = .ok (.iconst 0, 1) := by decide +kernel
theorem d_Model_readArea_1 : decode prog_10_method_59_code 1 = .ok (.istore_n 2, 1) := by decide +kernel
theorem d_Model_readArea_2 : decode prog_10_method_59_code 2 = .ok (.iconst 0, 1) := by decide +kernel
theorem d_Model_readArea_3 : decode prog_10_method_59_code 3 = .ok (.istore_n 3, 1) := by decide +kernel
theorem d_Model_readArea_4 : decode prog_10_method_59_code 4 = .ok (.iload_n 3, 1) := by decide +kernel
theorem d_Model_readArea_5 : decode prog_10_method_59_code 5 = .ok (.aload_n 0, 1) := by decide +kernel
theorem d_Model_readArea_6 : decode prog_10_method_59_code 6 = .ok (.getfield 19, 3) := by decide +kernel
theorem d_Model_readArea_9 : decode prog_10_method_59_code 9 = .ok (.iconst 0, 1) := by decide +kernel
theorem d_Model_readArea_10 : decode prog_10_method_59_code 10 = .ok (.iaload, 1) := by decide +kernel
theorem d_Model_readArea_11 : decode prog_10_method_59_code 11 = .ok (.if_icmp .ge 51, 3) := by decide +kernel
theorem d_Model_readArea_14 : decode prog_10_method_59_code 14 = .ok (.iload_n 2, 1) := by decide +kernel
theorem d_Model_readArea_15 : decode prog_10_method_59_code 15 = .ok (.aload_n 0, 1) := by decide +kernel
theorem d_Model_readArea_16 : decode prog_10_method_59_code 16 = .ok (.getfield 25, 3) := by decide +kernel
theorem d_Model_readArea_19 : decode prog_10_method_59_code 19 = .ok (.iload_n 3, 1) := by decide +kernel
theorem d_Model_readArea_20 : decode prog_10_method_59_code 20 = .ok (.iaload, 1) := by decide +kernel
theorem d_Model_readArea_21 : decode prog_10_method_59_code 21 = .ok (.ifCond .eq 32, 3) := by decide +kernel
theorem d_Model_readArea_24 : decode prog_10_method_59_code 24 = .ok (.aload_n 0, 1) := by decide +kernel
theorem d_Model_readArea_25 : decode prog_10_method_59_code 25 = .ok (.getfield 22, 3) := by decide +kernel
theorem d_Model_readArea_28 : decode prog_10_method_59_code 28 = .ok (.iload_n 3, 1) := by decide +kernel
theorem d_Model_readArea_29 : decode prog_10_method_59_code 29 = .ok (.iaload, 1) := by decide +kernel
theorem d_Model_readArea_30 : decode prog_10_method_59_code 30 = .ok (.iload_n 1, 1) := by decide +kernel
theorem d_Model_readArea_31 : decode prog_10_method_59_code 31 = .ok (.if_icmp .ne 22, 3) := by decide +kernel
theorem d_Model_readArea_34 : decode prog_10_method_59_code 34 = .ok (.aload_n 0, 1) := by decide +kernel
theorem d_Model_readArea_35 : decode prog_10_method_59_code 35 = .ok (.getfield 55, 3) := by decide +kernel
theorem d_Model_readArea_38 : decode prog_10_method_59_code 38 = .ok (.iload_n 3, 1) := by decide +kernel
theorem d_Model_readArea_39 : decode prog_10_method_59_code 39 = .ok (.iaload, 1) := by decide +kernel
theorem d_Model_readArea_40 : decode prog_10_method_59_code 40 = .ok (.iconst 1, 1) := by decide +kernel
theorem d_Model_readArea_41 : decode prog_10_method_59_code 41 = .ok (.if_icmp .ne 12, 3) := by decide +kernel
theorem d_Model_readArea_44 : decode prog_10_method_59_code 44 = .ok (.aload_n 0, 1) := by decide +kernel
theorem d_Model_readArea_45 : decode prog_10_method_59_code 45 = .ok (.getfield 28, 3) := by decide +kernel
theorem d_Model_readArea_48 : decode prog_10_method_59_code 48 = .ok (.iload_n 3, 1) := by decide +kernel
theorem d_Model_readArea_49 : decode prog_10_method_59_code 49 = .ok (.iaload, 1) := by decide +kernel
theorem d_Model_readArea_50 : decode prog_10_method_59_code 50 = .ok (.goto 4, 3) := by decide +kernel
theorem d_Model_readArea_53 : decode prog_10_method_59_code 53 = .ok (.iconst 0, 1) := by decide +kernel
theorem d_Model_readArea_54 : decode prog_10_method_59_code 54 = .ok (.iadd, 1) := by decide +kernel
theorem d_Model_readArea_55 : decode prog_10_method_59_code 55 = .ok (.istore_n 2, 1) := by decide +kernel
theorem d_Model_readArea_56 : decode prog_10_method_59_code 56 = .ok (.iinc 3 1, 3) := by decide +kernel
theorem d_Model_readArea_59 : decode prog_10_method_59_code 59 = .ok (.goto (-55), 3) := by decide +kernel
theorem d_Model_readArea_62 : decode prog_10_method_59_code 62 = .ok (.iload_n 2, 1) := by decide +kernel
theorem d_Model_readArea_63 : decode prog_10_method_59_code 63 = .ok (.ireturn, 1) := by decide +kernel
theorem d_Model_next_0 : decode prog_10_method_60_code 0 = .ok (.bipush (-4), 2) := by decide +kernel
theorem d_Model_next_2 : decode prog_10_method_60_code 2 = .ok (.istore_n 1, 1) := by decide +kernel
theorem d_Model_next_3 : decode prog_10_method_60_code 3 = .ok (.iconst 0, 1) := by decide +kernel
theorem d_Model_next_4 : decode prog_10_method_60_code 4 = .ok (.istore_n 2, 1) := by decide +kernel
theorem d_Model_next_5 : decode prog_10_method_60_code 5 = .ok (.iload_n 2, 1) := by decide +kernel
theorem d_Model_next_6 : decode prog_10_method_60_code 6 = .ok (.aload_n 0, 1) := by decide +kernel
theorem d_Model_next_7 : decode prog_10_method_60_code 7 = .ok (.getfield 19, 3) := by decide +kernel
theorem d_Model_next_10 : decode prog_10_method_60_code 10 = .ok (.iconst 0, 1) := by decide +kernel
theorem d_Model_next_11 : decode prog_10_method_60_code 11 = .ok (.iaload, 1) := by decide +kernel
theorem d_Model_next_12 : decode prog_10_method_60_code 12 = .ok (.if_icmp .ge 70, 3) := by decide +kernel
theorem d_Model_next_15 : decode prog_10_method_60_code 15 = .ok (.aload_n 0, 1) := by decide +kernel
theorem d_Model_next_16 : decode prog_10_method_60_code 16 = .ok (.getfield 25, 3) := by decide +kernel
theorem d_Model_next_19 : decode prog_10_method_60_code 19 = .ok (.iload_n 2, 1) := by decide +kernel
theorem d_Model_next_20 : decode prog_10_method_60_code 20 = .ok (.iaload, 1) := by decide +kernel
theorem d_Model_next_21 : decode prog_10_method_60_code 21 = .ok (.ifCond .ne 16, 3) := by decide +kernel
theorem d_Model_next_24 : decode prog_10_method_60_code 24 = .ok (.aload_n 0, 1) := by decide +kernel
theorem d_Model_next_25 : decode prog_10_method_60_code 25 = .ok (.getfield 55, 3) := by decide +kernel
theorem d_Model_next_28 : decode prog_10_method_60_code 28 = .ok (.iload_n 2, 1) := by decide +kernel
theorem d_Model_next_29 : decode prog_10_method_60_code 29 = .ok (.iaload, 1) := by decide +kernel
theorem d_Model_next_30 : decode prog_10_method_60_code 30 = .ok (.ifCond .ne 7, 3) := by decide +kernel
theorem d_Model_next_33 : decode prog_10_method_60_code 33 = .ok (.iconst 1, 1) := by decide +kernel
theorem d_Model_next_34 : decode prog_10_method_60_code 34 = .ok (.goto 4, 3) := by decide +kernel
theorem d_Model_next_37 : decode prog_10_method_60_code 37 = .ok (.iconst 0, 1) := by decide +kernel
theorem d_Model_next_38 : decode prog_10_method_60_code 38 = .ok (.istore_n 3, 1) := by decide +kernel
theorem d_Model_next_39 : decode prog_10_method_60_code 39 = .ok (.iload_n 3, 1) := by decide +kernel
theorem d_Model_next_40 : decode prog_10_method_60_code 40 = .ok (.ifCond .eq 34, 3) := by decide +kernel
theorem d_Model_next_43 : decode prog_10_method_60_code 43 = .ok (.iload_n 1, 1) := by decide +kernel
theorem d_Model_next_44 : decode prog_10_method_60_code 44 = .ok (.ifCond .lt 26, 3) := by decide +kernel
theorem d_Model_next_47 : decode prog_10_method_60_code 47 = .ok (.aload_n 0, 1) := by decide +kernel
theorem d_Model_next_48 : decode prog_10_method_60_code 48 = .ok (.aload_n 0, 1) := by decide +kernel
theorem d_Model_next_49 : decode prog_10_method_60_code 49 = .ok (.getfield 22, 3) := by decide +kernel
theorem d_Model_next_52 : decode prog_10_method_60_code 52 = .ok (.iload_n 2, 1) := by decide +kernel
theorem d_Model_next_53 : decode prog_10_method_60_code 53 = .ok (.iaload, 1) := by decide +kernel
theorem d_Model_next_54 : decode prog_10_method_60_code 54 = .ok (.invokevirtual 239, 3) := by decide +kernel
theorem d_Model_next_57 : decode prog_10_method_60_code 57 = .ok (.aload_n 0, 1) := by decide +kernel
theorem d_Model_next_58 : decode prog_10_method_60_code 58 = .ok (.aload_n 0, 1) := by decide +kernel
theorem d_Model_next_59 : decode prog_10_method_60_code 59 = .ok (.getfield 22, 3) := by decide +kernel
theorem d_Model_next_62 : decode prog_10_method_60_code 62 = .ok (.iload_n 1, 1) := by decide +kernel
theorem d_Model_next_63 : decode prog_10_method_60_code 63 = .ok (.iaload, 1) := by decide +kernel
theorem d_Model_next_64 : decode prog_10_method_60_code 64 = .ok (.invokevirtual 239, 3) := by decide +kernel
theorem d_Model_next_67 : decode prog_10_method_60_code 67 = .ok (.if_icmp .le 7, 3) := by decide +kernel
theorem d_Model_next_70 : decode prog_10_method_60_code 70 = .ok (.iload_n 2, 1) := by decide +kernel
theorem d_Model_next_71 : decode prog_10_method_60_code 71 = .ok (.goto 4, 3) := by decide +kernel
theorem d_Model_next_74 : decode prog_10_method_60_code 74 = .ok (.iload_n 1, 1) := by decide +kernel
theorem d_Model_next_75 : decode prog_10_method_60_code 75 = .ok (.istore_n 1, 1) := by decide +kernel
theorem d_Model_next_76 : decode prog_10_method_60_code 76 = .ok (.iinc 2 1, 3) := by decide +kernel
theorem d_Model_next_79 : decode prog_10_method_60_code 79 = .ok (.goto (-74), 3) := by decide +kernel
theorem d_Model_next_82 : decode prog_10_method_60_code 82 = .ok (.iload_n 1, 1) := by decide +kernel
theorem d_Model_next_83 : decode prog_10_method_60_code 83 = .ok (.ireturn, 1) := by decide +kernel
theorem d_Model_copy_0 : decode prog_10_method_61_code 0 = .ok (.iconst 0, 1) := by decide +kernel
theorem d_Model_copy_1 : decode prog_10_method_61_code 1 = .ok (.istore_n 3, 1) := by decide +kernel
theorem d_Model_copy_2 : decode prog_10_method_61_code 2 = .ok (.iload_n 3, 1) := by decide +kernel
theorem d_Model_copy_3 : decode prog_10_method_61_code 3 = .ok (.bipush 60, 2) := by decide +kernel
theorem d_Model_copy_5 : decode prog_10_method_61_code 5 = .ok (.if_icmp .ge 31, 3) := by decide +kernel
theorem d_Model_copy_8 : decode prog_10_method_61_code 8 = .ok (.aload_n 0, 1) := by decide +kernel
theorem d_Model_copy_9 : decode prog_10_method_61_code 9 = .ok (.getfield 52, 3) := by decide +kernel
theorem d_Model_copy_12 : decode prog_10_method_61_code 12 = .ok (.bipush 60, 2) := by decide +kernel
theorem d_Model_copy_14 : decode prog_10_method_61_code 14 = .ok (.iload_n 2, 1) := by decide +kernel
theorem d_Model_copy_15 : decode prog_10_method_61_code 15 = .ok (.imul, 1) := by decide +kernel
theorem d_Model_copy_16 : decode prog_10_method_61_code 16 = .ok (.iload_n 3, 1) := by decide +kernel
theorem d_Model_copy_17 : decode prog_10_method_61_code 17 = .ok (.iadd, 1) := by decide +kernel
theorem d_Model_copy_18 : decode prog_10_method_61_code 18 = .ok (.aload_n 0, 1) := by decide +kernel
theorem d_Model_copy_19 : decode prog_10_method_61_code 19 = .ok (.getfield 52, 3) := by decide +kernel
theorem d_Model_copy_22 : decode prog_10_method_61_code 22 = .ok (.bipush 60, 2) := by decide +kernel
theorem d_Model_copy_24 : decode prog_10_method_61_code 24 = .ok (.iload_n 1, 1) := by decide +kernel
theorem d_Model_copy_25 : decode prog_10_method_61_code 25 = .ok (.imul, 1) := by decide +kernel
theorem d_Model_copy_26 : decode prog_10_method_61_code 26 = .ok (.iload_n 3, 1) := by decide +kernel
theorem d_Model_copy_27 : decode prog_10_method_61_code 27 = .ok (.iadd, 1) := by decide +kernel
theorem d_Model_copy_28 : decode prog_10_method_61_code 28 = .ok (.iaload, 1) := by decide +kernel
theorem d_Model_copy_29 : decode prog_10_method_61_code 29 = .ok (.iastore, 1) := by decide +kernel
theorem d_Model_copy_30 : decode prog_10_method_61_code 30 = .ok (.iinc 3 1, 3) := by decide +kernel
theorem d_Model_copy_33 : decode prog_10_method_61_code 33 = .ok (.goto (-31), 3) := by decide +kernel
theorem d_Model_copy_36 : decode prog_10_method_61_code 36 = .ok (.iconst 0, 1) := by decide +kernel
theorem d_Model_copy_37 : decode prog_10_method_61_code 37 = .ok (.istore_n 3, 1) := by decide +kernel
theorem d_Model_copy_38 : decode prog_10_method_61_code 38 = .ok (.iload_n 3, 1) := by decide +kernel
theorem d_Model_copy_39 : decode prog_10_method_61_code 39 = .ok (.bipush 10, 2) := by decide +kernel
theorem d_Model_copy_41 : decode prog_10_method_61_code 41 = .ok (.if_icmp .ge 31, 3) := by decide +kernel
theorem d_Model_copy_44 : decode prog_10_method_61_code 44 = .ok (.aload_n 0, 1) := by decide +kernel
theorem d_Model_copy_45 : decode prog_10_method_61_code 45 = .ok (.getfield 55, 3) := by decide +kernel
theorem d_Model_copy_48 : decode prog_10_method_61_code 48 = .ok (.bipush 10, 2) := by decide +kernel
theorem d_Model_copy_50 : decode prog_10_method_61_code 50 = .ok (.iload_n 2, 1) := by decide +kernel
theorem d_Model_copy_51 : decode prog_10_method_61_code 51 = .ok (.imul, 1) := by decide +kernel
theorem d_Model_copy_52 : decode prog_10_method_61_code 52 = .ok (.iload_n 3, 1) := by decide +kernel
theorem d_Model_copy_53 : decode prog_10_method_61_code 53 = .ok (.iadd, 1) := by decide +kernel
theorem d_Model_copy_54 : decode prog_10_method_61_code 54 = .ok (.aload_n 0, 1) := by decide +kernel
theorem d_Model_copy_55 : decode prog_10_method_61_code 55 = .ok (.getfield 55, 3) := by decide +kernel
theorem d_Model_copy_58 : decode prog_10_method_61_code 58 = .ok (.bipush 10, 2) := by decide +kernel
theorem d_Model_copy_60 : decode prog_10_method_61_code 60 = .ok (.iload_n 1, 1) := by decide +kernel
theorem d_Model_copy_61 : decode prog_10_method_61_code 61 = .ok (.imul, 1) := by decide +kernel
theorem d_Model_copy_62 : decode prog_10_method_61_code 62 = .ok (.iload_n 3, 1) := by decide +kernel
theorem d_Model_copy_63 : decode prog_10_method_61_code 63 = .ok (.iadd, 1) := by decide +kernel
theorem d_Model_copy_64 : decode prog_10_method_61_code 64 = .ok (.iaload, 1) := by decide +kernel
theorem d_Model_copy_65 : decode prog_10_method_61_code 65 = .ok (.iastore, 1) := by decide +kernel
theorem d_Model_copy_66 : decode prog_10_method_61_code 66 = .ok (.iinc 3 1, 3) := by decide +kernel
theorem d_Model_copy_69 : decode prog_10_method_61_code 69 = .ok (.goto (-31), 3) := by decide +kernel
theorem d_Model_copy_72 : decode prog_10_method_61_code 72 = .ok (.iconst 0, 1) := by decide +kernel
theorem d_Model_copy_73 : decode prog_10_method_61_code 73 = .ok (.istore_n 3, 1) := by decide +kernel
theorem d_Model_copy_74 : decode prog_10_method_61_code 74 = .ok (.iload_n 3, 1) := by decide +kernel
theorem d_Model_copy_75 : decode prog_10_method_61_code 75 = .ok (.bipush 36, 2) := by decide +kernel
theorem d_Model_copy_77 : decode prog_10_method_61_code 77 = .ok (.if_icmp .ge 31, 3) := by decide +kernel
theorem d_Model_copy_80 : decode prog_10_method_61_code 80 = .ok (.aload_n 0, 1) := by decide +kernel
theorem d_Model_copy_81 : decode prog_10_method_61_code 81 = .ok (.getfield 58, 3) := by decide +kernel
theorem d_Model_copy_84 : decode prog_10_method_61_code 84 = .ok (.bipush 36, 2) := by decide +kernel
theorem d_Model_copy_86 : decode prog_10_method_61_code 86 = .ok (.iload_n 2, 1) := by decide +kernel
theorem d_Model_copy_87 : decode prog_10_method_61_code 87 = .ok (.imul, 1) := by decide +kernel
theorem d_Model_copy_88 : decode prog_10_method_61_code 88 = .ok (.iload_n 3, 1) := by decide +kernel
theorem d_Model_copy_89 : decode prog_10_method_61_code 89 = .ok (.iadd, 1) := by decide +kernel
theorem d_Model_copy_90 : decode prog_10_method_61_code 90 = .ok (.aload_n 0, 1) := by decide +kernel
theorem d_Model_copy_91 : decode prog_10_method_61_code 91 = .ok (.getfield 58, 3) := by decide +kernel
theorem d_Model_copy_94 : decode prog_10_method_61_code 94 = .ok (.bipush 36, 2) := by decide +kernel
theorem d_Model_copy_96 : decode prog_10_method_61_code 96 = .ok (.iload_n 1, 1) := by decide +kernel
theorem d_Model_copy_97 : decode prog_10_method_61_code 97 = .ok (.imul, 1) := by decide +kernel
theorem d_Model_copy_98 : decode prog_10_method_61_code 98 = .ok (.iload_n 3, 1) := by decide +kernel
theorem d_Model_copy_99 : decode prog_10_method_61_code 99 = .ok (.iadd, 1) := by decide +kernel
theorem d_Model_copy_100 : decode prog_10_method_61_code 100 = .ok (.iaload, 1) := by decide +kernel
theorem d_Model_copy_101 : decode prog_10_method_61_code 101 = .ok (.iastore, 1) := by decide +kernel
theorem d_Model_copy_102 : decode prog_10_method_61_code 102 = .ok (.iinc 3 1, 3) := by decide +kernel
theorem d_Model_copy_105 : decode prog_10_method_61_code 105 = .ok (.goto (-31), 3) := by decide +kernel
theorem d_Model_copy_108 : decode prog_10_method_61_code 108 = .ok (.aload_n 0, 1) := by decide +kernel
theorem d_Model_copy_109 : decode prog_10_method_61_code 109 = .ok (.getfield 61, 3) := by decide +kernel
theorem d_Model_copy_112 : decode prog_10_method_61_code 112 = .ok (.iload_n 2, 1) := by decide +kernel
theorem d_Model_copy_113 : decode prog_10_method_61_code 113 = .ok (.aload_n 0, 1) := by decide +kernel
theorem d_Model_copy_114 : decode prog_10_method_61_code 114 = .ok (.getfield 61, 3) := by decide +kernel
theorem d_Model_copy_117 : decode prog_10_method_61_code 117 = .ok (.iload_n 1, 1) := by decide +kernel
theorem d_Model_copy_118 : decode prog_10_method_61_code 118 = .ok (.iaload, 1) := by decide +kernel
theorem d_Model_copy_119 : decode prog_10_method_61_code 119 = .ok (.iastore, 1) := by decide +kernel
theorem d_Model_copy_120 : decode prog_10_method_61_code 120 = .ok (.return_, 1) := by decide +kernel
theorem d_Model_keep_0 : decode prog_10_method_62_code 0 = .ok (.aload_n 0, 1) := by decide +kernel
theorem d_Model_keep_1 : decode prog_10_method_62_code 1 = .ok (.getfield 128, 3) := by decide +kernel
theorem d_Model_keep_4 : decode prog_10_method_62_code 4 = .ok (.iconst 2, 1) := by decide +kernel
theorem d_Model_keep_5 : decode prog_10_method_62_code 5 = .ok (.if_icmp .ne 6, 3) := by decide +kernel
theorem d_Model_keep_8 : decode prog_10_method_62_code 8 = .ok (.bipush (-3), 2) := by decide +kernel
theorem d_Model_keep_10 : decode prog_10_method_62_code 10 = .ok (.ireturn, 1) := by decide +kernel
theorem d_Model_keep_11 : decode prog_10_method_62_code 11 = .ok (.aload_n 0, 1) := by decide +kernel
theorem d_Model_keep_12 : decode prog_10_method_62_code 12 = .ok (.dup, 1) := by decide +kernel
theorem d_Model_keep_13 : decode prog_10_method_62_code 13 = .ok (.getfield 128, 3) := by decide +kernel
theorem d_Model_keep_16 : decode prog_10_method_62_code 16 = .ok (.iconst 1, 1) := by decide +kernel
theorem d_Model_keep_17 : decode prog_10_method_62_code 17 = .ok (.iadd, 1) := by decide +kernel
theorem d_Model_keep_18 : decode prog_10_method_62_code 18 = .ok (.putfield 128, 3) := by decide +kernel
theorem d_Model_keep_21 : decode prog_10_method_62_code 21 = .ok (.aload_n 0, 1) := by decide +kernel
theorem d_Model_keep_22 : decode prog_10_method_62_code 22 = .ok (.iconst 0, 1) := by decide +kernel
theorem d_Model_keep_23 : decode prog_10_method_62_code 23 = .ok (.aload_n 0, 1) := by decide +kernel
theorem d_Model_keep_24 : decode prog_10_method_62_code 24 = .ok (.getfield 128, 3) := by decide +kernel
theorem d_Model_keep_27 : decode prog_10_method_62_code 27 = .ok (.invokevirtual 242, 3) := by decide +kernel
theorem d_Model_keep_30 : decode prog_10_method_62_code 30 = .ok (.aload_n 0, 1) := by decide +kernel
theorem d_Model_keep_31 : decode prog_10_method_62_code 31 = .ok (.getfield 128, 3) := by decide +kernel
theorem d_Model_keep_34 : decode prog_10_method_62_code 34 = .ok (.ireturn, 1) := by decide +kernel
theorem d_Model_back_0 : decode prog_10_method_63_code 0 = .ok (.aload_n 0, 1) := by decide +kernel
theorem d_Model_back_1 : decode prog_10_method_63_code 1 = .ok (.getfield 128, 3) := by decide +kernel
theorem d_Model_back_4 : decode prog_10_method_63_code 4 = .ok (.ifCond .ne 6, 3) := by decide +kernel
theorem d_Model_back_7 : decode prog_10_method_63_code 7 = .ok (.bipush (-2), 2) := by decide +kernel
theorem d_Model_back_9 : decode prog_10_method_63_code 9 = .ok (.ireturn, 1) := by decide +kernel
theorem d_Model_back_10 : decode prog_10_method_63_code 10 = .ok (.aload_n 0, 1) := by decide +kernel
theorem d_Model_back_11 : decode prog_10_method_63_code 11 = .ok (.aload_n 0, 1) := by decide +kernel
theorem d_Model_back_12 : decode prog_10_method_63_code 12 = .ok (.getfield 128, 3) := by decide +kernel
theorem d_Model_back_15 : decode prog_10_method_63_code 15 = .ok (.iconst 0, 1) := by decide +kernel
theorem d_Model_back_16 : decode prog_10_method_63_code 16 = .ok (.invokevirtual 242, 3) := by decide +kernel
theorem d_Model_back_19 : decode prog_10_method_63_code 19 = .ok (.aload_n 0, 1) := by decide +kernel
theorem d_Model_back_20 : decode prog_10_method_63_code 20 = .ok (.dup, 1) := by decide +kernel
theorem d_Model_back_21 : decode prog_10_method_63_code 21 = .ok (.getfield 128, 3) := by decide +kernel
theorem d_Model_back_24 : decode prog_10_method_63_code 24 = .ok (.iconst 1, 1) := by decide +kernel
theorem d_Model_back_25 : decode prog_10_method_63_code 25 = .ok (.isub, 1) := by decide +kernel
theorem d_Model_back_26 : decode prog_10_method_63_code 26 = .ok (.putfield 128, 3) := by decide +kernel
theorem d_Model_back_29 : decode prog_10_method_63_code 29 = .ok (.aload_n 0, 1) := by decide +kernel
theorem d_Model_back_30 : decode prog_10_method_63_code 30 = .ok (.getfield 128, 3) := by decide +kernel
theorem d_Model_back_33 : decode prog_10_method_63_code 33 = .ok (.ireturn, 1) := by decide +kernel
theorem d_Model_size_0 : decode prog_10_method_64_code 0 = .ok (.iconst 0, 1) := by decide +kernel
theorem d_Model_size_1 : decode prog_10_method_64_code 1 = .ok (.istore_n 2, 1) := by decide +kernel
theorem d_Model_size_2 : decode prog_10_method_64_code 2 = .ok (.iload_n 1, 1) := by decide +kernel
theorem d_Model_size_3 : decode prog_10_method_64_code 3 = .ok (.tableswitch 95 0 5 #[37, 44, 51, 56, 61, 66], 37) := by decide +kernel
theorem d_Model_size_40 : decode prog_10_method_64_code 40 = .ok (.aload_n 0, 1) := by decide +kernel
theorem d_Model_size_41 : decode prog_10_method_64_code 41 = .ok (.getfield 13, 3) := by decide +kernel
theorem d_Model_size_44 : decode prog_10_method_64_code 44 = .ok (.iconst 0, 1) := by decide +kernel
theorem d_Model_size_45 : decode prog_10_method_64_code 45 = .ok (.iaload, 1) := by decide +kernel
theorem d_Model_size_46 : decode prog_10_method_64_code 46 = .ok (.ireturn, 1) := by decide +kernel
theorem d_Model_size_47 : decode prog_10_method_64_code 47 = .ok (.aload_n 0, 1) := by decide +kernel
theorem d_Model_size_48 : decode prog_10_method_64_code 48 = .ok (.getfield 19, 3) := by decide +kernel
theorem d_Model_size_51 : decode prog_10_method_64_code 51 = .ok (.iconst 0, 1) := by decide +kernel
theorem d_Model_size_52 : decode prog_10_method_64_code 52 = .ok (.iaload, 1) := by decide +kernel
theorem d_Model_size_53 : decode prog_10_method_64_code 53 = .ok (.ireturn, 1) := by decide +kernel
theorem d_Model_size_54 : decode prog_10_method_64_code 54 = .ok (.aload_n 0, 1) := by decide +kernel
theorem d_Model_size_55 : decode prog_10_method_64_code 55 = .ok (.getfield 86, 3) := by decide +kernel
theorem d_Model_size_58 : decode prog_10_method_64_code 58 = .ok (.ireturn, 1) := by decide +kernel
theorem d_Model_size_59 : decode prog_10_method_64_code 59 = .ok (.aload_n 0, 1) := by decide +kernel
theorem d_Model_size_60 : decode prog_10_method_64_code 60 = .ok (.invokevirtual 230, 3) := by decide +kernel
theorem d_Model_size_63 : decode prog_10_method_64_code 63 = .ok (.ireturn, 1) := by decide +kernel
theorem d_Model_size_64 : decode prog_10_method_64_code 64 = .ok (.aload_n 0, 1) := by decide +kernel
theorem d_Model_size_65 : decode prog_10_method_64_code 65 = .ok (.getfield 128, 3) := by decide +kernel
theorem d_Model_size_68 : decode prog_10_method_64_code 68 = .ok (.ireturn, 1) := by decide +kernel
theorem d_Model_size_69 : decode prog_10_method_64_code 69 = .ok (.iconst 0, 1) := by decide +kernel
theorem d_Model_size_70 : decode prog_10_method_64_code 70 = .ok (.istore_n 3, 1) := by decide +kernel
theorem d_Model_size_71 : decode prog_10_method_64_code 71 = .ok (.iload_n 3, 1) := by decide +kernel
theorem d_Model_size_72 : decode prog_10_method_64_code 72 = .ok (.aload_n 0, 1) := by decide +kernel
theorem d_Model_size_73 : decode prog_10_method_64_code 73 = .ok (.getfield 19, 3) := by decide +kernel
theorem d_Model_size_76 : decode prog_10_method_64_code 76 = .ok (.iconst 0, 1) := by decide +kernel
theorem d_Model_size_77 : decode prog_10_method_64_code 77 = .ok (.iaload, 1) := by decide +kernel
theorem d_Model_size_78 : decode prog_10_method_64_code 78 = .ok (.if_icmp .ge 18, 3) := by decide +kernel
theorem d_Model_size_81 : decode prog_10_method_64_code 81 = .ok (.iload_n 2, 1) := by decide +kernel
theorem d_Model_size_82 : decode prog_10_method_64_code 82 = .ok (.aload_n 0, 1) := by decide +kernel
theorem d_Model_size_83 : decode prog_10_method_64_code 83 = .ok (.getfield 55, 3) := by decide +kernel
theorem d_Model_size_86 : decode prog_10_method_64_code 86 = .ok (.iload_n 3, 1) := by decide +kernel
theorem d_Model_size_87 : decode prog_10_method_64_code 87 = .ok (.iaload, 1) := by decide +kernel
theorem d_Model_size_88 : decode prog_10_method_64_code 88 = .ok (.iadd, 1) := by decide +kernel
theorem d_Model_size_89 : decode prog_10_method_64_code 89 = .ok (.istore_n 2, 1) := by decide +kernel
theorem d_Model_size_90 : decode prog_10_method_64_code 90 = .ok (.iinc 3 1, 3) := by decide +kernel
theorem d_Model_size_93 : decode prog_10_method_64_code 93 = .ok (.goto (-22), 3) := by decide +kernel
theorem d_Model_size_96 : decode prog_10_method_64_code 96 = .ok (.iload_n 2, 1) := by decide +kernel
theorem d_Model_size_97 : decode prog_10_method_64_code 97 = .ok (.ireturn, 1) := by decide +kernel
theorem d_Model_size_98 : decode prog_10_method_64_code 98 = .ok (.iconst (-1), 1) := by decide +kernel
theorem d_Model_size_99 : decode prog_10_method_64_code 99 = .ok (.ireturn, 1) := by decide +kernel
theorem d_Quern_beAsAtFirst_0 : decode prog_6_method_3_code 0 = .ok (.aload_n 0, 1) := by decide +kernel
theorem d_Quern_beAsAtFirst_1 : decode prog_6_method_3_code 1 = .ok (.getfield 11, 3) := by decide +kernel
theorem d_Quern_beAsAtFirst_4 : decode prog_6_method_3_code 4 = .ok (.iconst 0, 1) := by decide +kernel
theorem d_Quern_beAsAtFirst_5 : decode prog_6_method_3_code 5 = .ok (.aaload, 1) := by decide +kernel
theorem d_Quern_beAsAtFirst_6 : decode prog_6_method_3_code 6 = .ok (.iconst 0, 1) := by decide +kernel
theorem d_Quern_beAsAtFirst_7 : decode prog_6_method_3_code 7 = .ok (.bipush 100, 2) := by decide +kernel
theorem d_Quern_beAsAtFirst_9 : decode prog_6_method_3_code 9 = .ok (.iastore, 1) := by decide +kernel
theorem d_Quern_beAsAtFirst_10 : decode prog_6_method_3_code 10 = .ok (.aload_n 0, 1) := by decide +kernel
theorem d_Quern_beAsAtFirst_11 : decode prog_6_method_3_code 11 = .ok (.iconst 1, 1) := by decide +kernel
theorem d_Quern_beAsAtFirst_12 : decode prog_6_method_3_code 12 = .ok (.putfield 44, 3) := by decide +kernel
theorem d_Quern_beAsAtFirst_15 : decode prog_6_method_3_code 15 = .ok (.aload_n 0, 1) := by decide +kernel
theorem d_Quern_beAsAtFirst_16 : decode prog_6_method_3_code 16 = .ok (.getfield 23, 3) := by decide +kernel
theorem d_Quern_beAsAtFirst_19 : decode prog_6_method_3_code 19 = .ok (.iconst 0, 1) := by decide +kernel
theorem d_Quern_beAsAtFirst_20 : decode prog_6_method_3_code 20 = .ok (.iconst 1, 1) := by decide +kernel
theorem d_Quern_beAsAtFirst_21 : decode prog_6_method_3_code 21 = .ok (.iastore, 1) := by decide +kernel
theorem d_Quern_beAsAtFirst_22 : decode prog_6_method_3_code 22 = .ok (.aload_n 0, 1) := by decide +kernel
theorem d_Quern_beAsAtFirst_23 : decode prog_6_method_3_code 23 = .ok (.iconst 1, 1) := by decide +kernel
theorem d_Quern_beAsAtFirst_24 : decode prog_6_method_3_code 24 = .ok (.putfield 48, 3) := by decide +kernel
theorem d_Quern_beAsAtFirst_27 : decode prog_6_method_3_code 27 = .ok (.return_, 1) := by decide +kernel

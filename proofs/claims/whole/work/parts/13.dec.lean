theorem d_Quern_bestLeftOut_41 : decode prog_6_method_26_code 41 = .ok (.invokevirtual 153, 3) := by decide +kernel
theorem d_Quern_bestLeftOut_44 : decode prog_6_method_26_code 44 = .ok (.istore 5, 2) := by decide +kernel
theorem d_Quern_bestLeftOut_46 : decode prog_6_method_26_code 46 = .ok (.iload_n 2, 1) := by decide +kernel
theorem d_Quern_bestLeftOut_47 : decode prog_6_method_26_code 47 = .ok (.bipush (-4), 2) := by decide +kernel
theorem d_Quern_bestLeftOut_49 : decode prog_6_method_26_code 49 = .ok (.if_icmp .eq 9, 3) := by decide +kernel
theorem d_Quern_bestLeftOut_52 : decode prog_6_method_26_code 52 = .ok (.iload 5, 2) := by decide +kernel
theorem d_Quern_bestLeftOut_54 : decode prog_6_method_26_code 54 = .ok (.iload_n 3, 1) := by decide +kernel
theorem d_Quern_bestLeftOut_55 : decode prog_6_method_26_code 55 = .ok (.if_icmp .ge 9, 3) := by decide +kernel
theorem d_Quern_bestLeftOut_58 : decode prog_6_method_26_code 58 = .ok (.iload 4, 2) := by decide +kernel
theorem d_Quern_bestLeftOut_60 : decode prog_6_method_26_code 60 = .ok (.istore_n 2, 1) := by decide +kernel
theorem d_Quern_bestLeftOut_61 : decode prog_6_method_26_code 61 = .ok (.iload 5, 2) := by decide +kernel
theorem d_Quern_bestLeftOut_63 : decode prog_6_method_26_code 63 = .ok (.istore_n 3, 1) := by decide +kernel
theorem d_Quern_bestLeftOut_64 : decode prog_6_method_26_code 64 = .ok (.iinc 4 1, 3) := by decide +kernel
theorem d_Quern_bestLeftOut_67 : decode prog_6_method_26_code 67 = .ok (.goto (-59), 3) := by decide +kernel
theorem d_Quern_bestLeftOut_70 : decode prog_6_method_26_code 70 = .ok (.iload_n 2, 1) := by decide +kernel
theorem d_Quern_bestLeftOut_71 : decode prog_6_method_26_code 71 = .ok (.ireturn, 1) := by decide +kernel
theorem d_Main_leave_0 : decode prog_1_method_21_code 0 = .ok (.iload_n 1, 1) := by decide +kernel
theorem d_Main_leave_1 : decode prog_1_method_21_code 1 = .ok (.iconst 0, 1) := by decide +kernel
theorem d_Main_leave_2 : decode prog_1_method_21_code 2 = .ok (.sipush 399, 3) := by decide +kernel
theorem d_Main_leave_5 : decode prog_1_method_21_code 5 = .ok (.invokestatic 61, 3) := by decide +kernel
theorem d_Main_leave_8 : decode prog_1_method_21_code 8 = .ok (.ifCond .eq 12, 3) := by decide +kernel
theorem d_Main_leave_11 : decode prog_1_method_21_code 11 = .ok (.iload_n 2, 1) := by decide +kernel
theorem d_Main_leave_12 : decode prog_1_method_21_code 12 = .ok (.iconst 0, 1) := by decide +kernel
theorem d_Main_leave_13 : decode prog_1_method_21_code 13 = .ok (.iconst 1, 1) := by decide +kernel
theorem d_Main_leave_14 : decode prog_1_method_21_code 14 = .ok (.invokestatic 61, 3) := by decide +kernel
theorem d_Main_leave_17 : decode prog_1_method_21_code 17 = .ok (.ifCond .ne 5, 3) := by decide +kernel
theorem d_Main_leave_20 : decode prog_1_method_21_code 20 = .ok (.iconst (-1), 1) := by decide +kernel
theorem d_Main_leave_21 : decode prog_1_method_21_code 21 = .ok (.ireturn, 1) := by decide +kernel
theorem d_Main_leave_22 : decode prog_1_method_21_code 22 = .ok (.aload_n 0, 1) := by decide +kernel
theorem d_Main_leave_23 : decode prog_1_method_21_code 23 = .ok (.getfield 51, 3) := by decide +kernel
theorem d_Main_leave_26 : decode prog_1_method_21_code 26 = .ok (.iload_n 1, 1) := by decide +kernel
theorem d_Main_leave_27 : decode prog_1_method_21_code 27 = .ok (.invokevirtual 201, 3) := by decide +kernel
theorem d_Main_leave_30 : decode prog_1_method_21_code 30 = .ok (.istore_n 3, 1) := by decide +kernel
theorem d_Main_leave_31 : decode prog_1_method_21_code 31 = .ok (.iload_n 3, 1) := by decide +kernel
theorem d_Main_leave_32 : decode prog_1_method_21_code 32 = .ok (.bipush (-4), 2) := by decide +kernel
theorem d_Main_leave_34 : decode prog_1_method_21_code 34 = .ok (.if_icmp .eq 7, 3) := by decide +kernel
theorem d_Main_leave_37 : decode prog_1_method_21_code 37 = .ok (.iload_n 2, 1) := by decide +kernel
theorem d_Main_leave_38 : decode prog_1_method_21_code 38 = .ok (.ifCond .ne 7, 3) := by decide +kernel
theorem d_Main_leave_41 : decode prog_1_method_21_code 41 = .ok (.iload_n 3, 1) := by decide +kernel
theorem d_Main_leave_42 : decode prog_1_method_21_code 42 = .ok (.goto 11, 3) := by decide +kernel
theorem d_Main_leave_45 : decode prog_1_method_21_code 45 = .ok (.aload_n 0, 1) := by decide +kernel
theorem d_Main_leave_46 : decode prog_1_method_21_code 46 = .ok (.getfield 51, 3) := by decide +kernel
theorem d_Main_leave_49 : decode prog_1_method_21_code 49 = .ok (.iload_n 3, 1) := by decide +kernel
theorem d_Main_leave_50 : decode prog_1_method_21_code 50 = .ok (.invokevirtual 204, 3) := by decide +kernel
theorem d_Main_leave_53 : decode prog_1_method_21_code 53 = .ok (.ireturn, 1) := by decide +kernel
theorem d_Finds_tellBlind_0 : decode prog_3_method_6_code 0 = .ok (.aload_n 0, 1) := by decide +kernel
theorem d_Finds_tellBlind_1 : decode prog_3_method_6_code 1 = .ok (.getfield 16, 3) := by decide +kernel
theorem d_Finds_tellBlind_4 : decode prog_3_method_6_code 4 = .ok (.iload_n 1, 1) := by decide +kernel
theorem d_Finds_tellBlind_5 : decode prog_3_method_6_code 5 = .ok (.aaload, 1) := by decide +kernel
theorem d_Finds_tellBlind_6 : decode prog_3_method_6_code 6 = .ok (.iload_n 2, 1) := by decide +kernel
theorem d_Finds_tellBlind_7 : decode prog_3_method_6_code 7 = .ok (.dup2, 1) := by decide +kernel
theorem d_Finds_tellBlind_8 : decode prog_3_method_6_code 8 = .ok (.iaload, 1) := by decide +kernel
theorem d_Finds_tellBlind_9 : decode prog_3_method_6_code 9 = .ok (.iconst 1, 1) := by decide +kernel
theorem d_Finds_tellBlind_10 : decode prog_3_method_6_code 10 = .ok (.iadd, 1) := by decide +kernel
theorem d_Finds_tellBlind_11 : decode prog_3_method_6_code 11 = .ok (.iastore, 1) := by decide +kernel
theorem d_Finds_tellBlind_12 : decode prog_3_method_6_code 12 = .ok (.aload_n 0, 1) := by decide +kernel
theorem d_Finds_tellBlind_13 : decode prog_3_method_6_code 13 = .ok (.dup, 1) := by decide +kernel
theorem d_Finds_tellBlind_14 : decode prog_3_method_6_code 14 = .ok (.getfield 29, 3) := by decide +kernel
theorem d_Finds_tellBlind_17 : decode prog_3_method_6_code 17 = .ok (.iconst 1, 1) := by decide +kernel
theorem d_Finds_tellBlind_18 : decode prog_3_method_6_code 18 = .ok (.iadd, 1) := by decide +kernel
theorem d_Finds_tellBlind_19 : decode prog_3_method_6_code 19 = .ok (.putfield 29, 3) := by decide +kernel
theorem d_Finds_tellBlind_22 : decode prog_3_method_6_code 22 = .ok (.aload_n 0, 1) := by decide +kernel
theorem d_Finds_tellBlind_23 : decode prog_3_method_6_code 23 = .ok (.getfield 16, 3) := by decide +kernel
theorem d_Finds_tellBlind_26 : decode prog_3_method_6_code 26 = .ok (.iload_n 1, 1) := by decide +kernel
theorem d_Finds_tellBlind_27 : decode prog_3_method_6_code 27 = .ok (.aaload, 1) := by decide +kernel
theorem d_Finds_tellBlind_28 : decode prog_3_method_6_code 28 = .ok (.iload_n 2, 1) := by decide +kernel
theorem d_Finds_tellBlind_29 : decode prog_3_method_6_code 29 = .ok (.iaload, 1) := by decide +kernel
theorem d_Finds_tellBlind_30 : decode prog_3_method_6_code 30 = .ok (.ireturn, 1) := by decide +kernel
theorem d_Main_blind_0 : decode prog_1_method_22_code 0 = .ok (.aload_n 0, 1) := by decide +kernel
theorem d_Main_blind_1 : decode prog_1_method_22_code 1 = .ok (.getfield 51, 3) := by decide +kernel
theorem d_Main_blind_4 : decode prog_1_method_22_code 4 = .ok (.iload_n 1, 1) := by decide +kernel
theorem d_Main_blind_5 : decode prog_1_method_22_code 5 = .ok (.invokevirtual 110, 3) := by decide +kernel
theorem d_Main_blind_8 : decode prog_1_method_22_code 8 = .ok (.ifCond .eq 14, 3) := by decide +kernel
theorem d_Main_blind_11 : decode prog_1_method_22_code 11 = .ok (.aload_n 0, 1) := by decide +kernel
theorem d_Main_blind_12 : decode prog_1_method_22_code 12 = .ok (.getfield 51, 3) := by decide +kernel
theorem d_Main_blind_15 : decode prog_1_method_22_code 15 = .ok (.iload_n 2, 1) := by decide +kernel
theorem d_Main_blind_16 : decode prog_1_method_22_code 16 = .ok (.invokevirtual 110, 3) := by decide +kernel
theorem d_Main_blind_19 : decode prog_1_method_22_code 19 = .ok (.ifCond .ne 5, 3) := by decide +kernel
theorem d_Main_blind_22 : decode prog_1_method_22_code 22 = .ok (.iconst (-1), 1) := by decide +kernel
theorem d_Main_blind_23 : decode prog_1_method_22_code 23 = .ok (.ireturn, 1) := by decide +kernel
theorem d_Main_blind_24 : decode prog_1_method_22_code 24 = .ok (.aload_n 0, 1) := by decide +kernel
theorem d_Main_blind_25 : decode prog_1_method_22_code 25 = .ok (.getfield 40, 3) := by decide +kernel
theorem d_Main_blind_28 : decode prog_1_method_22_code 28 = .ok (.getfield 207, 3) := by decide +kernel
theorem d_Main_blind_31 : decode prog_1_method_22_code 31 = .ok (.sipush 200, 3) := by decide +kernel
theorem d_Main_blind_34 : decode prog_1_method_22_code 34 = .ok (.if_icmp .lt 6, 3) := by decide +kernel
theorem d_Main_blind_37 : decode prog_1_method_22_code 37 = .ok (.bipush (-3), 2) := by decide +kernel
theorem d_Main_blind_39 : decode prog_1_method_22_code 39 = .ok (.ireturn, 1) := by decide +kernel
theorem d_Main_blind_40 : decode prog_1_method_22_code 40 = .ok (.aload_n 0, 1) := by decide +kernel
theorem d_Main_blind_41 : decode prog_1_method_22_code 41 = .ok (.getfield 40, 3) := by decide +kernel
theorem d_Main_blind_44 : decode prog_1_method_22_code 44 = .ok (.iload_n 1, 1) := by decide +kernel
theorem d_Main_blind_45 : decode prog_1_method_22_code 45 = .ok (.iload_n 2, 1) := by decide +kernel
theorem d_Main_blind_46 : decode prog_1_method_22_code 46 = .ok (.invokevirtual 210, 3) := by decide +kernel
theorem d_Main_blind_49 : decode prog_1_method_22_code 49 = .ok (.ireturn, 1) := by decide +kernel
theorem d_Finds_blindThatWere_0 : decode prog_3_method_7_code 0 = .ok (.iconst 0, 1) := by decide +kernel
theorem d_Finds_blindThatWere_1 : decode prog_3_method_7_code 1 = .ok (.istore_n 2, 1) := by decide +kernel
theorem d_Finds_blindThatWere_2 : decode prog_3_method_7_code 2 = .ok (.iconst 0, 1) := by decide +kernel
theorem d_Finds_blindThatWere_3 : decode prog_3_method_7_code 3 = .ok (.istore_n 3, 1) := by decide +kernel
theorem d_Finds_blindThatWere_4 : decode prog_3_method_7_code 4 = .ok (.iload_n 3, 1) := by decide +kernel
theorem d_Finds_blindThatWere_5 : decode prog_3_method_7_code 5 = .ok (.bipush 6, 2) := by decide +kernel
theorem d_Finds_blindThatWere_7 : decode prog_3_method_7_code 7 = .ok (.if_icmp .ge 20, 3) := by decide +kernel
theorem d_Finds_blindThatWere_10 : decode prog_3_method_7_code 10 = .ok (.iload_n 2, 1) := by decide +kernel
theorem d_Finds_blindThatWere_11 : decode prog_3_method_7_code 11 = .ok (.aload_n 0, 1) := by decide +kernel
theorem d_Finds_blindThatWere_12 : decode prog_3_method_7_code 12 = .ok (.getfield 16, 3) := by decide +kernel
theorem d_Finds_blindThatWere_15 : decode prog_3_method_7_code 15 = .ok (.iload_n 1, 1) := by decide +kernel
theorem d_Finds_blindThatWere_16 : decode prog_3_method_7_code 16 = .ok (.aaload, 1) := by decide +kernel
theorem d_Finds_blindThatWere_17 : decode prog_3_method_7_code 17 = .ok (.iload_n 3, 1) := by decide +kernel
theorem d_Finds_blindThatWere_18 : decode prog_3_method_7_code 18 = .ok (.iaload, 1) := by decide +kernel
theorem d_Finds_blindThatWere_19 : decode prog_3_method_7_code 19 = .ok (.iadd, 1) := by decide +kernel
theorem d_Finds_blindThatWere_20 : decode prog_3_method_7_code 20 = .ok (.istore_n 2, 1) := by decide +kernel
theorem d_Finds_blindThatWere_21 : decode prog_3_method_7_code 21 = .ok (.iinc 3 1, 3) := by decide +kernel
theorem d_Finds_blindThatWere_24 : decode prog_3_method_7_code 24 = .ok (.goto (-20), 3) := by decide +kernel
theorem d_Finds_blindThatWere_27 : decode prog_3_method_7_code 27 = .ok (.iload_n 2, 1) := by decide +kernel
theorem d_Finds_blindThatWere_28 : decode prog_3_method_7_code 28 = .ok (.ireturn, 1) := by decide +kernel
theorem d_Main_slips_0 : decode prog_1_method_23_code 0 = .ok (.aload_n 0, 1) := by decide +kernel
theorem d_Main_slips_1 : decode prog_1_method_23_code 1 = .ok (.getfield 51, 3) := by decide +kernel
theorem d_Main_slips_4 : decode prog_1_method_23_code 4 = .ok (.iload_n 1, 1) := by decide +kernel
theorem d_Main_slips_5 : decode prog_1_method_23_code 5 = .ok (.invokevirtual 110, 3) := by decide +kernel
theorem d_Main_slips_8 : decode prog_1_method_23_code 8 = .ok (.ifCond .eq 23, 3) := by decide +kernel
theorem d_Main_slips_11 : decode prog_1_method_23_code 11 = .ok (.aload_n 0, 1) := by decide +kernel
theorem d_Main_slips_12 : decode prog_1_method_23_code 12 = .ok (.getfield 51, 3) := by decide +kernel
theorem d_Main_slips_15 : decode prog_1_method_23_code 15 = .ok (.iload_n 2, 1) := by decide +kernel
theorem d_Main_slips_16 : decode prog_1_method_23_code 16 = .ok (.invokevirtual 110, 3) := by decide +kernel
theorem d_Main_slips_19 : decode prog_1_method_23_code 19 = .ok (.ifCond .eq 12, 3) := by decide +kernel
theorem d_Main_slips_22 : decode prog_1_method_23_code 22 = .ok (.iload_n 3, 1) := by decide +kernel
theorem d_Main_slips_23 : decode prog_1_method_23_code 23 = .ok (.iconst 0, 1) := by decide +kernel
theorem d_Main_slips_24 : decode prog_1_method_23_code 24 = .ok (.iconst 1, 1) := by decide +kernel
theorem d_Main_slips_25 : decode prog_1_method_23_code 25 = .ok (.invokestatic 61, 3) := by decide +kernel
theorem d_Main_slips_28 : decode prog_1_method_23_code 28 = .ok (.ifCond .ne 5, 3) := by decide +kernel
theorem d_Main_slips_31 : decode prog_1_method_23_code 31 = .ok (.iconst (-1), 1) := by decide +kernel
theorem d_Main_slips_32 : decode prog_1_method_23_code 32 = .ok (.ireturn, 1) := by decide +kernel
theorem d_Main_slips_33 : decode prog_1_method_23_code 33 = .ok (.aload_n 0, 1) := by decide +kernel
theorem d_Main_slips_34 : decode prog_1_method_23_code 34 = .ok (.getfield 40, 3) := by decide +kernel
theorem d_Main_slips_37 : decode prog_1_method_23_code 37 = .ok (.iload_n 1, 1) := by decide +kernel
theorem d_Main_slips_38 : decode prog_1_method_23_code 38 = .ok (.invokevirtual 213, 3) := by decide +kernel
theorem d_Main_slips_41 : decode prog_1_method_23_code 41 = .ok (.istore 4, 2) := by decide +kernel
theorem d_Main_slips_43 : decode prog_1_method_23_code 43 = .ok (.iload 4, 2) := by decide +kernel
theorem d_Main_slips_45 : decode prog_1_method_23_code 45 = .ok (.ifCond .ne 8, 3) := by decide +kernel
theorem d_Main_slips_48 : decode prog_1_method_23_code 48 = .ok (.bipush (-4), 2) := by decide +kernel
theorem d_Main_slips_50 : decode prog_1_method_23_code 50 = .ok (.goto 23, 3) := by decide +kernel
theorem d_Main_slips_53 : decode prog_1_method_23_code 53 = .ok (.aload_n 0, 1) := by decide +kernel
theorem d_Main_slips_54 : decode prog_1_method_23_code 54 = .ok (.getfield 40, 3) := by decide +kernel
theorem d_Main_slips_57 : decode prog_1_method_23_code 57 = .ok (.getfield 216, 3) := by decide +kernel
theorem d_Main_slips_60 : decode prog_1_method_23_code 60 = .ok (.iload_n 1, 1) := by decide +kernel
theorem d_Main_slips_61 : decode prog_1_method_23_code 61 = .ok (.aaload, 1) := by decide +kernel
theorem d_Main_slips_62 : decode prog_1_method_23_code 62 = .ok (.iload_n 2, 1) := by decide +kernel
theorem d_Main_slips_63 : decode prog_1_method_23_code 63 = .ok (.iaload, 1) := by decide +kernel
theorem d_Main_slips_64 : decode prog_1_method_23_code 64 = .ok (.i2l, 1) := by decide +kernel
theorem d_Main_slips_65 : decode prog_1_method_23_code 65 = .ok (.iload 4, 2) := by decide +kernel
theorem d_Main_slips_67 : decode prog_1_method_23_code 67 = .ok (.i2l, 1) := by decide +kernel
theorem d_Main_slips_68 : decode prog_1_method_23_code 68 = .ok (.iload_n 3, 1) := by decide +kernel
theorem d_Main_slips_69 : decode prog_1_method_23_code 69 = .ok (.invokestatic 136, 3) := by decide +kernel
theorem d_Main_slips_72 : decode prog_1_method_23_code 72 = .ok (.l2i, 1) := by decide +kernel
theorem d_Main_slips_73 : decode prog_1_method_23_code 73 = .ok (.ireturn, 1) := by decide +kernel
theorem d_Finds_blindCalled_0 : decode prog_3_method_8_code 0 = .ok (.iconst 0, 1) := by decide +kernel
theorem d_Finds_blindCalled_1 : decode prog_3_method_8_code 1 = .ok (.istore_n 2, 1) := by decide +kernel
theorem d_Finds_blindCalled_2 : decode prog_3_method_8_code 2 = .ok (.iconst 0, 1) := by decide +kernel
theorem d_Finds_blindCalled_3 : decode prog_3_method_8_code 3 = .ok (.istore_n 3, 1) := by decide +kernel
theorem d_Finds_blindCalled_4 : decode prog_3_method_8_code 4 = .ok (.iload_n 3, 1) := by decide +kernel
theorem d_Finds_blindCalled_5 : decode prog_3_method_8_code 5 = .ok (.bipush 6, 2) := by decide +kernel
theorem d_Finds_blindCalled_7 : decode prog_3_method_8_code 7 = .ok (.if_icmp .ge 20, 3) := by decide +kernel
theorem d_Finds_blindCalled_10 : decode prog_3_method_8_code 10 = .ok (.iload_n 2, 1) := by decide +kernel
theorem d_Finds_blindCalled_11 : decode prog_3_method_8_code 11 = .ok (.aload_n 0, 1) := by decide +kernel
theorem d_Finds_blindCalled_12 : decode prog_3_method_8_code 12 = .ok (.getfield 16, 3) := by decide +kernel
theorem d_Finds_blindCalled_15 : decode prog_3_method_8_code 15 = .ok (.iload_n 3, 1) := by decide +kernel
theorem d_Finds_blindCalled_16 : decode prog_3_method_8_code 16 = .ok (.aaload, 1) := by decide +kernel
theorem d_Finds_blindCalled_17 : decode prog_3_method_8_code 17 = .ok (.iload_n 1, 1) := by decide +kernel
theorem d_Finds_blindCalled_18 : decode prog_3_method_8_code 18 = .ok (.iaload, 1) := by decide +kernel
theorem d_Finds_blindCalled_19 : decode prog_3_method_8_code 19 = .ok (.iadd, 1) := by decide +kernel
theorem d_Finds_blindCalled_20 : decode prog_3_method_8_code 20 = .ok (.istore_n 2, 1) := by decide +kernel
theorem d_Finds_blindCalled_21 : decode prog_3_method_8_code 21 = .ok (.iinc 3 1, 3) := by decide +kernel
theorem d_Finds_blindCalled_24 : decode prog_3_method_8_code 24 = .ok (.goto (-20), 3) := by decide +kernel
theorem d_Finds_blindCalled_27 : decode prog_3_method_8_code 27 = .ok (.iload_n 2, 1) := by decide +kernel
theorem d_Finds_blindCalled_28 : decode prog_3_method_8_code 28 = .ok (.ireturn, 1) := by decide +kernel
theorem d_Main_lean_0 : decode prog_1_method_24_code 0 = .ok (.aload_n 0, 1) := by decide +kernel
theorem d_Main_lean_1 : decode prog_1_method_24_code 1 = .ok (.getfield 51, 3) := by decide +kernel
theorem d_Main_lean_4 : decode prog_1_method_24_code 4 = .ok (.iload_n 1, 1) := by decide +kernel
theorem d_Main_lean_5 : decode prog_1_method_24_code 5 = .ok (.invokevirtual 110, 3) := by decide +kernel
theorem d_Main_lean_8 : decode prog_1_method_24_code 8 = .ok (.ifCond .ne 7, 3) := by decide +kernel
theorem d_Main_lean_11 : decode prog_1_method_24_code 11 = .ok (.sipush (-1000), 3) := by decide +kernel
theorem d_Main_lean_14 : decode prog_1_method_24_code 14 = .ok (.ireturn, 1) := by decide +kernel
theorem d_Main_lean_15 : decode prog_1_method_24_code 15 = .ok (.aload_n 0, 1) := by decide +kernel
theorem d_Main_lean_16 : decode prog_1_method_24_code 16 = .ok (.getfield 40, 3) := by decide +kernel
theorem d_Main_lean_19 : decode prog_1_method_24_code 19 = .ok (.iload_n 1, 1) := by decide +kernel
theorem d_Main_lean_20 : decode prog_1_method_24_code 20 = .ok (.invokevirtual 219, 3) := by decide +kernel
theorem d_Main_lean_23 : decode prog_1_method_24_code 23 = .ok (.aload_n 0, 1) := by decide +kernel
theorem d_Main_lean_24 : decode prog_1_method_24_code 24 = .ok (.getfield 40, 3) := by decide +kernel
theorem d_Main_lean_27 : decode prog_1_method_24_code 27 = .ok (.iload_n 1, 1) := by decide +kernel
theorem d_Main_lean_28 : decode prog_1_method_24_code 28 = .ok (.invokevirtual 213, 3) := by decide +kernel
theorem d_Main_lean_31 : decode prog_1_method_24_code 31 = .ok (.isub, 1) := by decide +kernel
theorem d_Main_lean_32 : decode prog_1_method_24_code 32 = .ok (.ireturn, 1) := by decide +kernel
theorem d_Main_right_0 : decode prog_1_method_25_code 0 = .ok (.aload_n 0, 1) := by decide +kernel
theorem d_Main_right_1 : decode prog_1_method_25_code 1 = .ok (.getfield 51, 3) := by decide +kernel
theorem d_Main_right_4 : decode prog_1_method_25_code 4 = .ok (.iload_n 1, 1) := by decide +kernel
theorem d_Main_right_5 : decode prog_1_method_25_code 5 = .ok (.invokevirtual 110, 3) := by decide +kernel
theorem d_Main_right_8 : decode prog_1_method_25_code 8 = .ok (.ifCond .eq 14, 3) := by decide +kernel
theorem d_Main_right_11 : decode prog_1_method_25_code 11 = .ok (.iload_n 2, 1) := by decide +kernel
theorem d_Main_right_12 : decode prog_1_method_25_code 12 = .ok (.iconst 0, 1) := by decide +kernel
theorem d_Main_right_13 : decode prog_1_method_25_code 13 = .ok (.sipush 999, 3) := by decide +kernel
theorem d_Main_right_16 : decode prog_1_method_25_code 16 = .ok (.invokestatic 61, 3) := by decide +kernel
theorem d_Main_right_19 : decode prog_1_method_25_code 19 = .ok (.ifCond .ne 5, 3) := by decide +kernel
theorem d_Main_right_22 : decode prog_1_method_25_code 22 = .ok (.iconst (-1), 1) := by decide +kernel
theorem d_Main_right_23 : decode prog_1_method_25_code 23 = .ok (.ireturn, 1) := by decide +kernel
theorem d_Main_right_24 : decode prog_1_method_25_code 24 = .ok (.aload_n 0, 1) := by decide +kernel
theorem d_Main_right_25 : decode prog_1_method_25_code 25 = .ok (.getfield 40, 3) := by decide +kernel
theorem d_Main_right_28 : decode prog_1_method_25_code 28 = .ok (.iload_n 1, 1) := by decide +kernel
theorem d_Main_right_29 : decode prog_1_method_25_code 29 = .ok (.invokevirtual 219, 3) := by decide +kernel
theorem d_Main_right_32 : decode prog_1_method_25_code 32 = .ok (.istore_n 3, 1) := by decide +kernel
theorem d_Main_right_33 : decode prog_1_method_25_code 33 = .ok (.iload_n 3, 1) := by decide +kernel
theorem d_Main_right_34 : decode prog_1_method_25_code 34 = .ok (.ifCond .ne 8, 3) := by decide +kernel
theorem d_Main_right_37 : decode prog_1_method_25_code 37 = .ok (.bipush (-4), 2) := by decide +kernel
theorem d_Main_right_39 : decode prog_1_method_25_code 39 = .ok (.goto 15, 3) := by decide +kernel
theorem d_Main_right_42 : decode prog_1_method_25_code 42 = .ok (.iload_n 2, 1) := by decide +kernel
theorem d_Main_right_43 : decode prog_1_method_25_code 43 = .ok (.aload_n 0, 1) := by decide +kernel
theorem d_Main_right_44 : decode prog_1_method_25_code 44 = .ok (.getfield 40, 3) := by decide +kernel
theorem d_Main_right_47 : decode prog_1_method_25_code 47 = .ok (.iload_n 1, 1) := by decide +kernel
theorem d_Main_right_48 : decode prog_1_method_25_code 48 = .ok (.invokevirtual 213, 3) := by decide +kernel
theorem d_Main_right_51 : decode prog_1_method_25_code 51 = .ok (.imul, 1) := by decide +kernel
theorem d_Main_right_52 : decode prog_1_method_25_code 52 = .ok (.iload_n 3, 1) := by decide +kernel
theorem d_Main_right_53 : decode prog_1_method_25_code 53 = .ok (.idiv, 1) := by decide +kernel
theorem d_Main_right_54 : decode prog_1_method_25_code 54 = .ok (.ireturn, 1) := by decide +kernel
theorem d_Main_teeth_0 : decode prog_1_method_26_code 0 = .ok (.iload_n 1, 1) := by decide +kernel
theorem d_Main_teeth_1 : decode prog_1_method_26_code 1 = .ok (.iconst 0, 1) := by decide +kernel
theorem d_Main_teeth_2 : decode prog_1_method_26_code 2 = .ok (.iconst 1, 1) := by decide +kernel
theorem d_Main_teeth_3 : decode prog_1_method_26_code 3 = .ok (.aload_n 0, 1) := by decide +kernel
theorem d_Main_teeth_4 : decode prog_1_method_26_code 4 = .ok (.getfield 51, 3) := by decide +kernel
theorem d_Main_teeth_7 : decode prog_1_method_26_code 7 = .ok (.getfield 80, 3) := by decide +kernel
theorem d_Main_teeth_10 : decode prog_1_method_26_code 10 = .ok (.ishl, 1) := by decide +kernel
theorem d_Main_teeth_11 : decode prog_1_method_26_code 11 = .ok (.iconst 1, 1) := by decide +kernel
theorem d_Main_teeth_12 : decode prog_1_method_26_code 12 = .ok (.isub, 1) := by decide +kernel
theorem d_Main_teeth_13 : decode prog_1_method_26_code 13 = .ok (.invokestatic 61, 3) := by decide +kernel
theorem d_Main_teeth_16 : decode prog_1_method_26_code 16 = .ok (.ifCond .ne 5, 3) := by decide +kernel
theorem d_Main_teeth_19 : decode prog_1_method_26_code 19 = .ok (.iconst (-1), 1) := by decide +kernel
theorem d_Main_teeth_20 : decode prog_1_method_26_code 20 = .ok (.ireturn, 1) := by decide +kernel
theorem d_Main_teeth_21 : decode prog_1_method_26_code 21 = .ok (.aload_n 0, 1) := by decide +kernel
theorem d_Main_teeth_22 : decode prog_1_method_26_code 22 = .ok (.getfield 40, 3) := by decide +kernel
theorem d_Main_teeth_25 : decode prog_1_method_26_code 25 = .ok (.getfield 222, 3) := by decide +kernel
theorem d_Main_teeth_28 : decode prog_1_method_26_code 28 = .ok (.istore_n 2, 1) := by decide +kernel
theorem d_Main_teeth_29 : decode prog_1_method_26_code 29 = .ok (.aload_n 0, 1) := by decide +kernel
theorem d_Main_teeth_30 : decode prog_1_method_26_code 30 = .ok (.getfield 40, 3) := by decide +kernel
theorem d_Main_teeth_33 : decode prog_1_method_26_code 33 = .ok (.iload_n 1, 1) := by decide +kernel
theorem d_Main_teeth_34 : decode prog_1_method_26_code 34 = .ok (.putfield 222, 3) := by decide +kernel
theorem d_Main_teeth_37 : decode prog_1_method_26_code 37 = .ok (.iload_n 2, 1) := by decide +kernel
theorem d_Main_teeth_38 : decode prog_1_method_26_code 38 = .ok (.ireturn, 1) := by decide +kernel
theorem d_Main_eaten_0 : decode prog_1_method_27_code 0 = .ok (.aload_n 0, 1) := by decide +kernel
theorem d_Main_eaten_1 : decode prog_1_method_27_code 1 = .ok (.getfield 51, 3) := by decide +kernel
theorem d_Main_eaten_4 : decode prog_1_method_27_code 4 = .ok (.iload_n 1, 1) := by decide +kernel
theorem d_Main_eaten_5 : decode prog_1_method_27_code 5 = .ok (.invokevirtual 90, 3) := by decide +kernel
theorem d_Main_eaten_8 : decode prog_1_method_27_code 8 = .ok (.ifCond .eq 10, 3) := by decide +kernel
theorem d_Main_eaten_11 : decode prog_1_method_27_code 11 = .ok (.iload_n 2, 1) := by decide +kernel
theorem d_Main_eaten_12 : decode prog_1_method_27_code 12 = .ok (.invokestatic 178, 3) := by decide +kernel
theorem d_Main_eaten_15 : decode prog_1_method_27_code 15 = .ok (.ifCond .ne 5, 3) := by decide +kernel
theorem d_Main_eaten_18 : decode prog_1_method_27_code 18 = .ok (.iconst (-1), 1) := by decide +kernel
theorem d_Main_eaten_19 : decode prog_1_method_27_code 19 = .ok (.ireturn, 1) := by decide +kernel
theorem d_Main_eaten_20 : decode prog_1_method_27_code 20 = .ok (.aload_n 0, 1) := by decide +kernel
theorem d_Main_eaten_21 : decode prog_1_method_27_code 21 = .ok (.iload_n 1, 1) := by decide +kernel
theorem d_Main_eaten_22 : decode prog_1_method_27_code 22 = .ok (.iload_n 2, 1) := by decide +kernel
theorem d_Main_eaten_23 : decode prog_1_method_27_code 23 = .ok (.invokevirtual 198, 3) := by decide +kernel
theorem d_Main_eaten_26 : decode prog_1_method_27_code 26 = .ok (.aload_n 0, 1) := by decide +kernel
theorem d_Main_eaten_27 : decode prog_1_method_27_code 27 = .ok (.getfield 40, 3) := by decide +kernel
theorem d_Main_eaten_30 : decode prog_1_method_27_code 30 = .ok (.getfield 222, 3) := by decide +kernel
theorem d_Main_eaten_33 : decode prog_1_method_27_code 33 = .ok (.iand, 1) := by decide +kernel
theorem d_Main_eaten_34 : decode prog_1_method_27_code 34 = .ok (.ireturn, 1) := by decide +kernel
theorem d_Main_readAreaOf_0 : decode prog_1_method_34_code 0 = .ok (.iconst 0, 1) := by decide +kernel
theorem d_Main_readAreaOf_1 : decode prog_1_method_34_code 1 = .ok (.istore_n 2, 1) := by decide +kernel
theorem d_Main_readAreaOf_2 : decode prog_1_method_34_code 2 = .ok (.iconst 0, 1) := by decide +kernel
theorem d_Main_readAreaOf_3 : decode prog_1_method_34_code 3 = .ok (.istore_n 3, 1) := by decide +kernel
theorem d_Main_readAreaOf_4 : decode prog_1_method_34_code 4 = .ok (.iload_n 3, 1) := by decide +kernel
theorem d_Main_readAreaOf_5 : decode prog_1_method_34_code 5 = .ok (.aload_n 0, 1) := by decide +kernel
theorem d_Main_readAreaOf_6 : decode prog_1_method_34_code 6 = .ok (.getfield 51, 3) := by decide +kernel
theorem d_Main_readAreaOf_9 : decode prog_1_method_34_code 9 = .ok (.getfield 83, 3) := by decide +kernel
theorem d_Main_readAreaOf_12 : decode prog_1_method_34_code 12 = .ok (.if_icmp .ge 57, 3) := by decide +kernel
theorem d_Main_readAreaOf_15 : decode prog_1_method_34_code 15 = .ok (.aload_n 0, 1) := by decide +kernel
theorem d_Main_readAreaOf_16 : decode prog_1_method_34_code 16 = .ok (.getfield 51, 3) := by decide +kernel
theorem d_Main_readAreaOf_19 : decode prog_1_method_34_code 19 = .ok (.getfield 94, 3) := by decide +kernel
theorem d_Main_readAreaOf_22 : decode prog_1_method_34_code 22 = .ok (.iload_n 3, 1) := by decide +kernel
theorem d_Main_readAreaOf_23 : decode prog_1_method_34_code 23 = .ok (.iaload, 1) := by decide +kernel
theorem d_Main_readAreaOf_24 : decode prog_1_method_34_code 24 = .ok (.iload_n 1, 1) := by decide +kernel
theorem d_Main_readAreaOf_25 : decode prog_1_method_34_code 25 = .ok (.if_icmp .ne 38, 3) := by decide +kernel
theorem d_Main_readAreaOf_28 : decode prog_1_method_34_code 28 = .ok (.aload_n 0, 1) := by decide +kernel
theorem d_Main_readAreaOf_29 : decode prog_1_method_34_code 29 = .ok (.getfield 51, 3) := by decide +kernel
theorem d_Main_readAreaOf_32 : decode prog_1_method_34_code 32 = .ok (.getfield 98, 3) := by decide +kernel
theorem d_Main_readAreaOf_35 : decode prog_1_method_34_code 35 = .ok (.iload_n 3, 1) := by decide +kernel
theorem d_Main_readAreaOf_36 : decode prog_1_method_34_code 36 = .ok (.iaload, 1) := by decide +kernel
theorem d_Main_readAreaOf_37 : decode prog_1_method_34_code 37 = .ok (.ifCond .eq 26, 3) := by decide +kernel
theorem d_Main_readAreaOf_40 : decode prog_1_method_34_code 40 = .ok (.aload_n 0, 1) := by decide +kernel
theorem d_Main_readAreaOf_41 : decode prog_1_method_34_code 41 = .ok (.getfield 40, 3) := by decide +kernel
theorem d_Main_readAreaOf_44 : decode prog_1_method_34_code 44 = .ok (.iload_n 3, 1) := by decide +kernel
theorem d_Main_readAreaOf_45 : decode prog_1_method_34_code 45 = .ok (.invokevirtual 107, 3) := by decide +kernel
theorem d_Main_readAreaOf_48 : decode prog_1_method_34_code 48 = .ok (.ifCond .eq 15, 3) := by decide +kernel
theorem d_Main_readAreaOf_51 : decode prog_1_method_34_code 51 = .ok (.iload_n 2, 1) := by decide +kernel
theorem d_Main_readAreaOf_52 : decode prog_1_method_34_code 52 = .ok (.aload_n 0, 1) := by decide +kernel
theorem d_Main_readAreaOf_53 : decode prog_1_method_34_code 53 = .ok (.getfield 51, 3) := by decide +kernel
theorem d_Main_readAreaOf_56 : decode prog_1_method_34_code 56 = .ok (.getfield 101, 3) := by decide +kernel
theorem d_Main_readAreaOf_59 : decode prog_1_method_34_code 59 = .ok (.iload_n 3, 1) := by decide +kernel
theorem d_Main_readAreaOf_60 : decode prog_1_method_34_code 60 = .ok (.iaload, 1) := by decide +kernel
theorem d_Main_readAreaOf_61 : decode prog_1_method_34_code 61 = .ok (.iadd, 1) := by decide +kernel
theorem d_Main_readAreaOf_62 : decode prog_1_method_34_code 62 = .ok (.istore_n 2, 1) := by decide +kernel
theorem d_Main_readAreaOf_63 : decode prog_1_method_34_code 63 = .ok (.iinc 3 1, 3) := by decide +kernel
theorem d_Main_readAreaOf_66 : decode prog_1_method_34_code 66 = .ok (.goto (-62), 3) := by decide +kernel
theorem d_Main_readAreaOf_69 : decode prog_1_method_34_code 69 = .ok (.iload_n 2, 1) := by decide +kernel
theorem d_Main_readAreaOf_70 : decode prog_1_method_34_code 70 = .ok (.ireturn, 1) := by decide +kernel
theorem d_Main_next_0 : decode prog_1_method_28_code 0 = .ok (.bipush (-4), 2) := by decide +kernel
theorem d_Main_next_2 : decode prog_1_method_28_code 2 = .ok (.istore_n 1, 1) := by decide +kernel
theorem d_Main_next_3 : decode prog_1_method_28_code 3 = .ok (.iconst (-1), 1) := by decide +kernel
theorem d_Main_next_4 : decode prog_1_method_28_code 4 = .ok (.istore_n 2, 1) := by decide +kernel
theorem d_Main_next_5 : decode prog_1_method_28_code 5 = .ok (.iconst 0, 1) := by decide +kernel
theorem d_Main_next_6 : decode prog_1_method_28_code 6 = .ok (.istore_n 3, 1) := by decide +kernel
theorem d_Main_next_7 : decode prog_1_method_28_code 7 = .ok (.iload_n 3, 1) := by decide +kernel
theorem d_Main_next_8 : decode prog_1_method_28_code 8 = .ok (.aload_n 0, 1) := by decide +kernel
theorem d_Main_next_9 : decode prog_1_method_28_code 9 = .ok (.getfield 51, 3) := by decide +kernel
theorem d_Main_next_12 : decode prog_1_method_28_code 12 = .ok (.getfield 83, 3) := by decide +kernel
theorem d_Main_next_15 : decode prog_1_method_28_code 15 = .ok (.if_icmp .ge 61, 3) := by decide +kernel
theorem d_Main_next_18 : decode prog_1_method_28_code 18 = .ok (.aload_n 0, 1) := by decide +kernel
theorem d_Main_next_19 : decode prog_1_method_28_code 19 = .ok (.getfield 51, 3) := by decide +kernel
theorem d_Main_next_22 : decode prog_1_method_28_code 22 = .ok (.getfield 98, 3) := by decide +kernel
theorem d_Main_next_25 : decode prog_1_method_28_code 25 = .ok (.iload_n 3, 1) := by decide +kernel
theorem d_Main_next_26 : decode prog_1_method_28_code 26 = .ok (.iaload, 1) := by decide +kernel
theorem d_Main_next_27 : decode prog_1_method_28_code 27 = .ok (.ifCond .ne 43, 3) := by decide +kernel
theorem d_Main_next_30 : decode prog_1_method_28_code 30 = .ok (.aload_n 0, 1) := by decide +kernel
theorem d_Main_next_31 : decode prog_1_method_28_code 31 = .ok (.getfield 40, 3) := by decide +kernel
theorem d_Main_next_34 : decode prog_1_method_28_code 34 = .ok (.iload_n 3, 1) := by decide +kernel
theorem d_Main_next_35 : decode prog_1_method_28_code 35 = .ok (.invokevirtual 107, 3) := by decide +kernel
theorem d_Main_next_38 : decode prog_1_method_28_code 38 = .ok (.ifCond .eq 6, 3) := by decide +kernel
theorem d_Main_next_41 : decode prog_1_method_28_code 41 = .ok (.goto 29, 3) := by decide +kernel
theorem d_Main_next_44 : decode prog_1_method_28_code 44 = .ok (.aload_n 0, 1) := by decide +kernel
theorem d_Main_next_45 : decode prog_1_method_28_code 45 = .ok (.aload_n 0, 1) := by decide +kernel
theorem d_Main_next_46 : decode prog_1_method_28_code 46 = .ok (.getfield 51, 3) := by decide +kernel
theorem d_Main_next_49 : decode prog_1_method_28_code 49 = .ok (.getfield 94, 3) := by decide +kernel
theorem d_Main_next_52 : decode prog_1_method_28_code 52 = .ok (.iload_n 3, 1) := by decide +kernel
theorem d_Main_next_53 : decode prog_1_method_28_code 53 = .ok (.iaload, 1) := by decide +kernel
theorem d_Main_next_54 : decode prog_1_method_28_code 54 = .ok (.invokevirtual 225, 3) := by decide +kernel
theorem d_Main_next_57 : decode prog_1_method_28_code 57 = .ok (.istore 4, 2) := by decide +kernel
theorem d_Main_next_59 : decode prog_1_method_28_code 59 = .ok (.iload 4, 2) := by decide +kernel
theorem d_Main_next_61 : decode prog_1_method_28_code 61 = .ok (.iload_n 2, 1) := by decide +kernel
theorem d_Main_next_62 : decode prog_1_method_28_code 62 = .ok (.if_icmp .le 8, 3) := by decide +kernel
theorem d_Main_next_65 : decode prog_1_method_28_code 65 = .ok (.iload 4, 2) := by decide +kernel
theorem d_Main_next_67 : decode prog_1_method_28_code 67 = .ok (.istore_n 2, 1) := by decide +kernel
theorem d_Main_next_68 : decode prog_1_method_28_code 68 = .ok (.iload_n 3, 1) := by decide +kernel
theorem d_Main_next_69 : decode prog_1_method_28_code 69 = .ok (.istore_n 1, 1) := by decide +kernel
theorem d_Main_next_70 : decode prog_1_method_28_code 70 = .ok (.iinc 3 1, 3) := by decide +kernel
theorem d_Main_next_73 : decode prog_1_method_28_code 73 = .ok (.goto (-66), 3) := by decide +kernel
theorem d_Main_next_76 : decode prog_1_method_28_code 76 = .ok (.iload_n 1, 1) := by decide +kernel
theorem d_Main_next_77 : decode prog_1_method_28_code 77 = .ok (.ireturn, 1) := by decide +kernel
theorem d_Finds_copyFrom_0 : decode prog_3_method_3_code 0 = .ok (.iconst 0, 1) := by decide +kernel
theorem d_Finds_copyFrom_1 : decode prog_3_method_3_code 1 = .ok (.istore_n 2, 1) := by decide +kernel
theorem d_Finds_copyFrom_2 : decode prog_3_method_3_code 2 = .ok (.iload_n 2, 1) := by decide +kernel
theorem d_Finds_copyFrom_3 : decode prog_3_method_3_code 3 = .ok (.bipush 10, 2) := by decide +kernel
theorem d_Finds_copyFrom_5 : decode prog_3_method_3_code 5 = .ok (.if_icmp .ge 28, 3) := by decide +kernel
theorem d_Finds_copyFrom_8 : decode prog_3_method_3_code 8 = .ok (.aload_n 1, 1) := by decide +kernel
theorem d_Finds_copyFrom_9 : decode prog_3_method_3_code 9 = .ok (.getfield 11, 3) := by decide +kernel
theorem d_Finds_copyFrom_12 : decode prog_3_method_3_code 12 = .ok (.iload_n 2, 1) := by decide +kernel
theorem d_Finds_copyFrom_13 : decode prog_3_method_3_code 13 = .ok (.aaload, 1) := by decide +kernel
theorem d_Finds_copyFrom_14 : decode prog_3_method_3_code 14 = .ok (.iconst 0, 1) := by decide +kernel
theorem d_Finds_copyFrom_15 : decode prog_3_method_3_code 15 = .ok (.aload_n 0, 1) := by decide +kernel
theorem d_Finds_copyFrom_16 : decode prog_3_method_3_code 16 = .ok (.getfield 11, 3) := by decide +kernel
theorem d_Finds_copyFrom_19 : decode prog_3_method_3_code 19 = .ok (.iload_n 2, 1) := by decide +kernel
theorem d_Finds_copyFrom_20 : decode prog_3_method_3_code 20 = .ok (.aaload, 1) := by decide +kernel
theorem d_Finds_copyFrom_21 : decode prog_3_method_3_code 21 = .ok (.iconst 0, 1) := by decide +kernel
theorem d_Finds_copyFrom_22 : decode prog_3_method_3_code 22 = .ok (.bipush 6, 2) := by decide +kernel
theorem d_Finds_copyFrom_24 : decode prog_3_method_3_code 24 = .ok (.invokestatic 35, 3) := by decide +kernel
theorem d_Finds_copyFrom_27 : decode prog_3_method_3_code 27 = .ok (.iinc 2 1, 3) := by decide +kernel
theorem d_Finds_copyFrom_30 : decode prog_3_method_3_code 30 = .ok (.goto (-28), 3) := by decide +kernel
theorem d_Finds_copyFrom_33 : decode prog_3_method_3_code 33 = .ok (.iconst 0, 1) := by decide +kernel
theorem d_Finds_copyFrom_34 : decode prog_3_method_3_code 34 = .ok (.istore_n 2, 1) := by decide +kernel
theorem d_Finds_copyFrom_35 : decode prog_3_method_3_code 35 = .ok (.iload_n 2, 1) := by decide +kernel
theorem d_Finds_copyFrom_36 : decode prog_3_method_3_code 36 = .ok (.bipush 6, 2) := by decide +kernel
theorem d_Finds_copyFrom_38 : decode prog_3_method_3_code 38 = .ok (.if_icmp .ge 28, 3) := by decide +kernel
theorem d_Finds_copyFrom_41 : decode prog_3_method_3_code 41 = .ok (.aload_n 1, 1) := by decide +kernel
theorem d_Finds_copyFrom_42 : decode prog_3_method_3_code 42 = .ok (.getfield 16, 3) := by decide +kernel
theorem d_Finds_copyFrom_45 : decode prog_3_method_3_code 45 = .ok (.iload_n 2, 1) := by decide +kernel
theorem d_Finds_copyFrom_46 : decode prog_3_method_3_code 46 = .ok (.aaload, 1) := by decide +kernel
theorem d_Finds_copyFrom_47 : decode prog_3_method_3_code 47 = .ok (.iconst 0, 1) := by decide +kernel
theorem d_Finds_copyFrom_48 : decode prog_3_method_3_code 48 = .ok (.aload_n 0, 1) := by decide +kernel
theorem d_Finds_copyFrom_49 : decode prog_3_method_3_code 49 = .ok (.getfield 16, 3) := by decide +kernel
theorem d_Finds_copyFrom_52 : decode prog_3_method_3_code 52 = .ok (.iload_n 2, 1) := by decide +kernel
theorem d_Finds_copyFrom_53 : decode prog_3_method_3_code 53 = .ok (.aaload, 1) := by decide +kernel
theorem d_Finds_copyFrom_54 : decode prog_3_method_3_code 54 = .ok (.iconst 0, 1) := by decide +kernel
theorem d_Finds_copyFrom_55 : decode prog_3_method_3_code 55 = .ok (.bipush 6, 2) := by decide +kernel
theorem d_Finds_copyFrom_57 : decode prog_3_method_3_code 57 = .ok (.invokestatic 35, 3) := by decide +kernel
theorem d_Finds_copyFrom_60 : decode prog_3_method_3_code 60 = .ok (.iinc 2 1, 3) := by decide +kernel
theorem d_Finds_copyFrom_63 : decode prog_3_method_3_code 63 = .ok (.goto (-28), 3) := by decide +kernel
theorem d_Finds_copyFrom_66 : decode prog_3_method_3_code 66 = .ok (.aload_n 0, 1) := by decide +kernel
theorem d_Finds_copyFrom_67 : decode prog_3_method_3_code 67 = .ok (.aload_n 1, 1) := by decide +kernel
theorem d_Finds_copyFrom_68 : decode prog_3_method_3_code 68 = .ok (.getfield 25, 3) := by decide +kernel
theorem d_Finds_copyFrom_71 : decode prog_3_method_3_code 71 = .ok (.putfield 25, 3) := by decide +kernel
theorem d_Finds_copyFrom_74 : decode prog_3_method_3_code 74 = .ok (.aload_n 0, 1) := by decide +kernel
theorem d_Finds_copyFrom_75 : decode prog_3_method_3_code 75 = .ok (.aload_n 1, 1) := by decide +kernel
theorem d_Finds_copyFrom_76 : decode prog_3_method_3_code 76 = .ok (.getfield 29, 3) := by decide +kernel
theorem d_Finds_copyFrom_79 : decode prog_3_method_3_code 79 = .ok (.putfield 29, 3) := by decide +kernel
theorem d_Finds_copyFrom_82 : decode prog_3_method_3_code 82 = .ok (.aload_n 0, 1) := by decide +kernel
theorem d_Finds_copyFrom_83 : decode prog_3_method_3_code 83 = .ok (.aload_n 1, 1) := by decide +kernel
theorem d_Finds_copyFrom_84 : decode prog_3_method_3_code 84 = .ok (.getfield 32, 3) := by decide +kernel
theorem d_Finds_copyFrom_87 : decode prog_3_method_3_code 87 = .ok (.putfield 32, 3) := by decide +kernel
theorem d_Finds_copyFrom_90 : decode prog_3_method_3_code 90 = .ok (.return_, 1) := by decide +kernel
theorem d_Main_keep_0 : decode prog_1_method_29_code 0 = .ok (.aload_n 0, 1) := by decide +kernel
theorem d_Main_keep_1 : decode prog_1_method_29_code 1 = .ok (.getfield 87, 3) := by decide +kernel
theorem d_Main_keep_4 : decode prog_1_method_29_code 4 = .ok (.iconst 2, 1) := by decide +kernel
theorem d_Main_keep_5 : decode prog_1_method_29_code 5 = .ok (.if_icmp .lt 6, 3) := by decide +kernel
theorem d_Main_keep_8 : decode prog_1_method_29_code 8 = .ok (.bipush (-3), 2) := by decide +kernel
theorem d_Main_keep_10 : decode prog_1_method_29_code 10 = .ok (.ireturn, 1) := by decide +kernel
theorem d_Main_keep_11 : decode prog_1_method_29_code 11 = .ok (.aload_n 0, 1) := by decide +kernel
theorem d_Main_keep_12 : decode prog_1_method_29_code 12 = .ok (.getfield 44, 3) := by decide +kernel
theorem d_Main_keep_15 : decode prog_1_method_29_code 15 = .ok (.aload_n 0, 1) := by decide +kernel
theorem d_Main_keep_16 : decode prog_1_method_29_code 16 = .ok (.getfield 87, 3) := by decide +kernel
theorem d_Main_keep_19 : decode prog_1_method_29_code 19 = .ok (.aaload, 1) := by decide +kernel
theorem d_Main_keep_20 : decode prog_1_method_29_code 20 = .ok (.aload_n 0, 1) := by decide +kernel
theorem d_Main_keep_21 : decode prog_1_method_29_code 21 = .ok (.getfield 40, 3) := by decide +kernel
theorem d_Main_keep_24 : decode prog_1_method_29_code 24 = .ok (.invokevirtual 228, 3) := by decide +kernel
theorem d_Main_keep_27 : decode prog_1_method_29_code 27 = .ok (.aload_n 0, 1) := by decide +kernel
theorem d_Main_keep_28 : decode prog_1_method_29_code 28 = .ok (.dup, 1) := by decide +kernel
theorem d_Main_keep_29 : decode prog_1_method_29_code 29 = .ok (.getfield 87, 3) := by decide +kernel
theorem d_Main_keep_32 : decode prog_1_method_29_code 32 = .ok (.iconst 1, 1) := by decide +kernel
theorem d_Main_keep_33 : decode prog_1_method_29_code 33 = .ok (.iadd, 1) := by decide +kernel
theorem d_Main_keep_34 : decode prog_1_method_29_code 34 = .ok (.putfield 87, 3) := by decide +kernel
theorem d_Main_keep_37 : decode prog_1_method_29_code 37 = .ok (.aload_n 0, 1) := by decide +kernel
theorem d_Main_keep_38 : decode prog_1_method_29_code 38 = .ok (.getfield 87, 3) := by decide +kernel
theorem d_Main_keep_41 : decode prog_1_method_29_code 41 = .ok (.ireturn, 1) := by decide +kernel
theorem d_Main_back_0 : decode prog_1_method_30_code 0 = .ok (.aload_n 0, 1) := by decide +kernel
theorem d_Main_back_1 : decode prog_1_method_30_code 1 = .ok (.getfield 87, 3) := by decide +kernel
theorem d_Main_back_4 : decode prog_1_method_30_code 4 = .ok (.ifCond .ne 6, 3) := by decide +kernel
theorem d_Main_back_7 : decode prog_1_method_30_code 7 = .ok (.bipush (-2), 2) := by decide +kernel
theorem d_Main_back_9 : decode prog_1_method_30_code 9 = .ok (.ireturn, 1) := by decide +kernel
theorem d_Main_back_10 : decode prog_1_method_30_code 10 = .ok (.aload_n 0, 1) := by decide +kernel
theorem d_Main_back_11 : decode prog_1_method_30_code 11 = .ok (.dup, 1) := by decide +kernel
theorem d_Main_back_12 : decode prog_1_method_30_code 12 = .ok (.getfield 87, 3) := by decide +kernel
theorem d_Main_back_15 : decode prog_1_method_30_code 15 = .ok (.iconst 1, 1) := by decide +kernel
theorem d_Main_back_16 : decode prog_1_method_30_code 16 = .ok (.isub, 1) := by decide +kernel
theorem d_Main_back_17 : decode prog_1_method_30_code 17 = .ok (.putfield 87, 3) := by decide +kernel
theorem d_Main_back_20 : decode prog_1_method_30_code 20 = .ok (.aload_n 0, 1) := by decide +kernel
theorem d_Main_back_21 : decode prog_1_method_30_code 21 = .ok (.getfield 40, 3) := by decide +kernel
theorem d_Main_back_24 : decode prog_1_method_30_code 24 = .ok (.aload_n 0, 1) := by decide +kernel
theorem d_Main_back_25 : decode prog_1_method_30_code 25 = .ok (.getfield 44, 3) := by decide +kernel
theorem d_Main_back_28 : decode prog_1_method_30_code 28 = .ok (.aload_n 0, 1) := by decide +kernel
theorem d_Main_back_29 : decode prog_1_method_30_code 29 = .ok (.getfield 87, 3) := by decide +kernel
theorem d_Main_back_32 : decode prog_1_method_30_code 32 = .ok (.aaload, 1) := by decide +kernel
theorem d_Main_back_33 : decode prog_1_method_30_code 33 = .ok (.invokevirtual 228, 3) := by decide +kernel
theorem d_Main_back_36 : decode prog_1_method_30_code 36 = .ok (.aload_n 0, 1) := by decide +kernel
theorem d_Main_back_37 : decode prog_1_method_30_code 37 = .ok (.getfield 87, 3) := by decide +kernel
theorem d_Main_back_40 : decode prog_1_method_30_code 40 = .ok (.ireturn, 1) := by decide +kernel
theorem d_Main_size_0 : decode prog_1_method_31_code 0 = .ok (.iload_n 1, 1) := by decide +kernel
theorem d_Main_size_1 : decode prog_1_method_31_code 1 = .ok (.tableswitch 87 0 5 #[39, 47, 55, 63, 71, 76], 39) := by decide +kernel
theorem d_Main_size_40 : decode prog_1_method_31_code 40 = .ok (.aload_n 0, 1) := by decide +kernel
theorem d_Main_size_41 : decode prog_1_method_31_code 41 = .ok (.getfield 51, 3) := by decide +kernel
theorem d_Main_size_44 : decode prog_1_method_31_code 44 = .ok (.getfield 80, 3) := by decide +kernel
theorem d_Main_size_47 : decode prog_1_method_31_code 47 = .ok (.ireturn, 1) := by decide +kernel
theorem d_Main_size_48 : decode prog_1_method_31_code 48 = .ok (.aload_n 0, 1) := by decide +kernel
theorem d_Main_size_49 : decode prog_1_method_31_code 49 = .ok (.getfield 51, 3) := by decide +kernel
theorem d_Main_size_52 : decode prog_1_method_31_code 52 = .ok (.getfield 83, 3) := by decide +kernel
theorem d_Main_size_55 : decode prog_1_method_31_code 55 = .ok (.ireturn, 1) := by decide +kernel
theorem d_Main_size_56 : decode prog_1_method_31_code 56 = .ok (.aload_n 0, 1) := by decide +kernel
theorem d_Main_size_57 : decode prog_1_method_31_code 57 = .ok (.getfield 10, 3) := by decide +kernel
theorem d_Main_size_60 : decode prog_1_method_31_code 60 = .ok (.getfield 65, 3) := by decide +kernel
theorem d_Main_size_63 : decode prog_1_method_31_code 63 = .ok (.ireturn, 1) := by decide +kernel
theorem d_Main_size_64 : decode prog_1_method_31_code 64 = .ok (.aload_n 0, 1) := by decide +kernel
theorem d_Main_size_65 : decode prog_1_method_31_code 65 = .ok (.getfield 40, 3) := by decide +kernel
theorem d_Main_size_68 : decode prog_1_method_31_code 68 = .ok (.getfield 207, 3) := by decide +kernel
theorem d_Main_size_71 : decode prog_1_method_31_code 71 = .ok (.ireturn, 1) := by decide +kernel
theorem d_Main_size_72 : decode prog_1_method_31_code 72 = .ok (.aload_n 0, 1) := by decide +kernel
theorem d_Main_size_73 : decode prog_1_method_31_code 73 = .ok (.getfield 87, 3) := by decide +kernel
theorem d_Main_size_76 : decode prog_1_method_31_code 76 = .ok (.ireturn, 1) := by decide +kernel
theorem d_Main_size_77 : decode prog_1_method_31_code 77 = .ok (.aload_n 0, 1) := by decide +kernel
theorem d_Main_size_78 : decode prog_1_method_31_code 78 = .ok (.getfield 40, 3) := by decide +kernel
theorem d_Main_size_81 : decode prog_1_method_31_code 81 = .ok (.getfield 232, 3) := by decide +kernel
theorem d_Main_size_84 : decode prog_1_method_31_code 84 = .ok (.invokestatic 235, 3) := by decide +kernel
theorem d_Main_size_87 : decode prog_1_method_31_code 87 = .ok (.ireturn, 1) := by decide +kernel
theorem d_Main_size_88 : decode prog_1_method_31_code 88 = .ok (.iconst (-1), 1) := by decide +kernel
theorem d_Main_size_89 : decode prog_1_method_31_code 89 = .ok (.ireturn, 1) := by decide +kernel
theorem d_Model_in_0 : decode prog_10_method_2_code 0 = .ok (.lload_n 0, 1) := by decide +kernel
theorem d_Model_in_1 : decode prog_10_method_2_code 1 = .ok (.lload_n 2, 1) := by decide +kernel
theorem d_Model_in_2 : decode prog_10_method_2_code 2 = .ok (.lcmp, 1) := by decide +kernel
theorem d_Model_in_3 : decode prog_10_method_2_code 3 = .ok (.ifCond .lt 14, 3) := by decide +kernel
theorem d_Model_in_6 : decode prog_10_method_2_code 6 = .ok (.lload_n 0, 1) := by decide +kernel
theorem d_Model_in_7 : decode prog_10_method_2_code 7 = .ok (.lload 4, 2) := by decide +kernel
theorem d_Model_in_9 : decode prog_10_method_2_code 9 = .ok (.lcmp, 1) := by decide +kernel
theorem d_Model_in_10 : decode prog_10_method_2_code 10 = .ok (.ifCond .gt 7, 3) := by decide +kernel
theorem d_Model_in_13 : decode prog_10_method_2_code 13 = .ok (.iconst 1, 1) := by decide +kernel
theorem d_Model_in_14 : decode prog_10_method_2_code 14 = .ok (.goto 4, 3) := by decide +kernel
theorem d_Model_in_17 : decode prog_10_method_2_code 17 = .ok (.iconst 0, 1) := by decide +kernel
theorem d_Model_in_18 : decode prog_10_method_2_code 18 = .ok (.ireturn, 1) := by decide +kernel
theorem d_Model_has_0 : decode prog_10_method_3_code 0 = .ok (.iload_n 0, 1) := by decide +kernel
theorem d_Model_has_1 : decode prog_10_method_3_code 1 = .ok (.iload_n 1, 1) := by decide +kernel
theorem d_Model_has_2 : decode prog_10_method_3_code 2 = .ok (.ishr, 1) := by decide +kernel
theorem d_Model_has_3 : decode prog_10_method_3_code 3 = .ok (.iconst 1, 1) := by decide +kernel
theorem d_Model_has_4 : decode prog_10_method_3_code 4 = .ok (.iand, 1) := by decide +kernel
theorem d_Model_has_5 : decode prog_10_method_3_code 5 = .ok (.iconst 1, 1) := by decide +kernel
theorem d_Model_has_6 : decode prog_10_method_3_code 6 = .ok (.if_icmp .ne 7, 3) := by decide +kernel
theorem d_Model_has_9 : decode prog_10_method_3_code 9 = .ok (.iconst 1, 1) := by decide +kernel
theorem d_Model_has_10 : decode prog_10_method_3_code 10 = .ok (.goto 4, 3) := by decide +kernel
theorem d_Model_has_13 : decode prog_10_method_3_code 13 = .ok (.iconst 0, 1) := by decide +kernel
theorem d_Model_has_14 : decode prog_10_method_3_code 14 = .ok (.ireturn, 1) := by decide +kernel
theorem d_Model_noStones_0 : decode prog_10_method_4_code 0 = .ok (.aload_n 0, 1) := by decide +kernel
theorem d_Model_noStones_1 : decode prog_10_method_4_code 1 = .ok (.getfield 13, 3) := by decide +kernel
theorem d_Model_noStones_4 : decode prog_10_method_4_code 4 = .ok (.iload_n 1, 1) := by decide +kernel
theorem d_Model_noStones_5 : decode prog_10_method_4_code 5 = .ok (.iconst 0, 1) := by decide +kernel
theorem d_Model_noStones_6 : decode prog_10_method_4_code 6 = .ok (.iastore, 1) := by decide +kernel
theorem d_Model_noStones_7 : decode prog_10_method_4_code 7 = .ok (.aload_n 0, 1) := by decide +kernel
theorem d_Model_noStones_8 : decode prog_10_method_4_code 8 = .ok (.getfield 19, 3) := by decide +kernel
theorem d_Model_noStones_11 : decode prog_10_method_4_code 11 = .ok (.iload_n 1, 1) := by decide +kernel
theorem d_Model_noStones_12 : decode prog_10_method_4_code 12 = .ok (.iconst 0, 1) := by decide +kernel
theorem d_Model_noStones_13 : decode prog_10_method_4_code 13 = .ok (.iastore, 1) := by decide +kernel
theorem d_Model_noStones_14 : decode prog_10_method_4_code 14 = .ok (.iconst 0, 1) := by decide +kernel
theorem d_Model_noStones_15 : decode prog_10_method_4_code 15 = .ok (.istore_n 2, 1) := by decide +kernel
theorem d_Model_noStones_16 : decode prog_10_method_4_code 16 = .ok (.iload_n 2, 1) := by decide +kernel
theorem d_Model_noStones_17 : decode prog_10_method_4_code 17 = .ok (.bipush 60, 2) := by decide +kernel
theorem d_Model_noStones_19 : decode prog_10_method_4_code 19 = .ok (.if_icmp .ge 21, 3) := by decide +kernel
theorem d_Model_noStones_22 : decode prog_10_method_4_code 22 = .ok (.aload_n 0, 1) := by decide +kernel
theorem d_Model_noStones_23 : decode prog_10_method_4_code 23 = .ok (.getfield 34, 3) := by decide +kernel
theorem d_Model_noStones_26 : decode prog_10_method_4_code 26 = .ok (.bipush 60, 2) := by decide +kernel
theorem d_Model_noStones_28 : decode prog_10_method_4_code 28 = .ok (.iload_n 1, 1) := by decide +kernel
theorem d_Model_noStones_29 : decode prog_10_method_4_code 29 = .ok (.imul, 1) := by decide +kernel
theorem d_Model_noStones_30 : decode prog_10_method_4_code 30 = .ok (.iload_n 2, 1) := by decide +kernel
theorem d_Model_noStones_31 : decode prog_10_method_4_code 31 = .ok (.iadd, 1) := by decide +kernel
theorem d_Model_noStones_32 : decode prog_10_method_4_code 32 = .ok (.iconst 0, 1) := by decide +kernel
theorem d_Model_noStones_33 : decode prog_10_method_4_code 33 = .ok (.iastore, 1) := by decide +kernel
theorem d_Model_noStones_34 : decode prog_10_method_4_code 34 = .ok (.iinc 2 1, 3) := by decide +kernel
theorem d_Model_noStones_37 : decode prog_10_method_4_code 37 = .ok (.goto (-21), 3) := by decide +kernel
theorem d_Model_noStones_40 : decode prog_10_method_4_code 40 = .ok (.iconst 0, 1) := by decide +kernel
theorem d_Model_noStones_41 : decode prog_10_method_4_code 41 = .ok (.istore_n 2, 1) := by decide +kernel
theorem d_Model_noStones_42 : decode prog_10_method_4_code 42 = .ok (.iload_n 2, 1) := by decide +kernel
theorem d_Model_noStones_43 : decode prog_10_method_4_code 43 = .ok (.bipush 24, 2) := by decide +kernel
theorem d_Model_noStones_45 : decode prog_10_method_4_code 45 = .ok (.if_icmp .ge 21, 3) := by decide +kernel
theorem d_Model_noStones_48 : decode prog_10_method_4_code 48 = .ok (.aload_n 0, 1) := by decide +kernel
theorem d_Model_noStones_49 : decode prog_10_method_4_code 49 = .ok (.getfield 37, 3) := by decide +kernel
theorem d_Model_noStones_52 : decode prog_10_method_4_code 52 = .ok (.bipush 24, 2) := by decide +kernel
theorem d_Model_noStones_54 : decode prog_10_method_4_code 54 = .ok (.iload_n 1, 1) := by decide +kernel
theorem d_Model_noStones_55 : decode prog_10_method_4_code 55 = .ok (.imul, 1) := by decide +kernel
theorem d_Model_noStones_56 : decode prog_10_method_4_code 56 = .ok (.iload_n 2, 1) := by decide +kernel
theorem d_Model_noStones_57 : decode prog_10_method_4_code 57 = .ok (.iadd, 1) := by decide +kernel
theorem d_Model_noStones_58 : decode prog_10_method_4_code 58 = .ok (.iconst 0, 1) := by decide +kernel
theorem d_Model_noStones_59 : decode prog_10_method_4_code 59 = .ok (.iastore, 1) := by decide +kernel
theorem d_Model_noStones_60 : decode prog_10_method_4_code 60 = .ok (.iinc 2 1, 3) := by decide +kernel
theorem d_Model_noStones_63 : decode prog_10_method_4_code 63 = .ok (.goto (-21), 3) := by decide +kernel
theorem d_Model_noStones_66 : decode prog_10_method_4_code 66 = .ok (.iconst 0, 1) := by decide +kernel
theorem d_Model_noStones_67 : decode prog_10_method_4_code 67 = .ok (.istore_n 2, 1) := by decide +kernel
theorem d_Model_noStones_68 : decode prog_10_method_4_code 68 = .ok (.iload_n 2, 1) := by decide +kernel
theorem d_Model_noStones_69 : decode prog_10_method_4_code 69 = .ok (.iconst 4, 1) := by decide +kernel
theorem d_Model_noStones_70 : decode prog_10_method_4_code 70 = .ok (.if_icmp .ge 42, 3) := by decide +kernel
theorem d_Model_noStones_73 : decode prog_10_method_4_code 73 = .ok (.aload_n 0, 1) := by decide +kernel
theorem d_Model_noStones_74 : decode prog_10_method_4_code 74 = .ok (.getfield 40, 3) := by decide +kernel
theorem d_Model_noStones_77 : decode prog_10_method_4_code 77 = .ok (.iconst 4, 1) := by decide +kernel
theorem d_Model_noStones_78 : decode prog_10_method_4_code 78 = .ok (.iload_n 1, 1) := by decide +kernel
theorem d_Model_noStones_79 : decode prog_10_method_4_code 79 = .ok (.imul, 1) := by decide +kernel
theorem d_Model_noStones_80 : decode prog_10_method_4_code 80 = .ok (.iload_n 2, 1) := by decide +kernel
theorem d_Model_noStones_81 : decode prog_10_method_4_code 81 = .ok (.iadd, 1) := by decide +kernel
theorem d_Model_noStones_82 : decode prog_10_method_4_code 82 = .ok (.iconst 0, 1) := by decide +kernel
theorem d_Model_noStones_83 : decode prog_10_method_4_code 83 = .ok (.iastore, 1) := by decide +kernel
theorem d_Model_noStones_84 : decode prog_10_method_4_code 84 = .ok (.aload_n 0, 1) := by decide +kernel
theorem d_Model_noStones_85 : decode prog_10_method_4_code 85 = .ok (.getfield 43, 3) := by decide +kernel
theorem d_Model_noStones_88 : decode prog_10_method_4_code 88 = .ok (.iconst 4, 1) := by decide +kernel
theorem d_Model_noStones_89 : decode prog_10_method_4_code 89 = .ok (.iload_n 1, 1) := by decide +kernel
theorem d_Model_noStones_90 : decode prog_10_method_4_code 90 = .ok (.imul, 1) := by decide +kernel
theorem d_Model_noStones_91 : decode prog_10_method_4_code 91 = .ok (.iload_n 2, 1) := by decide +kernel
theorem d_Model_noStones_92 : decode prog_10_method_4_code 92 = .ok (.iadd, 1) := by decide +kernel
theorem d_Model_noStones_93 : decode prog_10_method_4_code 93 = .ok (.iconst 0, 1) := by decide +kernel
theorem d_Model_noStones_94 : decode prog_10_method_4_code 94 = .ok (.iastore, 1) := by decide +kernel
theorem d_Model_noStones_95 : decode prog_10_method_4_code 95 = .ok (.aload_n 0, 1) := by decide +kernel
theorem d_Model_noStones_96 : decode prog_10_method_4_code 96 = .ok (.getfield 46, 3) := by decide +kernel
theorem d_Model_noStones_99 : decode prog_10_method_4_code 99 = .ok (.iconst 4, 1) := by decide +kernel
theorem d_Model_noStones_100 : decode prog_10_method_4_code 100 = .ok (.iload_n 1, 1) := by decide +kernel
theorem d_Model_noStones_101 : decode prog_10_method_4_code 101 = .ok (.imul, 1) := by decide +kernel
theorem d_Model_noStones_102 : decode prog_10_method_4_code 102 = .ok (.iload_n 2, 1) := by decide +kernel
theorem d_Model_noStones_103 : decode prog_10_method_4_code 103 = .ok (.iadd, 1) := by decide +kernel
theorem d_Model_noStones_104 : decode prog_10_method_4_code 104 = .ok (.iconst 0, 1) := by decide +kernel
theorem d_Model_noStones_105 : decode prog_10_method_4_code 105 = .ok (.iastore, 1) := by decide +kernel
theorem d_Model_noStones_106 : decode prog_10_method_4_code 106 = .ok (.iinc 2 1, 3) := by decide +kernel
theorem d_Model_noStones_109 : decode prog_10_method_4_code 109 = .ok (.goto (-41), 3) := by decide +kernel
theorem d_Model_noStones_112 : decode prog_10_method_4_code 112 = .ok (.iconst 0, 1) := by decide +kernel
theorem d_Model_noStones_113 : decode prog_10_method_4_code 113 = .ok (.istore_n 2, 1) := by decide +kernel
theorem d_Model_noStones_114 : decode prog_10_method_4_code 114 = .ok (.iload_n 2, 1) := by decide +kernel
theorem d_Model_noStones_115 : decode prog_10_method_4_code 115 = .ok (.bipush 36, 2) := by decide +kernel
theorem d_Model_noStones_117 : decode prog_10_method_4_code 117 = .ok (.if_icmp .ge 21, 3) := by decide +kernel
theorem d_Model_noStones_120 : decode prog_10_method_4_code 120 = .ok (.aload_n 0, 1) := by decide +kernel
theorem d_Model_noStones_121 : decode prog_10_method_4_code 121 = .ok (.getfield 49, 3) := by decide +kernel
theorem d_Model_noStones_124 : decode prog_10_method_4_code 124 = .ok (.bipush 36, 2) := by decide +kernel
theorem d_Model_noStones_126 : decode prog_10_method_4_code 126 = .ok (.iload_n 1, 1) := by decide +kernel
theorem d_Model_noStones_127 : decode prog_10_method_4_code 127 = .ok (.imul, 1) := by decide +kernel
theorem d_Model_noStones_128 : decode prog_10_method_4_code 128 = .ok (.iload_n 2, 1) := by decide +kernel
theorem d_Model_noStones_129 : decode prog_10_method_4_code 129 = .ok (.iadd, 1) := by decide +kernel
theorem d_Model_noStones_130 : decode prog_10_method_4_code 130 = .ok (.iconst 0, 1) := by decide +kernel
theorem d_Model_noStones_131 : decode prog_10_method_4_code 131 = .ok (.iastore, 1) := by decide +kernel
theorem d_Model_noStones_132 : decode prog_10_method_4_code 132 = .ok (.iinc 2 1, 3) := by decide +kernel
theorem d_Model_noStones_135 : decode prog_10_method_4_code 135 = .ok (.goto (-21), 3) := by decide +kernel
theorem d_Model_noStones_138 : decode prog_10_method_4_code 138 = .ok (.return_, 1) := by decide +kernel
theorem d_Model_write_0 : decode prog_10_method_5_code 0 = .ok (.iload_n 1, 1) := by decide +kernel
theorem d_Model_write_1 : decode prog_10_method_5_code 1 = .ok (.i2l, 1) := by decide +kernel
theorem d_Model_write_2 : decode prog_10_method_5_code 2 = .ok (.lconst 1, 1) := by decide +kernel
theorem d_Model_write_3 : decode prog_10_method_5_code 3 = .ok (.ldc2_w 80, 3) := by decide +kernel
theorem d_Model_write_6 : decode prog_10_method_5_code 6 = .ok (.invokestatic 82, 3) := by decide +kernel
theorem d_Model_write_9 : decode prog_10_method_5_code 9 = .ok (.ifCond .ne 5, 3) := by decide +kernel
theorem d_Model_write_12 : decode prog_10_method_5_code 12 = .ok (.iconst (-1), 1) := by decide +kernel
theorem d_Model_write_13 : decode prog_10_method_5_code 13 = .ok (.ireturn, 1) := by decide +kernel
theorem d_Model_write_14 : decode prog_10_method_5_code 14 = .ok (.aload_n 0, 1) := by decide +kernel
theorem d_Model_write_15 : decode prog_10_method_5_code 15 = .ok (.getfield 86, 3) := by decide +kernel
theorem d_Model_write_18 : decode prog_10_method_5_code 18 = .ok (.iload_n 1, 1) := by decide +kernel
theorem d_Model_write_19 : decode prog_10_method_5_code 19 = .ok (.iadd, 1) := by decide +kernel
theorem d_Model_write_20 : decode prog_10_method_5_code 20 = .ok (.sipush 500, 3) := by decide +kernel
theorem d_Model_write_23 : decode prog_10_method_5_code 23 = .ok (.if_icmp .le 6, 3) := by decide +kernel
theorem d_Model_write_26 : decode prog_10_method_5_code 26 = .ok (.bipush (-3), 2) := by decide +kernel
theorem d_Model_write_28 : decode prog_10_method_5_code 28 = .ok (.ireturn, 1) := by decide +kernel
theorem d_Model_write_29 : decode prog_10_method_5_code 29 = .ok (.iload_n 1, 1) := by decide +kernel
theorem d_Model_write_30 : decode prog_10_method_5_code 30 = .ok (.iconst 1, 1) := by decide +kernel
theorem d_Model_write_31 : decode prog_10_method_5_code 31 = .ok (.isub, 1) := by decide +kernel
theorem d_Model_write_32 : decode prog_10_method_5_code 32 = .ok (.istore 4, 2) := by decide +kernel
theorem d_Model_write_34 : decode prog_10_method_5_code 34 = .ok (.iload 4, 2) := by decide +kernel
theorem d_Model_write_36 : decode prog_10_method_5_code 36 = .ok (.ifCond .lt 40, 3) := by decide +kernel
theorem d_Model_write_39 : decode prog_10_method_5_code 39 = .ok (.aload_n 0, 1) := by decide +kernel
theorem d_Model_write_40 : decode prog_10_method_5_code 40 = .ok (.getfield 7, 3) := by decide +kernel
theorem d_Model_write_43 : decode prog_10_method_5_code 43 = .ok (.aload_n 0, 1) := by decide +kernel
theorem d_Model_write_44 : decode prog_10_method_5_code 44 = .ok (.getfield 86, 3) := by decide +kernel
theorem d_Model_write_47 : decode prog_10_method_5_code 47 = .ok (.lload_n 2, 1) := by decide +kernel
theorem d_Model_write_48 : decode prog_10_method_5_code 48 = .ok (.bipush 8, 2) := by decide +kernel
theorem d_Model_write_50 : decode prog_10_method_5_code 50 = .ok (.iload 4, 2) := by decide +kernel
theorem d_Model_write_52 : decode prog_10_method_5_code 52 = .ok (.imul, 1) := by decide +kernel
theorem d_Model_write_53 : decode prog_10_method_5_code 53 = .ok (.lshr, 1) := by decide +kernel
theorem d_Model_write_54 : decode prog_10_method_5_code 54 = .ok (.ldc2_w 90, 3) := by decide +kernel
theorem d_Model_write_57 : decode prog_10_method_5_code 57 = .ok (.land, 1) := by decide +kernel
theorem d_Model_write_58 : decode prog_10_method_5_code 58 = .ok (.l2i, 1) := by decide +kernel
theorem d_Model_write_59 : decode prog_10_method_5_code 59 = .ok (.iastore, 1) := by decide +kernel
theorem d_Model_write_60 : decode prog_10_method_5_code 60 = .ok (.aload_n 0, 1) := by decide +kernel
theorem d_Model_write_61 : decode prog_10_method_5_code 61 = .ok (.dup, 1) := by decide +kernel
theorem d_Model_write_62 : decode prog_10_method_5_code 62 = .ok (.getfield 86, 3) := by decide +kernel
theorem d_Model_write_65 : decode prog_10_method_5_code 65 = .ok (.iconst 1, 1) := by decide +kernel
theorem d_Model_write_66 : decode prog_10_method_5_code 66 = .ok (.iadd, 1) := by decide +kernel
theorem d_Model_write_67 : decode prog_10_method_5_code 67 = .ok (.putfield 86, 3) := by decide +kernel
theorem d_Model_write_70 : decode prog_10_method_5_code 70 = .ok (.iinc 4 (-1), 3) := by decide +kernel
theorem d_Model_write_73 : decode prog_10_method_5_code 73 = .ok (.goto (-39), 3) := by decide +kernel
theorem d_Model_write_76 : decode prog_10_method_5_code 76 = .ok (.aload_n 0, 1) := by decide +kernel
theorem d_Model_write_77 : decode prog_10_method_5_code 77 = .ok (.getfield 86, 3) := by decide +kernel
theorem d_Model_write_80 : decode prog_10_method_5_code 80 = .ok (.ireturn, 1) := by decide +kernel
theorem d_Model_wipe_0 : decode prog_10_method_6_code 0 = .ok (.aload_n 0, 1) := by decide +kernel
theorem d_Model_wipe_1 : decode prog_10_method_6_code 1 = .ok (.getfield 86, 3) := by decide +kernel
theorem d_Model_wipe_4 : decode prog_10_method_6_code 4 = .ok (.istore_n 1, 1) := by decide +kernel
theorem d_Model_wipe_5 : decode prog_10_method_6_code 5 = .ok (.aload_n 0, 1) := by decide +kernel
theorem d_Model_wipe_6 : decode prog_10_method_6_code 6 = .ok (.iconst 0, 1) := by decide +kernel
theorem d_Model_wipe_7 : decode prog_10_method_6_code 7 = .ok (.putfield 86, 3) := by decide +kernel
theorem d_Model_wipe_10 : decode prog_10_method_6_code 10 = .ok (.iload_n 1, 1) := by decide +kernel
theorem d_Model_wipe_11 : decode prog_10_method_6_code 11 = .ok (.ireturn, 1) := by decide +kernel
theorem d_Model_byteAt_0 : decode prog_10_method_7_code 0 = .ok (.iload_n 1, 1) := by decide +kernel
theorem d_Model_byteAt_1 : decode prog_10_method_7_code 1 = .ok (.aload_n 0, 1) := by decide +kernel
theorem d_Model_byteAt_2 : decode prog_10_method_7_code 2 = .ok (.getfield 86, 3) := by decide +kernel
theorem d_Model_byteAt_5 : decode prog_10_method_7_code 5 = .ok (.if_icmp .ge 12, 3) := by decide +kernel
theorem d_Model_byteAt_8 : decode prog_10_method_7_code 8 = .ok (.aload_n 0, 1) := by decide +kernel
theorem d_Model_byteAt_9 : decode prog_10_method_7_code 9 = .ok (.getfield 7, 3) := by decide +kernel
theorem d_Model_byteAt_12 : decode prog_10_method_7_code 12 = .ok (.iload_n 1, 1) := by decide +kernel
theorem d_Model_byteAt_13 : decode prog_10_method_7_code 13 = .ok (.iaload, 1) := by decide +kernel
theorem d_Model_byteAt_14 : decode prog_10_method_7_code 14 = .ok (.goto 4, 3) := by decide +kernel
theorem d_Model_byteAt_17 : decode prog_10_method_7_code 17 = .ok (.iconst 0, 1) := by decide +kernel
theorem d_Model_byteAt_18 : decode prog_10_method_7_code 18 = .ok (.ireturn, 1) := by decide +kernel
theorem d_Model_figures_0 : decode prog_10_method_8_code 0 = .ok (.iconst 0, 1) := by decide +kernel
theorem d_Model_figures_1 : decode prog_10_method_8_code 1 = .ok (.istore_n 2, 1) := by decide +kernel
theorem d_Model_figures_2 : decode prog_10_method_8_code 2 = .ok (.iload_n 2, 1) := by decide +kernel
theorem d_Model_figures_3 : decode prog_10_method_8_code 3 = .ok (.iload_n 1, 1) := by decide +kernel
theorem d_Model_figures_4 : decode prog_10_method_8_code 4 = .ok (.if_icmp .ge 132, 3) := by decide +kernel
theorem d_Model_figures_7 : decode prog_10_method_8_code 7 = .ok (.iconst 0, 1) := by decide +kernel
theorem d_Model_figures_8 : decode prog_10_method_8_code 8 = .ok (.istore_n 3, 1) := by decide +kernel
theorem d_Model_figures_9 : decode prog_10_method_8_code 9 = .ok (.iconst 0, 1) := by decide +kernel
theorem d_Model_figures_10 : decode prog_10_method_8_code 10 = .ok (.istore 4, 2) := by decide +kernel
theorem d_Model_figures_12 : decode prog_10_method_8_code 12 = .ok (.aload_n 0, 1) := by decide +kernel
theorem d_Model_figures_13 : decode prog_10_method_8_code 13 = .ok (.aload_n 0, 1) := by decide +kernel
theorem d_Model_figures_14 : decode prog_10_method_8_code 14 = .ok (.getfield 92, 3) := by decide +kernel
theorem d_Model_figures_17 : decode prog_10_method_8_code 17 = .ok (.invokevirtual 95, 3) := by decide +kernel
theorem d_Model_figures_20 : decode prog_10_method_8_code 20 = .ok (.i2l, 1) := by decide +kernel
theorem d_Model_figures_21 : decode prog_10_method_8_code 21 = .ok (.ldc2_w 99, 3) := by decide +kernel
theorem d_Model_figures_24 : decode prog_10_method_8_code 24 = .ok (.ldc2_w 101, 3) := by decide +kernel
theorem d_Model_figures_27 : decode prog_10_method_8_code 27 = .ok (.invokestatic 82, 3) := by decide +kernel
theorem d_Model_figures_30 : decode prog_10_method_8_code 30 = .ok (.ifCond .eq 43, 3) := by decide +kernel
theorem d_Model_figures_33 : decode prog_10_method_8_code 33 = .ok (.iload_n 3, 1) := by decide +kernel
theorem d_Model_figures_34 : decode prog_10_method_8_code 34 = .ok (.iconst 4, 1) := by decide +kernel
theorem d_Model_figures_35 : decode prog_10_method_8_code 35 = .ok (.if_icmp .ge 38, 3) := by decide +kernel
theorem d_Model_figures_38 : decode prog_10_method_8_code 38 = .ok (.bipush 10, 2) := by decide +kernel
theorem d_Model_figures_40 : decode prog_10_method_8_code 40 = .ok (.iload 4, 2) := by decide +kernel
theorem d_Model_figures_42 : decode prog_10_method_8_code 42 = .ok (.imul, 1) := by decide +kernel
theorem d_Model_figures_43 : decode prog_10_method_8_code 43 = .ok (.aload_n 0, 1) := by decide +kernel
theorem d_Model_figures_44 : decode prog_10_method_8_code 44 = .ok (.aload_n 0, 1) := by decide +kernel
theorem d_Model_figures_45 : decode prog_10_method_8_code 45 = .ok (.getfield 92, 3) := by decide +kernel
theorem d_Model_figures_48 : decode prog_10_method_8_code 48 = .ok (.invokevirtual 95, 3) := by decide +kernel
theorem d_Model_figures_51 : decode prog_10_method_8_code 51 = .ok (.iadd, 1) := by decide +kernel
theorem d_Model_figures_52 : decode prog_10_method_8_code 52 = .ok (.bipush 48, 2) := by decide +kernel
theorem d_Model_figures_54 : decode prog_10_method_8_code 54 = .ok (.isub, 1) := by decide +kernel
theorem d_Model_figures_55 : decode prog_10_method_8_code 55 = .ok (.istore 4, 2) := by decide +kernel
theorem d_Model_figures_57 : decode prog_10_method_8_code 57 = .ok (.iinc 3 1, 3) := by decide +kernel
theorem d_Model_figures_60 : decode prog_10_method_8_code 60 = .ok (.aload_n 0, 1) := by decide +kernel
theorem d_Model_figures_61 : decode prog_10_method_8_code 61 = .ok (.dup, 1) := by decide +kernel
theorem d_Model_figures_62 : decode prog_10_method_8_code 62 = .ok (.getfield 92, 3) := by decide +kernel
theorem d_Model_figures_65 : decode prog_10_method_8_code 65 = .ok (.iconst 1, 1) := by decide +kernel
theorem d_Model_figures_66 : decode prog_10_method_8_code 66 = .ok (.iadd, 1) := by decide +kernel
theorem d_Model_figures_67 : decode prog_10_method_8_code 67 = .ok (.putfield 92, 3) := by decide +kernel
theorem d_Model_figures_70 : decode prog_10_method_8_code 70 = .ok (.goto (-58), 3) := by decide +kernel
theorem d_Model_figures_73 : decode prog_10_method_8_code 73 = .ok (.iload_n 3, 1) := by decide +kernel
theorem d_Model_figures_74 : decode prog_10_method_8_code 74 = .ok (.i2l, 1) := by decide +kernel
theorem d_Model_figures_75 : decode prog_10_method_8_code 75 = .ok (.lconst 1, 1) := by decide +kernel
theorem d_Model_figures_76 : decode prog_10_method_8_code 76 = .ok (.ldc2_w 103, 3) := by decide +kernel
theorem d_Model_figures_79 : decode prog_10_method_8_code 79 = .ok (.invokestatic 82, 3) := by decide +kernel
theorem d_Model_figures_82 : decode prog_10_method_8_code 82 = .ok (.ifCond .eq 28, 3) := by decide +kernel
theorem d_Model_figures_85 : decode prog_10_method_8_code 85 = .ok (.aload_n 0, 1) := by decide +kernel
theorem d_Model_figures_86 : decode prog_10_method_8_code 86 = .ok (.aload_n 0, 1) := by decide +kernel
theorem d_Model_figures_87 : decode prog_10_method_8_code 87 = .ok (.getfield 92, 3) := by decide +kernel
theorem d_Model_figures_90 : decode prog_10_method_8_code 90 = .ok (.invokevirtual 95, 3) := by decide +kernel
theorem d_Model_figures_93 : decode prog_10_method_8_code 93 = .ok (.iload_n 2, 1) := by decide +kernel
theorem d_Model_figures_94 : decode prog_10_method_8_code 94 = .ok (.iload_n 1, 1) := by decide +kernel
theorem d_Model_figures_95 : decode prog_10_method_8_code 95 = .ok (.iconst 1, 1) := by decide +kernel
theorem d_Model_figures_96 : decode prog_10_method_8_code 96 = .ok (.isub, 1) := by decide +kernel
theorem d_Model_figures_97 : decode prog_10_method_8_code 97 = .ok (.if_icmp .ge 8, 3) := by decide +kernel
theorem d_Model_figures_100 : decode prog_10_method_8_code 100 = .ok (.bipush 44, 2) := by decide +kernel
theorem d_Model_figures_102 : decode prog_10_method_8_code 102 = .ok (.goto 5, 3) := by decide +kernel
theorem d_Model_figures_105 : decode prog_10_method_8_code 105 = .ok (.bipush 59, 2) := by decide +kernel
theorem d_Model_figures_107 : decode prog_10_method_8_code 107 = .ok (.if_icmp .eq 5, 3) := by decide +kernel
theorem d_Model_figures_110 : decode prog_10_method_8_code 110 = .ok (.iconst 0, 1) := by decide +kernel
theorem d_Model_figures_111 : decode prog_10_method_8_code 111 = .ok (.ireturn, 1) := by decide +kernel
theorem d_Model_figures_112 : decode prog_10_method_8_code 112 = .ok (.aload_n 0, 1) := by decide +kernel
theorem d_Model_figures_113 : decode prog_10_method_8_code 113 = .ok (.getfield 64, 3) := by decide +kernel
theorem d_Model_figures_116 : decode prog_10_method_8_code 116 = .ok (.iload_n 2, 1) := by decide +kernel
theorem d_Model_figures_117 : decode prog_10_method_8_code 117 = .ok (.iload 4, 2) := by decide +kernel
theorem d_Model_figures_119 : decode prog_10_method_8_code 119 = .ok (.iastore, 1) := by decide +kernel
theorem d_Model_figures_120 : decode prog_10_method_8_code 120 = .ok (.aload_n 0, 1) := by decide +kernel
theorem d_Model_figures_121 : decode prog_10_method_8_code 121 = .ok (.dup, 1) := by decide +kernel
theorem d_Model_figures_122 : decode prog_10_method_8_code 122 = .ok (.getfield 92, 3) := by decide +kernel
theorem d_Model_figures_125 : decode prog_10_method_8_code 125 = .ok (.iconst 1, 1) := by decide +kernel
theorem d_Model_figures_126 : decode prog_10_method_8_code 126 = .ok (.iadd, 1) := by decide +kernel
theorem d_Model_figures_127 : decode prog_10_method_8_code 127 = .ok (.putfield 92, 3) := by decide +kernel
theorem d_Model_figures_130 : decode prog_10_method_8_code 130 = .ok (.iinc 2 1, 3) := by decide +kernel
theorem d_Model_figures_133 : decode prog_10_method_8_code 133 = .ok (.goto (-131), 3) := by decide +kernel
theorem d_Model_figures_136 : decode prog_10_method_8_code 136 = .ok (.iconst 1, 1) := by decide +kernel
theorem d_Model_figures_137 : decode prog_10_method_8_code 137 = .ok (.ireturn, 1) := by decide +kernel
theorem d_Model_sortItem_0 : decode prog_10_method_9_code 0 = .ok (.aload_n 0, 1) := by decide +kernel
theorem d_Model_sortItem_1 : decode prog_10_method_9_code 1 = .ok (.getfield 13, 3) := by decide +kernel
theorem d_Model_sortItem_4 : decode prog_10_method_9_code 4 = .ok (.iconst 1, 1) := by decide +kernel
theorem d_Model_sortItem_5 : decode prog_10_method_9_code 5 = .ok (.iaload, 1) := by decide +kernel
theorem d_Model_sortItem_6 : decode prog_10_method_9_code 6 = .ok (.istore_n 1, 1) := by decide +kernel
theorem d_Model_sortItem_7 : decode prog_10_method_9_code 7 = .ok (.aload_n 0, 1) := by decide +kernel
theorem d_Model_sortItem_8 : decode prog_10_method_9_code 8 = .ok (.iconst 4, 1) := by decide +kernel
theorem d_Model_sortItem_9 : decode prog_10_method_9_code 9 = .ok (.invokevirtual 105, 3) := by decide +kernel
theorem d_Model_sortItem_12 : decode prog_10_method_9_code 12 = .ok (.ifCond .eq 41, 3) := by decide +kernel
theorem d_Model_sortItem_15 : decode prog_10_method_9_code 15 = .ok (.iload_n 1, 1) := by decide +kernel
theorem d_Model_sortItem_16 : decode prog_10_method_9_code 16 = .ok (.bipush 6, 2) := by decide +kernel
theorem d_Model_sortItem_18 : decode prog_10_method_9_code 18 = .ok (.if_icmp .eq 35, 3) := by decide +kernel
theorem d_Model_sortItem_21 : decode prog_10_method_9_code 21 = .ok (.aload_n 0, 1) := by decide +kernel
theorem d_Model_sortItem_22 : decode prog_10_method_9_code 22 = .ok (.getfield 64, 3) := by decide +kernel
theorem d_Model_sortItem_25 : decode prog_10_method_9_code 25 = .ok (.iconst 0, 1) := by decide +kernel
theorem d_Model_sortItem_26 : decode prog_10_method_9_code 26 = .ok (.iaload, 1) := by decide +kernel
theorem d_Model_sortItem_27 : decode prog_10_method_9_code 27 = .ok (.aload_n 0, 1) := by decide +kernel
theorem d_Model_sortItem_28 : decode prog_10_method_9_code 28 = .ok (.getfield 64, 3) := by decide +kernel
theorem d_Model_sortItem_31 : decode prog_10_method_9_code 31 = .ok (.iconst 1, 1) := by decide +kernel
theorem d_Model_sortItem_32 : decode prog_10_method_9_code 32 = .ok (.iaload, 1) := by decide +kernel
theorem d_Model_sortItem_33 : decode prog_10_method_9_code 33 = .ok (.iadd, 1) := by decide +kernel
theorem d_Model_sortItem_34 : decode prog_10_method_9_code 34 = .ok (.aload_n 0, 1) := by decide +kernel
theorem d_Model_sortItem_35 : decode prog_10_method_9_code 35 = .ok (.getfield 64, 3) := by decide +kernel
theorem d_Model_sortItem_38 : decode prog_10_method_9_code 38 = .ok (.iconst 2, 1) := by decide +kernel
theorem d_Model_sortItem_39 : decode prog_10_method_9_code 39 = .ok (.iaload, 1) := by decide +kernel
theorem d_Model_sortItem_40 : decode prog_10_method_9_code 40 = .ok (.iadd, 1) := by decide +kernel
theorem d_Model_sortItem_41 : decode prog_10_method_9_code 41 = .ok (.aload_n 0, 1) := by decide +kernel
theorem d_Model_sortItem_42 : decode prog_10_method_9_code 42 = .ok (.getfield 64, 3) := by decide +kernel
theorem d_Model_sortItem_45 : decode prog_10_method_9_code 45 = .ok (.iconst 3, 1) := by decide +kernel
theorem d_Model_sortItem_46 : decode prog_10_method_9_code 46 = .ok (.iaload, 1) := by decide +kernel
theorem d_Model_sortItem_47 : decode prog_10_method_9_code 47 = .ok (.iadd, 1) := by decide +kernel
theorem d_Model_sortItem_48 : decode prog_10_method_9_code 48 = .ok (.bipush 100, 2) := by decide +kernel
theorem d_Model_sortItem_50 : decode prog_10_method_9_code 50 = .ok (.if_icmp .eq 5, 3) := by decide +kernel
theorem d_Model_sortItem_53 : decode prog_10_method_9_code 53 = .ok (.iconst 0, 1) := by decide +kernel
theorem d_Model_sortItem_54 : decode prog_10_method_9_code 54 = .ok (.ireturn, 1) := by decide +kernel
theorem d_Model_sortItem_55 : decode prog_10_method_9_code 55 = .ok (.iconst 0, 1) := by decide +kernel
theorem d_Model_sortItem_56 : decode prog_10_method_9_code 56 = .ok (.istore_n 2, 1) := by decide +kernel
theorem d_Model_sortItem_57 : decode prog_10_method_9_code 57 = .ok (.iload_n 2, 1) := by decide +kernel
theorem d_Model_sortItem_58 : decode prog_10_method_9_code 58 = .ok (.iconst 4, 1) := by decide +kernel
theorem d_Model_sortItem_59 : decode prog_10_method_9_code 59 = .ok (.if_icmp .ge 28, 3) := by decide +kernel
theorem d_Model_sortItem_62 : decode prog_10_method_9_code 62 = .ok (.aload_n 0, 1) := by decide +kernel
theorem d_Model_sortItem_63 : decode prog_10_method_9_code 63 = .ok (.getfield 16, 3) := by decide +kernel
theorem d_Model_sortItem_66 : decode prog_10_method_9_code 66 = .ok (.bipush 24, 2) := by decide +kernel
theorem d_Model_sortItem_68 : decode prog_10_method_9_code 68 = .ok (.iconst 4, 1) := by decide +kernel
theorem d_Model_sortItem_69 : decode prog_10_method_9_code 69 = .ok (.iload_n 1, 1) := by decide +kernel
theorem d_Model_sortItem_70 : decode prog_10_method_9_code 70 = .ok (.imul, 1) := by decide +kernel
theorem d_Model_sortItem_71 : decode prog_10_method_9_code 71 = .ok (.iadd, 1) := by decide +kernel
theorem d_Model_sortItem_72 : decode prog_10_method_9_code 72 = .ok (.iload_n 2, 1) := by decide +kernel
theorem d_Model_sortItem_73 : decode prog_10_method_9_code 73 = .ok (.iadd, 1) := by decide +kernel
theorem d_Model_sortItem_74 : decode prog_10_method_9_code 74 = .ok (.aload_n 0, 1) := by decide +kernel
theorem d_Model_sortItem_75 : decode prog_10_method_9_code 75 = .ok (.getfield 64, 3) := by decide +kernel
theorem d_Model_sortItem_78 : decode prog_10_method_9_code 78 = .ok (.iload_n 2, 1) := by decide +kernel
theorem d_Model_sortItem_79 : decode prog_10_method_9_code 79 = .ok (.iaload, 1) := by decide +kernel
theorem d_Model_sortItem_80 : decode prog_10_method_9_code 80 = .ok (.iastore, 1) := by decide +kernel
theorem d_Model_sortItem_81 : decode prog_10_method_9_code 81 = .ok (.iinc 2 1, 3) := by decide +kernel
theorem d_Model_sortItem_84 : decode prog_10_method_9_code 84 = .ok (.goto (-27), 3) := by decide +kernel
theorem d_Model_sortItem_87 : decode prog_10_method_9_code 87 = .ok (.aload_n 0, 1) := by decide +kernel
theorem d_Model_sortItem_88 : decode prog_10_method_9_code 88 = .ok (.getfield 13, 3) := by decide +kernel
theorem d_Model_sortItem_91 : decode prog_10_method_9_code 91 = .ok (.iconst 1, 1) := by decide +kernel
theorem d_Model_sortItem_92 : decode prog_10_method_9_code 92 = .ok (.dup2, 1) := by decide +kernel
theorem d_Model_sortItem_93 : decode prog_10_method_9_code 93 = .ok (.iaload, 1) := by decide +kernel
theorem d_Model_sortItem_94 : decode prog_10_method_9_code 94 = .ok (.iconst 1, 1) := by decide +kernel
theorem d_Model_sortItem_95 : decode prog_10_method_9_code 95 = .ok (.iadd, 1) := by decide +kernel
theorem d_Model_sortItem_96 : decode prog_10_method_9_code 96 = .ok (.iastore, 1) := by decide +kernel
theorem d_Model_sortItem_97 : decode prog_10_method_9_code 97 = .ok (.iconst 1, 1) := by decide +kernel
theorem d_Model_sortItem_98 : decode prog_10_method_9_code 98 = .ok (.ireturn, 1) := by decide +kernel
theorem d_Model_faceItem_0 : decode prog_10_method_10_code 0 = .ok (.aload_n 0, 1) := by decide +kernel
theorem d_Model_faceItem_1 : decode prog_10_method_10_code 1 = .ok (.getfield 19, 3) := by decide +kernel
theorem d_Model_faceItem_4 : decode prog_10_method_10_code 4 = .ok (.iconst 1, 1) := by decide +kernel
theorem d_Model_faceItem_5 : decode prog_10_method_10_code 5 = .ok (.iaload, 1) := by decide +kernel
theorem d_Model_faceItem_6 : decode prog_10_method_10_code 6 = .ok (.istore_n 1, 1) := by decide +kernel
theorem d_Model_faceItem_7 : decode prog_10_method_10_code 7 = .ok (.aload_n 0, 1) := by decide +kernel
theorem d_Model_faceItem_8 : decode prog_10_method_10_code 8 = .ok (.iconst 4, 1) := by decide +kernel
theorem d_Model_faceItem_9 : decode prog_10_method_10_code 9 = .ok (.invokevirtual 105, 3) := by decide +kernel
theorem d_Model_faceItem_12 : decode prog_10_method_10_code 12 = .ok (.ifCond .eq 58, 3) := by decide +kernel
theorem d_Model_faceItem_15 : decode prog_10_method_10_code 15 = .ok (.iload_n 1, 1) := by decide +kernel
theorem d_Model_faceItem_16 : decode prog_10_method_10_code 16 = .ok (.bipush 10, 2) := by decide +kernel
theorem d_Model_faceItem_18 : decode prog_10_method_10_code 18 = .ok (.if_icmp .eq 52, 3) := by decide +kernel
theorem d_Model_faceItem_21 : decode prog_10_method_10_code 21 = .ok (.aload_n 0, 1) := by decide +kernel
theorem d_Model_faceItem_22 : decode prog_10_method_10_code 22 = .ok (.getfield 64, 3) := by decide +kernel
theorem d_Model_faceItem_25 : decode prog_10_method_10_code 25 = .ok (.iconst 0, 1) := by decide +kernel
theorem d_Model_faceItem_26 : decode prog_10_method_10_code 26 = .ok (.iaload, 1) := by decide +kernel
theorem d_Model_faceItem_27 : decode prog_10_method_10_code 27 = .ok (.bipush 7, 2) := by decide +kernel
theorem d_Model_faceItem_29 : decode prog_10_method_10_code 29 = .ok (.if_icmp .gt 41, 3) := by decide +kernel
theorem d_Model_faceItem_32 : decode prog_10_method_10_code 32 = .ok (.aload_n 0, 1) := by decide +kernel
theorem d_Model_faceItem_33 : decode prog_10_method_10_code 33 = .ok (.getfield 64, 3) := by decide +kernel
theorem d_Model_faceItem_36 : decode prog_10_method_10_code 36 = .ok (.iconst 1, 1) := by decide +kernel
theorem d_Model_faceItem_37 : decode prog_10_method_10_code 37 = .ok (.iaload, 1) := by decide +kernel
theorem d_Model_faceItem_38 : decode prog_10_method_10_code 38 = .ok (.iconst 3, 1) := by decide +kernel
theorem d_Model_faceItem_39 : decode prog_10_method_10_code 39 = .ok (.if_icmp .gt 31, 3) := by decide +kernel
theorem d_Model_faceItem_42 : decode prog_10_method_10_code 42 = .ok (.aload_n 0, 1) := by decide +kernel
theorem d_Model_faceItem_43 : decode prog_10_method_10_code 43 = .ok (.getfield 64, 3) := by decide +kernel
theorem d_Model_faceItem_46 : decode prog_10_method_10_code 46 = .ok (.iconst 2, 1) := by decide +kernel
theorem d_Model_faceItem_47 : decode prog_10_method_10_code 47 = .ok (.iaload, 1) := by decide +kernel
theorem d_Model_faceItem_48 : decode prog_10_method_10_code 48 = .ok (.i2l, 1) := by decide +kernel
theorem d_Model_faceItem_49 : decode prog_10_method_10_code 49 = .ok (.lconst 1, 1) := by decide +kernel
theorem d_Model_faceItem_50 : decode prog_10_method_10_code 50 = .ok (.ldc2_w 109, 3) := by decide +kernel
theorem d_Model_faceItem_53 : decode prog_10_method_10_code 53 = .ok (.invokestatic 82, 3) := by decide +kernel
theorem d_Model_faceItem_56 : decode prog_10_method_10_code 56 = .ok (.ifCond .eq 14, 3) := by decide +kernel
theorem d_Model_faceItem_59 : decode prog_10_method_10_code 59 = .ok (.aload_n 0, 1) := by decide +kernel
theorem d_Model_faceItem_60 : decode prog_10_method_10_code 60 = .ok (.getfield 64, 3) := by decide +kernel
theorem d_Model_faceItem_63 : decode prog_10_method_10_code 63 = .ok (.iconst 3, 1) := by decide +kernel
theorem d_Model_faceItem_64 : decode prog_10_method_10_code 64 = .ok (.iaload, 1) := by decide +kernel
theorem d_Model_faceItem_65 : decode prog_10_method_10_code 65 = .ok (.bipush 15, 2) := by decide +kernel
theorem d_Model_faceItem_67 : decode prog_10_method_10_code 67 = .ok (.if_icmp .le 5, 3) := by decide +kernel
theorem d_Model_faceItem_70 : decode prog_10_method_10_code 70 = .ok (.iconst 0, 1) := by decide +kernel
theorem d_Model_faceItem_71 : decode prog_10_method_10_code 71 = .ok (.ireturn, 1) := by decide +kernel
theorem d_Model_faceItem_72 : decode prog_10_method_10_code 72 = .ok (.aload_n 0, 1) := by decide +kernel
theorem d_Model_faceItem_73 : decode prog_10_method_10_code 73 = .ok (.getfield 22, 3) := by decide +kernel
theorem d_Model_faceItem_76 : decode prog_10_method_10_code 76 = .ok (.bipush 10, 2) := by decide +kernel
theorem d_Model_faceItem_78 : decode prog_10_method_10_code 78 = .ok (.iload_n 1, 1) := by decide +kernel
theorem d_Model_faceItem_79 : decode prog_10_method_10_code 79 = .ok (.iadd, 1) := by decide +kernel
theorem d_Model_faceItem_80 : decode prog_10_method_10_code 80 = .ok (.aload_n 0, 1) := by decide +kernel
theorem d_Model_faceItem_81 : decode prog_10_method_10_code 81 = .ok (.getfield 64, 3) := by decide +kernel
theorem d_Model_faceItem_84 : decode prog_10_method_10_code 84 = .ok (.iconst 0, 1) := by decide +kernel
theorem d_Model_faceItem_85 : decode prog_10_method_10_code 85 = .ok (.iaload, 1) := by decide +kernel
theorem d_Model_faceItem_86 : decode prog_10_method_10_code 86 = .ok (.iastore, 1) := by decide +kernel
theorem d_Model_faceItem_87 : decode prog_10_method_10_code 87 = .ok (.aload_n 0, 1) := by decide +kernel
theorem d_Model_faceItem_88 : decode prog_10_method_10_code 88 = .ok (.getfield 25, 3) := by decide +kernel
theorem d_Model_faceItem_91 : decode prog_10_method_10_code 91 = .ok (.bipush 10, 2) := by decide +kernel
theorem d_Model_faceItem_93 : decode prog_10_method_10_code 93 = .ok (.iload_n 1, 1) := by decide +kernel
theorem d_Model_faceItem_94 : decode prog_10_method_10_code 94 = .ok (.iadd, 1) := by decide +kernel
theorem d_Model_faceItem_95 : decode prog_10_method_10_code 95 = .ok (.aload_n 0, 1) := by decide +kernel
theorem d_Model_faceItem_96 : decode prog_10_method_10_code 96 = .ok (.getfield 64, 3) := by decide +kernel
theorem d_Model_faceItem_99 : decode prog_10_method_10_code 99 = .ok (.iconst 1, 1) := by decide +kernel
theorem d_Model_faceItem_100 : decode prog_10_method_10_code 100 = .ok (.iaload, 1) := by decide +kernel
theorem d_Model_faceItem_101 : decode prog_10_method_10_code 101 = .ok (.iastore, 1) := by decide +kernel
theorem d_Model_faceItem_102 : decode prog_10_method_10_code 102 = .ok (.aload_n 0, 1) := by decide +kernel
theorem d_Model_faceItem_103 : decode prog_10_method_10_code 103 = .ok (.getfield 28, 3) := by decide +kernel
theorem d_Model_faceItem_106 : decode prog_10_method_10_code 106 = .ok (.bipush 10, 2) := by decide +kernel
theorem d_Model_faceItem_108 : decode prog_10_method_10_code 108 = .ok (.iload_n 1, 1) := by decide +kernel
theorem d_Model_faceItem_109 : decode prog_10_method_10_code 109 = .ok (.iadd, 1) := by decide +kernel
theorem d_Model_faceItem_110 : decode prog_10_method_10_code 110 = .ok (.aload_n 0, 1) := by decide +kernel
theorem d_Model_faceItem_111 : decode prog_10_method_10_code 111 = .ok (.getfield 64, 3) := by decide +kernel
theorem d_Model_faceItem_114 : decode prog_10_method_10_code 114 = .ok (.iconst 2, 1) := by decide +kernel
theorem d_Model_faceItem_115 : decode prog_10_method_10_code 115 = .ok (.iaload, 1) := by decide +kernel
theorem d_Model_faceItem_116 : decode prog_10_method_10_code 116 = .ok (.iastore, 1) := by decide +kernel
theorem d_Model_faceItem_117 : decode prog_10_method_10_code 117 = .ok (.aload_n 0, 1) := by decide +kernel
theorem d_Model_faceItem_118 : decode prog_10_method_10_code 118 = .ok (.getfield 31, 3) := by decide +kernel
theorem d_Model_faceItem_121 : decode prog_10_method_10_code 121 = .ok (.bipush 10, 2) := by decide +kernel
theorem d_Model_faceItem_123 : decode prog_10_method_10_code 123 = .ok (.iload_n 1, 1) := by decide +kernel
theorem d_Model_faceItem_124 : decode prog_10_method_10_code 124 = .ok (.iadd, 1) := by decide +kernel
theorem d_Model_faceItem_125 : decode prog_10_method_10_code 125 = .ok (.aload_n 0, 1) := by decide +kernel
theorem d_Model_faceItem_126 : decode prog_10_method_10_code 126 = .ok (.getfield 64, 3) := by decide +kernel
theorem d_Model_faceItem_129 : decode prog_10_method_10_code 129 = .ok (.iconst 3, 1) := by decide +kernel
theorem d_Model_faceItem_130 : decode prog_10_method_10_code 130 = .ok (.iaload, 1) := by decide +kernel
theorem d_Model_faceItem_131 : decode prog_10_method_10_code 131 = .ok (.iastore, 1) := by decide +kernel
theorem d_Model_faceItem_132 : decode prog_10_method_10_code 132 = .ok (.aload_n 0, 1) := by decide +kernel
theorem d_Model_faceItem_133 : decode prog_10_method_10_code 133 = .ok (.getfield 19, 3) := by decide +kernel
theorem d_Model_faceItem_136 : decode prog_10_method_10_code 136 = .ok (.iconst 1, 1) := by decide +kernel
theorem d_Model_faceItem_137 : decode prog_10_method_10_code 137 = .ok (.dup2, 1) := by decide +kernel
theorem d_Model_faceItem_138 : decode prog_10_method_10_code 138 = .ok (.iaload, 1) := by decide +kernel
theorem d_Model_faceItem_139 : decode prog_10_method_10_code 139 = .ok (.iconst 1, 1) := by decide +kernel
theorem d_Model_faceItem_140 : decode prog_10_method_10_code 140 = .ok (.iadd, 1) := by decide +kernel
theorem d_Model_faceItem_141 : decode prog_10_method_10_code 141 = .ok (.iastore, 1) := by decide +kernel
theorem d_Model_faceItem_142 : decode prog_10_method_10_code 142 = .ok (.iconst 1, 1) := by decide +kernel
theorem d_Model_faceItem_143 : decode prog_10_method_10_code 143 = .ok (.ireturn, 1) := by decide +kernel
theorem d_Model_callItem_0 : decode prog_10_method_11_code 0 = .ok (.aload_n 0, 1) := by decide +kernel
theorem d_Model_callItem_1 : decode prog_10_method_11_code 1 = .ok (.iconst 3, 1) := by decide +kernel
theorem d_Model_callItem_2 : decode prog_10_method_11_code 2 = .ok (.invokevirtual 105, 3) := by decide +kernel
theorem d_Model_callItem_5 : decode prog_10_method_11_code 5 = .ok (.ifCond .eq 59, 3) := by decide +kernel
theorem d_Model_callItem_8 : decode prog_10_method_11_code 8 = .ok (.aload_n 0, 1) := by decide +kernel
theorem d_Model_callItem_9 : decode prog_10_method_11_code 9 = .ok (.getfield 64, 3) := by decide +kernel
theorem d_Model_callItem_12 : decode prog_10_method_11_code 12 = .ok (.iconst 0, 1) := by decide +kernel
theorem d_Model_callItem_13 : decode prog_10_method_11_code 13 = .ok (.iaload, 1) := by decide +kernel
theorem d_Model_callItem_14 : decode prog_10_method_11_code 14 = .ok (.aload_n 0, 1) := by decide +kernel
theorem d_Model_callItem_15 : decode prog_10_method_11_code 15 = .ok (.getfield 13, 3) := by decide +kernel
theorem d_Model_callItem_18 : decode prog_10_method_11_code 18 = .ok (.iconst 1, 1) := by decide +kernel
theorem d_Model_callItem_19 : decode prog_10_method_11_code 19 = .ok (.iaload, 1) := by decide +kernel
theorem d_Model_callItem_20 : decode prog_10_method_11_code 20 = .ok (.if_icmp .ge 44, 3) := by decide +kernel
theorem d_Model_callItem_23 : decode prog_10_method_11_code 23 = .ok (.aload_n 0, 1) := by decide +kernel
theorem d_Model_callItem_24 : decode prog_10_method_11_code 24 = .ok (.getfield 64, 3) := by decide +kernel
theorem d_Model_callItem_27 : decode prog_10_method_11_code 27 = .ok (.iconst 1, 1) := by decide +kernel
theorem d_Model_callItem_28 : decode prog_10_method_11_code 28 = .ok (.iaload, 1) := by decide +kernel
theorem d_Model_callItem_29 : decode prog_10_method_11_code 29 = .ok (.aload_n 0, 1) := by decide +kernel
theorem d_Model_callItem_30 : decode prog_10_method_11_code 30 = .ok (.getfield 13, 3) := by decide +kernel
theorem d_Model_callItem_33 : decode prog_10_method_11_code 33 = .ok (.iconst 1, 1) := by decide +kernel
theorem d_Model_callItem_34 : decode prog_10_method_11_code 34 = .ok (.iaload, 1) := by decide +kernel
theorem d_Model_callItem_35 : decode prog_10_method_11_code 35 = .ok (.if_icmp .ge 29, 3) := by decide +kernel
theorem d_Model_callItem_38 : decode prog_10_method_11_code 38 = .ok (.aload_n 0, 1) := by decide +kernel
theorem d_Model_callItem_39 : decode prog_10_method_11_code 39 = .ok (.getfield 64, 3) := by decide +kernel
theorem d_Model_callItem_42 : decode prog_10_method_11_code 42 = .ok (.iconst 0, 1) := by decide +kernel
theorem d_Model_callItem_43 : decode prog_10_method_11_code 43 = .ok (.iaload, 1) := by decide +kernel
theorem d_Model_callItem_44 : decode prog_10_method_11_code 44 = .ok (.aload_n 0, 1) := by decide +kernel
theorem d_Model_callItem_45 : decode prog_10_method_11_code 45 = .ok (.getfield 64, 3) := by decide +kernel
theorem d_Model_callItem_48 : decode prog_10_method_11_code 48 = .ok (.iconst 1, 1) := by decide +kernel
theorem d_Model_callItem_49 : decode prog_10_method_11_code 49 = .ok (.iaload, 1) := by decide +kernel
theorem d_Model_callItem_50 : decode prog_10_method_11_code 50 = .ok (.if_icmp .eq 14, 3) := by decide +kernel
theorem d_Model_callItem_53 : decode prog_10_method_11_code 53 = .ok (.aload_n 0, 1) := by decide +kernel
theorem d_Model_callItem_54 : decode prog_10_method_11_code 54 = .ok (.getfield 64, 3) := by decide +kernel
theorem d_Model_callItem_57 : decode prog_10_method_11_code 57 = .ok (.iconst 2, 1) := by decide +kernel
theorem d_Model_callItem_58 : decode prog_10_method_11_code 58 = .ok (.iaload, 1) := by decide +kernel
theorem d_Model_callItem_59 : decode prog_10_method_11_code 59 = .ok (.bipush 99, 2) := by decide +kernel
theorem d_Model_callItem_61 : decode prog_10_method_11_code 61 = .ok (.if_icmp .le 5, 3) := by decide +kernel
theorem d_Model_callItem_64 : decode prog_10_method_11_code 64 = .ok (.iconst 0, 1) := by decide +kernel
theorem d_Model_callItem_65 : decode prog_10_method_11_code 65 = .ok (.ireturn, 1) := by decide +kernel
theorem d_Model_callItem_66 : decode prog_10_method_11_code 66 = .ok (.aload_n 0, 1) := by decide +kernel
theorem d_Model_callItem_67 : decode prog_10_method_11_code 67 = .ok (.getfield 49, 3) := by decide +kernel
theorem d_Model_callItem_70 : decode prog_10_method_11_code 70 = .ok (.bipush 36, 2) := by decide +kernel
theorem d_Model_callItem_72 : decode prog_10_method_11_code 72 = .ok (.bipush 6, 2) := by decide +kernel
theorem d_Model_callItem_74 : decode prog_10_method_11_code 74 = .ok (.aload_n 0, 1) := by decide +kernel
theorem d_Model_callItem_75 : decode prog_10_method_11_code 75 = .ok (.getfield 64, 3) := by decide +kernel
theorem d_Model_callItem_78 : decode prog_10_method_11_code 78 = .ok (.iconst 0, 1) := by decide +kernel
theorem d_Model_callItem_79 : decode prog_10_method_11_code 79 = .ok (.iaload, 1) := by decide +kernel
theorem d_Model_callItem_80 : decode prog_10_method_11_code 80 = .ok (.imul, 1) := by decide +kernel
theorem d_Model_callItem_81 : decode prog_10_method_11_code 81 = .ok (.iadd, 1) := by decide +kernel
theorem d_Model_callItem_82 : decode prog_10_method_11_code 82 = .ok (.aload_n 0, 1) := by decide +kernel
theorem d_Model_callItem_83 : decode prog_10_method_11_code 83 = .ok (.getfield 64, 3) := by decide +kernel
theorem d_Model_callItem_86 : decode prog_10_method_11_code 86 = .ok (.iconst 1, 1) := by decide +kernel
theorem d_Model_callItem_87 : decode prog_10_method_11_code 87 = .ok (.iaload, 1) := by decide +kernel
theorem d_Model_callItem_88 : decode prog_10_method_11_code 88 = .ok (.iadd, 1) := by decide +kernel
theorem d_Model_callItem_89 : decode prog_10_method_11_code 89 = .ok (.aload_n 0, 1) := by decide +kernel
theorem d_Model_callItem_90 : decode prog_10_method_11_code 90 = .ok (.getfield 64, 3) := by decide +kernel
theorem d_Model_callItem_93 : decode prog_10_method_11_code 93 = .ok (.iconst 2, 1) := by decide +kernel
theorem d_Model_callItem_94 : decode prog_10_method_11_code 94 = .ok (.iaload, 1) := by decide +kernel
theorem d_Model_callItem_95 : decode prog_10_method_11_code 95 = .ok (.iastore, 1) := by decide +kernel
theorem d_Model_callItem_96 : decode prog_10_method_11_code 96 = .ok (.iconst 0, 1) := by decide +kernel
theorem d_Model_callItem_97 : decode prog_10_method_11_code 97 = .ok (.istore_n 1, 1) := by decide +kernel
theorem d_Model_callItem_98 : decode prog_10_method_11_code 98 = .ok (.iconst 0, 1) := by decide +kernel
theorem d_Model_callItem_99 : decode prog_10_method_11_code 99 = .ok (.istore_n 2, 1) := by decide +kernel
theorem d_Model_callItem_100 : decode prog_10_method_11_code 100 = .ok (.iload_n 2, 1) := by decide +kernel
theorem d_Model_callItem_101 : decode prog_10_method_11_code 101 = .ok (.bipush 6, 2) := by decide +kernel
theorem d_Model_callItem_103 : decode prog_10_method_11_code 103 = .ok (.if_icmp .ge 31, 3) := by decide +kernel
theorem d_Model_callItem_106 : decode prog_10_method_11_code 106 = .ok (.iload_n 1, 1) := by decide +kernel
theorem d_Model_callItem_107 : decode prog_10_method_11_code 107 = .ok (.aload_n 0, 1) := by decide +kernel
theorem d_Model_callItem_108 : decode prog_10_method_11_code 108 = .ok (.getfield 49, 3) := by decide +kernel
theorem d_Model_callItem_111 : decode prog_10_method_11_code 111 = .ok (.bipush 36, 2) := by decide +kernel
theorem d_Model_callItem_113 : decode prog_10_method_11_code 113 = .ok (.bipush 6, 2) := by decide +kernel
theorem d_Model_callItem_115 : decode prog_10_method_11_code 115 = .ok (.aload_n 0, 1) := by decide +kernel
theorem d_Model_callItem_116 : decode prog_10_method_11_code 116 = .ok (.getfield 64, 3) := by decide +kernel
theorem d_Model_callItem_119 : decode prog_10_method_11_code 119 = .ok (.iconst 0, 1) := by decide +kernel
theorem d_Model_callItem_120 : decode prog_10_method_11_code 120 = .ok (.iaload, 1) := by decide +kernel
theorem d_Model_callItem_121 : decode prog_10_method_11_code 121 = .ok (.imul, 1) := by decide +kernel
theorem d_Model_callItem_122 : decode prog_10_method_11_code 122 = .ok (.iadd, 1) := by decide +kernel
theorem d_Model_callItem_123 : decode prog_10_method_11_code 123 = .ok (.iload_n 2, 1) := by decide +kernel
theorem d_Model_callItem_124 : decode prog_10_method_11_code 124 = .ok (.iadd, 1) := by decide +kernel
theorem d_Model_callItem_125 : decode prog_10_method_11_code 125 = .ok (.iaload, 1) := by decide +kernel
theorem d_Model_callItem_126 : decode prog_10_method_11_code 126 = .ok (.iadd, 1) := by decide +kernel
theorem d_Model_callItem_127 : decode prog_10_method_11_code 127 = .ok (.istore_n 1, 1) := by decide +kernel
theorem d_Model_callItem_128 : decode prog_10_method_11_code 128 = .ok (.iinc 2 1, 3) := by decide +kernel
theorem d_Model_callItem_131 : decode prog_10_method_11_code 131 = .ok (.goto (-31), 3) := by decide +kernel
theorem d_Model_callItem_134 : decode prog_10_method_11_code 134 = .ok (.iload_n 1, 1) := by decide +kernel
theorem d_Model_callItem_135 : decode prog_10_method_11_code 135 = .ok (.bipush 100, 2) := by decide +kernel
theorem d_Model_callItem_137 : decode prog_10_method_11_code 137 = .ok (.if_icmp .gt 7, 3) := by decide +kernel
theorem d_Model_callItem_140 : decode prog_10_method_11_code 140 = .ok (.iconst 1, 1) := by decide +kernel
theorem d_Model_callItem_141 : decode prog_10_method_11_code 141 = .ok (.goto 4, 3) := by decide +kernel
theorem d_Model_callItem_144 : decode prog_10_method_11_code 144 = .ok (.iconst 0, 1) := by decide +kernel
theorem d_Model_callItem_145 : decode prog_10_method_11_code 145 = .ok (.ireturn, 1) := by decide +kernel
theorem d_Model_item_0 : decode prog_10_method_12_code 0 = .ok (.aload_n 0, 1) := by decide +kernel
theorem d_Model_item_1 : decode prog_10_method_12_code 1 = .ok (.aload_n 0, 1) := by decide +kernel
theorem d_Model_item_2 : decode prog_10_method_12_code 2 = .ok (.getfield 92, 3) := by decide +kernel
theorem d_Model_item_5 : decode prog_10_method_12_code 5 = .ok (.invokevirtual 95, 3) := by decide +kernel
theorem d_Model_item_8 : decode prog_10_method_12_code 8 = .ok (.istore_n 1, 1) := by decide +kernel
theorem d_Model_item_9 : decode prog_10_method_12_code 9 = .ok (.aload_n 0, 1) := by decide +kernel
theorem d_Model_item_10 : decode prog_10_method_12_code 10 = .ok (.dup, 1) := by decide +kernel
theorem d_Model_item_11 : decode prog_10_method_12_code 11 = .ok (.getfield 92, 3) := by decide +kernel
theorem d_Model_item_14 : decode prog_10_method_12_code 14 = .ok (.iconst 1, 1) := by decide +kernel
theorem d_Model_item_15 : decode prog_10_method_12_code 15 = .ok (.iadd, 1) := by decide +kernel
theorem d_Model_item_16 : decode prog_10_method_12_code 16 = .ok (.putfield 92, 3) := by decide +kernel
theorem d_Model_item_19 : decode prog_10_method_12_code 19 = .ok (.iload_n 1, 1) := by decide +kernel
theorem d_Model_item_20 : decode prog_10_method_12_code 20 = .ok (.tableswitch 417 98 120 #[201, 417, 417, 417, 113, 108, 417, 417, 417, 417, 417, 417, 417, 417, 417, 417, 417, 417, 331, 118, 417, 279, 412], 108) := by decide +kernel
theorem d_Model_item_128 : decode prog_10_method_12_code 128 = .ok (.aload_n 0, 1) := by decide +kernel
theorem d_Model_item_129 : decode prog_10_method_12_code 129 = .ok (.invokevirtual 111, 3) := by decide +kernel
theorem d_Model_item_132 : decode prog_10_method_12_code 132 = .ok (.ireturn, 1) := by decide +kernel
theorem d_Model_item_133 : decode prog_10_method_12_code 133 = .ok (.aload_n 0, 1) := by decide +kernel
theorem d_Model_item_134 : decode prog_10_method_12_code 134 = .ok (.invokevirtual 115, 3) := by decide +kernel
theorem d_Model_item_137 : decode prog_10_method_12_code 137 = .ok (.ireturn, 1) := by decide +kernel
theorem d_Model_item_138 : decode prog_10_method_12_code 138 = .ok (.aload_n 0, 1) := by decide +kernel
theorem d_Model_item_139 : decode prog_10_method_12_code 139 = .ok (.iconst 3, 1) := by decide +kernel
theorem d_Model_item_140 : decode prog_10_method_12_code 140 = .ok (.invokevirtual 105, 3) := by decide +kernel
theorem d_Model_item_143 : decode prog_10_method_12_code 143 = .ok (.ifCond .eq 44, 3) := by decide +kernel
theorem d_Model_item_146 : decode prog_10_method_12_code 146 = .ok (.aload_n 0, 1) := by decide +kernel
theorem d_Model_item_147 : decode prog_10_method_12_code 147 = .ok (.getfield 64, 3) := by decide +kernel
theorem d_Model_item_150 : decode prog_10_method_12_code 150 = .ok (.iconst 0, 1) := by decide +kernel
theorem d_Model_item_151 : decode prog_10_method_12_code 151 = .ok (.iaload, 1) := by decide +kernel
theorem d_Model_item_152 : decode prog_10_method_12_code 152 = .ok (.aload_n 0, 1) := by decide +kernel
theorem d_Model_item_153 : decode prog_10_method_12_code 153 = .ok (.getfield 19, 3) := by decide +kernel
theorem d_Model_item_156 : decode prog_10_method_12_code 156 = .ok (.iconst 1, 1) := by decide +kernel
theorem d_Model_item_157 : decode prog_10_method_12_code 157 = .ok (.iaload, 1) := by decide +kernel
theorem d_Model_item_158 : decode prog_10_method_12_code 158 = .ok (.if_icmp .ge 29, 3) := by decide +kernel
theorem d_Model_item_161 : decode prog_10_method_12_code 161 = .ok (.aload_n 0, 1) := by decide +kernel
theorem d_Model_item_162 : decode prog_10_method_12_code 162 = .ok (.getfield 64, 3) := by decide +kernel
theorem d_Model_item_165 : decode prog_10_method_12_code 165 = .ok (.iconst 1, 1) := by decide +kernel
theorem d_Model_item_166 : decode prog_10_method_12_code 166 = .ok (.iaload, 1) := by decide +kernel
theorem d_Model_item_167 : decode prog_10_method_12_code 167 = .ok (.aload_n 0, 1) := by decide +kernel
theorem d_Model_item_168 : decode prog_10_method_12_code 168 = .ok (.getfield 13, 3) := by decide +kernel
theorem d_Model_item_171 : decode prog_10_method_12_code 171 = .ok (.iconst 1, 1) := by decide +kernel
theorem d_Model_item_172 : decode prog_10_method_12_code 172 = .ok (.iaload, 1) := by decide +kernel
theorem d_Model_item_173 : decode prog_10_method_12_code 173 = .ok (.if_icmp .ge 14, 3) := by decide +kernel
theorem d_Model_item_176 : decode prog_10_method_12_code 176 = .ok (.aload_n 0, 1) := by decide +kernel
theorem d_Model_item_177 : decode prog_10_method_12_code 177 = .ok (.getfield 64, 3) := by decide +kernel
theorem d_Model_item_180 : decode prog_10_method_12_code 180 = .ok (.iconst 2, 1) := by decide +kernel
theorem d_Model_item_181 : decode prog_10_method_12_code 181 = .ok (.iaload, 1) := by decide +kernel
theorem d_Model_item_182 : decode prog_10_method_12_code 182 = .ok (.bipush 60, 2) := by decide +kernel
theorem d_Model_item_184 : decode prog_10_method_12_code 184 = .ok (.if_icmp .le 5, 3) := by decide +kernel
theorem d_Model_item_187 : decode prog_10_method_12_code 187 = .ok (.iconst 0, 1) := by decide +kernel
theorem d_Model_item_188 : decode prog_10_method_12_code 188 = .ok (.ireturn, 1) := by decide +kernel
theorem d_Model_item_189 : decode prog_10_method_12_code 189 = .ok (.aload_n 0, 1) := by decide +kernel
theorem d_Model_item_190 : decode prog_10_method_12_code 190 = .ok (.getfield 34, 3) := by decide +kernel
theorem d_Model_item_193 : decode prog_10_method_12_code 193 = .ok (.bipush 60, 2) := by decide +kernel
theorem d_Model_item_195 : decode prog_10_method_12_code 195 = .ok (.bipush 6, 2) := by decide +kernel
theorem d_Model_item_197 : decode prog_10_method_12_code 197 = .ok (.aload_n 0, 1) := by decide +kernel
theorem d_Model_item_198 : decode prog_10_method_12_code 198 = .ok (.getfield 64, 3) := by decide +kernel
theorem d_Model_item_201 : decode prog_10_method_12_code 201 = .ok (.iconst 0, 1) := by decide +kernel
theorem d_Model_item_202 : decode prog_10_method_12_code 202 = .ok (.iaload, 1) := by decide +kernel
theorem d_Model_item_203 : decode prog_10_method_12_code 203 = .ok (.imul, 1) := by decide +kernel
theorem d_Model_item_204 : decode prog_10_method_12_code 204 = .ok (.iadd, 1) := by decide +kernel
theorem d_Model_item_205 : decode prog_10_method_12_code 205 = .ok (.aload_n 0, 1) := by decide +kernel
theorem d_Model_item_206 : decode prog_10_method_12_code 206 = .ok (.getfield 64, 3) := by decide +kernel
theorem d_Model_item_209 : decode prog_10_method_12_code 209 = .ok (.iconst 1, 1) := by decide +kernel
theorem d_Model_item_210 : decode prog_10_method_12_code 210 = .ok (.iaload, 1) := by decide +kernel
theorem d_Model_item_211 : decode prog_10_method_12_code 211 = .ok (.iadd, 1) := by decide +kernel
theorem d_Model_item_212 : decode prog_10_method_12_code 212 = .ok (.aload_n 0, 1) := by decide +kernel
theorem d_Model_item_213 : decode prog_10_method_12_code 213 = .ok (.getfield 64, 3) := by decide +kernel
theorem d_Model_item_216 : decode prog_10_method_12_code 216 = .ok (.iconst 2, 1) := by decide +kernel
theorem d_Model_item_217 : decode prog_10_method_12_code 217 = .ok (.iaload, 1) := by decide +kernel
theorem d_Model_item_218 : decode prog_10_method_12_code 218 = .ok (.iastore, 1) := by decide +kernel
theorem d_Model_item_219 : decode prog_10_method_12_code 219 = .ok (.iconst 1, 1) := by decide +kernel
theorem d_Model_item_220 : decode prog_10_method_12_code 220 = .ok (.ireturn, 1) := by decide +kernel
theorem d_Model_item_221 : decode prog_10_method_12_code 221 = .ok (.aload_n 0, 1) := by decide +kernel
theorem d_Model_item_222 : decode prog_10_method_12_code 222 = .ok (.iconst 3, 1) := by decide +kernel
theorem d_Model_item_223 : decode prog_10_method_12_code 223 = .ok (.invokevirtual 105, 3) := by decide +kernel
theorem d_Model_item_226 : decode prog_10_method_12_code 226 = .ok (.ifCond .eq 39, 3) := by decide +kernel
theorem d_Model_item_229 : decode prog_10_method_12_code 229 = .ok (.aload_n 0, 1) := by decide +kernel
theorem d_Model_item_230 : decode prog_10_method_12_code 230 = .ok (.getfield 64, 3) := by decide +kernel
theorem d_Model_item_233 : decode prog_10_method_12_code 233 = .ok (.iconst 0, 1) := by decide +kernel
theorem d_Model_item_234 : decode prog_10_method_12_code 234 = .ok (.iaload, 1) := by decide +kernel
theorem d_Model_item_235 : decode prog_10_method_12_code 235 = .ok (.iconst 3, 1) := by decide +kernel
theorem d_Model_item_236 : decode prog_10_method_12_code 236 = .ok (.if_icmp .gt 29, 3) := by decide +kernel
theorem d_Model_item_239 : decode prog_10_method_12_code 239 = .ok (.aload_n 0, 1) := by decide +kernel
theorem d_Model_item_240 : decode prog_10_method_12_code 240 = .ok (.getfield 64, 3) := by decide +kernel
theorem d_Model_item_243 : decode prog_10_method_12_code 243 = .ok (.iconst 1, 1) := by decide +kernel
theorem d_Model_item_244 : decode prog_10_method_12_code 244 = .ok (.iaload, 1) := by decide +kernel
theorem d_Model_item_245 : decode prog_10_method_12_code 245 = .ok (.aload_n 0, 1) := by decide +kernel
theorem d_Model_item_246 : decode prog_10_method_12_code 246 = .ok (.getfield 13, 3) := by decide +kernel
theorem d_Model_item_249 : decode prog_10_method_12_code 249 = .ok (.iconst 1, 1) := by decide +kernel
theorem d_Model_item_250 : decode prog_10_method_12_code 250 = .ok (.iaload, 1) := by decide +kernel
theorem d_Model_item_251 : decode prog_10_method_12_code 251 = .ok (.if_icmp .ge 14, 3) := by decide +kernel
theorem d_Model_item_254 : decode prog_10_method_12_code 254 = .ok (.aload_n 0, 1) := by decide +kernel
theorem d_Model_item_255 : decode prog_10_method_12_code 255 = .ok (.getfield 64, 3) := by decide +kernel
theorem d_Model_item_258 : decode prog_10_method_12_code 258 = .ok (.iconst 2, 1) := by decide +kernel
theorem d_Model_item_259 : decode prog_10_method_12_code 259 = .ok (.iaload, 1) := by decide +kernel
theorem d_Model_item_260 : decode prog_10_method_12_code 260 = .ok (.bipush 9, 2) := by decide +kernel
theorem d_Model_item_262 : decode prog_10_method_12_code 262 = .ok (.if_icmp .le 5, 3) := by decide +kernel
theorem d_Model_item_265 : decode prog_10_method_12_code 265 = .ok (.iconst 0, 1) := by decide +kernel
theorem d_Model_item_266 : decode prog_10_method_12_code 266 = .ok (.ireturn, 1) := by decide +kernel
theorem d_Model_item_267 : decode prog_10_method_12_code 267 = .ok (.aload_n 0, 1) := by decide +kernel
theorem d_Model_item_268 : decode prog_10_method_12_code 268 = .ok (.getfield 37, 3) := by decide +kernel
theorem d_Model_item_271 : decode prog_10_method_12_code 271 = .ok (.bipush 24, 2) := by decide +kernel
theorem d_Model_item_273 : decode prog_10_method_12_code 273 = .ok (.bipush 6, 2) := by decide +kernel
theorem d_Model_item_275 : decode prog_10_method_12_code 275 = .ok (.aload_n 0, 1) := by decide +kernel
theorem d_Model_item_276 : decode prog_10_method_12_code 276 = .ok (.getfield 64, 3) := by decide +kernel
theorem d_Model_item_279 : decode prog_10_method_12_code 279 = .ok (.iconst 0, 1) := by decide +kernel
theorem d_Model_item_280 : decode prog_10_method_12_code 280 = .ok (.iaload, 1) := by decide +kernel
theorem d_Model_item_281 : decode prog_10_method_12_code 281 = .ok (.imul, 1) := by decide +kernel
theorem d_Model_item_282 : decode prog_10_method_12_code 282 = .ok (.iadd, 1) := by decide +kernel
theorem d_Model_item_283 : decode prog_10_method_12_code 283 = .ok (.aload_n 0, 1) := by decide +kernel
theorem d_Model_item_284 : decode prog_10_method_12_code 284 = .ok (.getfield 64, 3) := by decide +kernel
theorem d_Model_item_287 : decode prog_10_method_12_code 287 = .ok (.iconst 1, 1) := by decide +kernel
theorem d_Model_item_288 : decode prog_10_method_12_code 288 = .ok (.iaload, 1) := by decide +kernel
theorem d_Model_item_289 : decode prog_10_method_12_code 289 = .ok (.iadd, 1) := by decide +kernel
theorem d_Model_item_290 : decode prog_10_method_12_code 290 = .ok (.aload_n 0, 1) := by decide +kernel
theorem d_Model_item_291 : decode prog_10_method_12_code 291 = .ok (.getfield 64, 3) := by decide +kernel
theorem d_Model_item_294 : decode prog_10_method_12_code 294 = .ok (.iconst 2, 1) := by decide +kernel
theorem d_Model_item_295 : decode prog_10_method_12_code 295 = .ok (.iaload, 1) := by decide +kernel
theorem d_Model_item_296 : decode prog_10_method_12_code 296 = .ok (.iastore, 1) := by decide +kernel
theorem d_Model_item_297 : decode prog_10_method_12_code 297 = .ok (.iconst 1, 1) := by decide +kernel
theorem d_Model_item_298 : decode prog_10_method_12_code 298 = .ok (.ireturn, 1) := by decide +kernel
theorem d_Model_item_299 : decode prog_10_method_12_code 299 = .ok (.aload_n 0, 1) := by decide +kernel
theorem d_Model_item_300 : decode prog_10_method_12_code 300 = .ok (.iconst 2, 1) := by decide +kernel
theorem d_Model_item_301 : decode prog_10_method_12_code 301 = .ok (.invokevirtual 105, 3) := by decide +kernel
theorem d_Model_item_304 : decode prog_10_method_12_code 304 = .ok (.ifCond .eq 24, 3) := by decide +kernel
theorem d_Model_item_307 : decode prog_10_method_12_code 307 = .ok (.aload_n 0, 1) := by decide +kernel
theorem d_Model_item_308 : decode prog_10_method_12_code 308 = .ok (.getfield 64, 3) := by decide +kernel
theorem d_Model_item_311 : decode prog_10_method_12_code 311 = .ok (.iconst 0, 1) := by decide +kernel
theorem d_Model_item_312 : decode prog_10_method_12_code 312 = .ok (.iaload, 1) := by decide +kernel
theorem d_Model_item_313 : decode prog_10_method_12_code 313 = .ok (.iconst 3, 1) := by decide +kernel
theorem d_Model_item_314 : decode prog_10_method_12_code 314 = .ok (.if_icmp .gt 14, 3) := by decide +kernel
theorem d_Model_item_317 : decode prog_10_method_12_code 317 = .ok (.aload_n 0, 1) := by decide +kernel
theorem d_Model_item_318 : decode prog_10_method_12_code 318 = .ok (.getfield 64, 3) := by decide +kernel
theorem d_Model_item_321 : decode prog_10_method_12_code 321 = .ok (.iconst 1, 1) := by decide +kernel
theorem d_Model_item_322 : decode prog_10_method_12_code 322 = .ok (.iaload, 1) := by decide +kernel
theorem d_Model_item_323 : decode prog_10_method_12_code 323 = .ok (.bipush 99, 2) := by decide +kernel
theorem d_Model_item_325 : decode prog_10_method_12_code 325 = .ok (.if_icmp .le 5, 3) := by decide +kernel
theorem d_Model_item_328 : decode prog_10_method_12_code 328 = .ok (.iconst 0, 1) := by decide +kernel
theorem d_Model_item_329 : decode prog_10_method_12_code 329 = .ok (.ireturn, 1) := by decide +kernel
theorem d_Model_item_330 : decode prog_10_method_12_code 330 = .ok (.aload_n 0, 1) := by decide +kernel
theorem d_Model_item_331 : decode prog_10_method_12_code 331 = .ok (.getfield 40, 3) := by decide +kernel
theorem d_Model_item_334 : decode prog_10_method_12_code 334 = .ok (.iconst 4, 1) := by decide +kernel
theorem d_Model_item_335 : decode prog_10_method_12_code 335 = .ok (.aload_n 0, 1) := by decide +kernel
theorem d_Model_item_336 : decode prog_10_method_12_code 336 = .ok (.getfield 64, 3) := by decide +kernel
theorem d_Model_item_339 : decode prog_10_method_12_code 339 = .ok (.iconst 0, 1) := by decide +kernel
theorem d_Model_item_340 : decode prog_10_method_12_code 340 = .ok (.iaload, 1) := by decide +kernel
theorem d_Model_item_341 : decode prog_10_method_12_code 341 = .ok (.iadd, 1) := by decide +kernel
theorem d_Model_item_342 : decode prog_10_method_12_code 342 = .ok (.aload_n 0, 1) := by decide +kernel
theorem d_Model_item_343 : decode prog_10_method_12_code 343 = .ok (.getfield 64, 3) := by decide +kernel
theorem d_Model_item_346 : decode prog_10_method_12_code 346 = .ok (.iconst 1, 1) := by decide +kernel
theorem d_Model_item_347 : decode prog_10_method_12_code 347 = .ok (.iaload, 1) := by decide +kernel
theorem d_Model_item_348 : decode prog_10_method_12_code 348 = .ok (.iastore, 1) := by decide +kernel
theorem d_Model_item_349 : decode prog_10_method_12_code 349 = .ok (.iconst 1, 1) := by decide +kernel
theorem d_Model_item_350 : decode prog_10_method_12_code 350 = .ok (.ireturn, 1) := by decide +kernel
theorem d_Model_item_351 : decode prog_10_method_12_code 351 = .ok (.aload_n 0, 1) := by decide +kernel
theorem d_Model_item_352 : decode prog_10_method_12_code 352 = .ok (.iconst 3, 1) := by decide +kernel
theorem d_Model_item_353 : decode prog_10_method_12_code 353 = .ok (.invokevirtual 105, 3) := by decide +kernel
theorem d_Model_item_356 : decode prog_10_method_12_code 356 = .ok (.ifCond .eq 34, 3) := by decide +kernel
theorem d_Model_item_359 : decode prog_10_method_12_code 359 = .ok (.aload_n 0, 1) := by decide +kernel
theorem d_Model_item_360 : decode prog_10_method_12_code 360 = .ok (.getfield 64, 3) := by decide +kernel
theorem d_Model_item_363 : decode prog_10_method_12_code 363 = .ok (.iconst 0, 1) := by decide +kernel
theorem d_Model_item_364 : decode prog_10_method_12_code 364 = .ok (.iaload, 1) := by decide +kernel
theorem d_Model_item_365 : decode prog_10_method_12_code 365 = .ok (.iconst 3, 1) := by decide +kernel
theorem d_Model_item_366 : decode prog_10_method_12_code 366 = .ok (.if_icmp .gt 24, 3) := by decide +kernel
theorem d_Model_item_369 : decode prog_10_method_12_code 369 = .ok (.aload_n 0, 1) := by decide +kernel
theorem d_Model_item_370 : decode prog_10_method_12_code 370 = .ok (.getfield 64, 3) := by decide +kernel
theorem d_Model_item_373 : decode prog_10_method_12_code 373 = .ok (.iconst 1, 1) := by decide +kernel
theorem d_Model_item_374 : decode prog_10_method_12_code 374 = .ok (.iaload, 1) := by decide +kernel
theorem d_Model_item_375 : decode prog_10_method_12_code 375 = .ok (.bipush 99, 2) := by decide +kernel
theorem d_Model_item_377 : decode prog_10_method_12_code 377 = .ok (.if_icmp .gt 13, 3) := by decide +kernel
theorem d_Model_item_380 : decode prog_10_method_12_code 380 = .ok (.aload_n 0, 1) := by decide +kernel
theorem d_Model_item_381 : decode prog_10_method_12_code 381 = .ok (.getfield 64, 3) := by decide +kernel
theorem d_Model_item_384 : decode prog_10_method_12_code 384 = .ok (.iconst 2, 1) := by decide +kernel
theorem d_Model_item_385 : decode prog_10_method_12_code 385 = .ok (.iaload, 1) := by decide +kernel
theorem d_Model_item_386 : decode prog_10_method_12_code 386 = .ok (.iconst 1, 1) := by decide +kernel
theorem d_Model_item_387 : decode prog_10_method_12_code 387 = .ok (.if_icmp .le 5, 3) := by decide +kernel
theorem d_Model_item_390 : decode prog_10_method_12_code 390 = .ok (.iconst 0, 1) := by decide +kernel
theorem d_Model_item_391 : decode prog_10_method_12_code 391 = .ok (.ireturn, 1) := by decide +kernel
theorem d_Model_item_392 : decode prog_10_method_12_code 392 = .ok (.aload_n 0, 1) := by decide +kernel
theorem d_Model_item_393 : decode prog_10_method_12_code 393 = .ok (.getfield 43, 3) := by decide +kernel
theorem d_Model_item_396 : decode prog_10_method_12_code 396 = .ok (.iconst 4, 1) := by decide +kernel
theorem d_Model_item_397 : decode prog_10_method_12_code 397 = .ok (.aload_n 0, 1) := by decide +kernel
theorem d_Model_item_398 : decode prog_10_method_12_code 398 = .ok (.getfield 64, 3) := by decide +kernel
theorem d_Model_item_401 : decode prog_10_method_12_code 401 = .ok (.iconst 0, 1) := by decide +kernel
theorem d_Model_item_402 : decode prog_10_method_12_code 402 = .ok (.iaload, 1) := by decide +kernel
theorem d_Model_item_403 : decode prog_10_method_12_code 403 = .ok (.iadd, 1) := by decide +kernel
theorem d_Model_item_404 : decode prog_10_method_12_code 404 = .ok (.aload_n 0, 1) := by decide +kernel
theorem d_Model_item_405 : decode prog_10_method_12_code 405 = .ok (.getfield 64, 3) := by decide +kernel
theorem d_Model_item_408 : decode prog_10_method_12_code 408 = .ok (.iconst 1, 1) := by decide +kernel
theorem d_Model_item_409 : decode prog_10_method_12_code 409 = .ok (.iaload, 1) := by decide +kernel
theorem d_Model_item_410 : decode prog_10_method_12_code 410 = .ok (.iastore, 1) := by decide +kernel
theorem d_Model_item_411 : decode prog_10_method_12_code 411 = .ok (.aload_n 0, 1) := by decide +kernel
theorem d_Model_item_412 : decode prog_10_method_12_code 412 = .ok (.getfield 46, 3) := by decide +kernel
theorem d_Model_item_415 : decode prog_10_method_12_code 415 = .ok (.iconst 4, 1) := by decide +kernel
theorem d_Model_item_416 : decode prog_10_method_12_code 416 = .ok (.aload_n 0, 1) := by decide +kernel
theorem d_Model_item_417 : decode prog_10_method_12_code 417 = .ok (.getfield 64, 3) := by decide +kernel
theorem d_Model_item_420 : decode prog_10_method_12_code 420 = .ok (.iconst 0, 1) := by decide +kernel
theorem d_Model_item_421 : decode prog_10_method_12_code 421 = .ok (.iaload, 1) := by decide +kernel
theorem d_Model_item_422 : decode prog_10_method_12_code 422 = .ok (.iadd, 1) := by decide +kernel
theorem d_Model_item_423 : decode prog_10_method_12_code 423 = .ok (.aload_n 0, 1) := by decide +kernel
theorem d_Model_item_424 : decode prog_10_method_12_code 424 = .ok (.getfield 64, 3) := by decide +kernel
theorem d_Model_item_427 : decode prog_10_method_12_code 427 = .ok (.iconst 2, 1) := by decide +kernel
theorem d_Model_item_428 : decode prog_10_method_12_code 428 = .ok (.iaload, 1) := by decide +kernel
theorem d_Model_item_429 : decode prog_10_method_12_code 429 = .ok (.iastore, 1) := by decide +kernel
theorem d_Model_item_430 : decode prog_10_method_12_code 430 = .ok (.iconst 1, 1) := by decide +kernel
theorem d_Model_item_431 : decode prog_10_method_12_code 431 = .ok (.ireturn, 1) := by decide +kernel
theorem d_Model_item_432 : decode prog_10_method_12_code 432 = .ok (.aload_n 0, 1) := by decide +kernel
theorem d_Model_item_433 : decode prog_10_method_12_code 433 = .ok (.invokevirtual 118, 3) := by decide +kernel
theorem d_Model_item_436 : decode prog_10_method_12_code 436 = .ok (.ireturn, 1) := by decide +kernel
theorem d_Model_item_437 : decode prog_10_method_12_code 437 = .ok (.iconst 0, 1) := by decide +kernel
theorem d_Model_item_438 : decode prog_10_method_12_code 438 = .ok (.ireturn, 1) := by decide +kernel
theorem d_Model_readAll_0 : decode prog_10_method_13_code 0 = .ok (.aload_n 0, 1) := by decide +kernel
theorem d_Model_readAll_1 : decode prog_10_method_13_code 1 = .ok (.iconst 1, 1) := by decide +kernel
theorem d_Model_readAll_2 : decode prog_10_method_13_code 2 = .ok (.invokevirtual 76, 3) := by decide +kernel
theorem d_Model_readAll_5 : decode prog_10_method_13_code 5 = .ok (.aload_n 0, 1) := by decide +kernel
theorem d_Model_readAll_6 : decode prog_10_method_13_code 6 = .ok (.iconst 0, 1) := by decide +kernel
theorem d_Model_readAll_7 : decode prog_10_method_13_code 7 = .ok (.putfield 92, 3) := by decide +kernel
theorem d_Model_readAll_10 : decode prog_10_method_13_code 10 = .ok (.aload_n 0, 1) := by decide +kernel
theorem d_Model_readAll_11 : decode prog_10_method_13_code 11 = .ok (.getfield 92, 3) := by decide +kernel
theorem d_Model_readAll_14 : decode prog_10_method_13_code 14 = .ok (.aload_n 0, 1) := by decide +kernel
theorem d_Model_readAll_15 : decode prog_10_method_13_code 15 = .ok (.getfield 86, 3) := by decide +kernel
theorem d_Model_readAll_18 : decode prog_10_method_13_code 18 = .ok (.if_icmp .ge 20, 3) := by decide +kernel
theorem d_Model_readAll_21 : decode prog_10_method_13_code 21 = .ok (.aload_n 0, 1) := by decide +kernel
theorem d_Model_readAll_22 : decode prog_10_method_13_code 22 = .ok (.getfield 92, 3) := by decide +kernel
theorem d_Model_readAll_25 : decode prog_10_method_13_code 25 = .ok (.istore_n 1, 1) := by decide +kernel
theorem d_Model_readAll_26 : decode prog_10_method_13_code 26 = .ok (.aload_n 0, 1) := by decide +kernel
theorem d_Model_readAll_27 : decode prog_10_method_13_code 27 = .ok (.invokevirtual 121, 3) := by decide +kernel
theorem d_Model_readAll_30 : decode prog_10_method_13_code 30 = .ok (.ifCond .ne 5, 3) := by decide +kernel
theorem d_Model_readAll_33 : decode prog_10_method_13_code 33 = .ok (.iload_n 1, 1) := by decide +kernel
theorem d_Model_readAll_34 : decode prog_10_method_13_code 34 = .ok (.ireturn, 1) := by decide +kernel
theorem d_Model_readAll_35 : decode prog_10_method_13_code 35 = .ok (.goto (-25), 3) := by decide +kernel
theorem d_Model_readAll_38 : decode prog_10_method_13_code 38 = .ok (.bipush (-4), 2) := by decide +kernel
theorem d_Model_readAll_40 : decode prog_10_method_13_code 40 = .ok (.ireturn, 1) := by decide +kernel
theorem d_Model_fault_0 : decode prog_10_method_14_code 0 = .ok (.aload_n 0, 1) := by decide +kernel
theorem d_Model_fault_1 : decode prog_10_method_14_code 1 = .ok (.invokevirtual 124, 3) := by decide +kernel
theorem d_Model_fault_4 : decode prog_10_method_14_code 4 = .ok (.ireturn, 1) := by decide +kernel
theorem d_Model_lay_0 : decode prog_10_method_15_code 0 = .ok (.aload_n 0, 1) := by decide +kernel
theorem d_Model_lay_1 : decode prog_10_method_15_code 1 = .ok (.invokevirtual 124, 3) := by decide +kernel
theorem d_Model_lay_4 : decode prog_10_method_15_code 4 = .ok (.bipush (-4), 2) := by decide +kernel
theorem d_Model_lay_6 : decode prog_10_method_15_code 6 = .ok (.if_icmp .ne 21, 3) := by decide +kernel
theorem d_Model_lay_9 : decode prog_10_method_15_code 9 = .ok (.aload_n 0, 1) := by decide +kernel
theorem d_Model_lay_10 : decode prog_10_method_15_code 10 = .ok (.getfield 13, 3) := by decide +kernel
theorem d_Model_lay_13 : decode prog_10_method_15_code 13 = .ok (.iconst 1, 1) := by decide +kernel
theorem d_Model_lay_14 : decode prog_10_method_15_code 14 = .ok (.iaload, 1) := by decide +kernel
theorem d_Model_lay_15 : decode prog_10_method_15_code 15 = .ok (.ifCond .eq 12, 3) := by decide +kernel
theorem d_Model_lay_18 : decode prog_10_method_15_code 18 = .ok (.aload_n 0, 1) := by decide +kernel
theorem d_Model_lay_19 : decode prog_10_method_15_code 19 = .ok (.getfield 19, 3) := by decide +kernel
theorem d_Model_lay_22 : decode prog_10_method_15_code 22 = .ok (.iconst 1, 1) := by decide +kernel
theorem d_Model_lay_23 : decode prog_10_method_15_code 23 = .ok (.iaload, 1) := by decide +kernel
theorem d_Model_lay_24 : decode prog_10_method_15_code 24 = .ok (.ifCond .ne 6, 3) := by decide +kernel
theorem d_Model_lay_27 : decode prog_10_method_15_code 27 = .ok (.bipush (-2), 2) := by decide +kernel
theorem d_Model_lay_29 : decode prog_10_method_15_code 29 = .ok (.ireturn, 1) := by decide +kernel
theorem d_Model_lay_30 : decode prog_10_method_15_code 30 = .ok (.aload_n 0, 1) := by decide +kernel
theorem d_Model_lay_31 : decode prog_10_method_15_code 31 = .ok (.getfield 13, 3) := by decide +kernel
theorem d_Model_lay_34 : decode prog_10_method_15_code 34 = .ok (.iconst 0, 1) := by decide +kernel
theorem d_Model_lay_35 : decode prog_10_method_15_code 35 = .ok (.aload_n 0, 1) := by decide +kernel
theorem d_Model_lay_36 : decode prog_10_method_15_code 36 = .ok (.getfield 13, 3) := by decide +kernel
theorem d_Model_lay_39 : decode prog_10_method_15_code 39 = .ok (.iconst 1, 1) := by decide +kernel
theorem d_Model_lay_40 : decode prog_10_method_15_code 40 = .ok (.iaload, 1) := by decide +kernel
theorem d_Model_lay_41 : decode prog_10_method_15_code 41 = .ok (.iastore, 1) := by decide +kernel
theorem d_Model_lay_42 : decode prog_10_method_15_code 42 = .ok (.aload_n 0, 1) := by decide +kernel
theorem d_Model_lay_43 : decode prog_10_method_15_code 43 = .ok (.getfield 19, 3) := by decide +kernel
theorem d_Model_lay_46 : decode prog_10_method_15_code 46 = .ok (.iconst 0, 1) := by decide +kernel
theorem d_Model_lay_47 : decode prog_10_method_15_code 47 = .ok (.aload_n 0, 1) := by decide +kernel
theorem d_Model_lay_48 : decode prog_10_method_15_code 48 = .ok (.getfield 19, 3) := by decide +kernel
theorem d_Model_lay_51 : decode prog_10_method_15_code 51 = .ok (.iconst 1, 1) := by decide +kernel
theorem d_Model_lay_52 : decode prog_10_method_15_code 52 = .ok (.iaload, 1) := by decide +kernel
theorem d_Model_lay_53 : decode prog_10_method_15_code 53 = .ok (.iastore, 1) := by decide +kernel
theorem d_Model_lay_54 : decode prog_10_method_15_code 54 = .ok (.iconst 0, 1) := by decide +kernel
theorem d_Model_lay_55 : decode prog_10_method_15_code 55 = .ok (.istore_n 1, 1) := by decide +kernel
theorem d_Model_lay_56 : decode prog_10_method_15_code 56 = .ok (.iload_n 1, 1) := by decide +kernel
theorem d_Model_lay_57 : decode prog_10_method_15_code 57 = .ok (.bipush 24, 2) := by decide +kernel
theorem d_Model_lay_59 : decode prog_10_method_15_code 59 = .ok (.if_icmp .ge 39, 3) := by decide +kernel
theorem d_Model_lay_62 : decode prog_10_method_15_code 62 = .ok (.aload_n 0, 1) := by decide +kernel
theorem d_Model_lay_63 : decode prog_10_method_15_code 63 = .ok (.getfield 16, 3) := by decide +kernel
theorem d_Model_lay_66 : decode prog_10_method_15_code 66 = .ok (.iload_n 1, 1) := by decide +kernel
theorem d_Model_lay_67 : decode prog_10_method_15_code 67 = .ok (.aload_n 0, 1) := by decide +kernel
theorem d_Model_lay_68 : decode prog_10_method_15_code 68 = .ok (.getfield 16, 3) := by decide +kernel
theorem d_Model_lay_71 : decode prog_10_method_15_code 71 = .ok (.bipush 24, 2) := by decide +kernel
theorem d_Model_lay_73 : decode prog_10_method_15_code 73 = .ok (.iload_n 1, 1) := by decide +kernel
theorem d_Model_lay_74 : decode prog_10_method_15_code 74 = .ok (.iadd, 1) := by decide +kernel
theorem d_Model_lay_75 : decode prog_10_method_15_code 75 = .ok (.iaload, 1) := by decide +kernel
theorem d_Model_lay_76 : decode prog_10_method_15_code 76 = .ok (.iastore, 1) := by decide +kernel
theorem d_Model_lay_77 : decode prog_10_method_15_code 77 = .ok (.aload_n 0, 1) := by decide +kernel
theorem d_Model_lay_78 : decode prog_10_method_15_code 78 = .ok (.getfield 37, 3) := by decide +kernel
theorem d_Model_lay_81 : decode prog_10_method_15_code 81 = .ok (.iload_n 1, 1) := by decide +kernel
theorem d_Model_lay_82 : decode prog_10_method_15_code 82 = .ok (.aload_n 0, 1) := by decide +kernel
theorem d_Model_lay_83 : decode prog_10_method_15_code 83 = .ok (.getfield 37, 3) := by decide +kernel
theorem d_Model_lay_86 : decode prog_10_method_15_code 86 = .ok (.bipush 24, 2) := by decide +kernel
theorem d_Model_lay_88 : decode prog_10_method_15_code 88 = .ok (.iload_n 1, 1) := by decide +kernel
theorem d_Model_lay_89 : decode prog_10_method_15_code 89 = .ok (.iadd, 1) := by decide +kernel
theorem d_Model_lay_90 : decode prog_10_method_15_code 90 = .ok (.iaload, 1) := by decide +kernel
theorem d_Model_lay_91 : decode prog_10_method_15_code 91 = .ok (.iastore, 1) := by decide +kernel
theorem d_Model_lay_92 : decode prog_10_method_15_code 92 = .ok (.iinc 1 1, 3) := by decide +kernel
theorem d_Model_lay_95 : decode prog_10_method_15_code 95 = .ok (.goto (-39), 3) := by decide +kernel
theorem d_Model_lay_98 : decode prog_10_method_15_code 98 = .ok (.iconst 0, 1) := by decide +kernel
theorem d_Model_lay_99 : decode prog_10_method_15_code 99 = .ok (.istore_n 1, 1) := by decide +kernel
theorem d_Model_lay_100 : decode prog_10_method_15_code 100 = .ok (.iload_n 1, 1) := by decide +kernel
theorem d_Model_lay_101 : decode prog_10_method_15_code 101 = .ok (.bipush 10, 2) := by decide +kernel
theorem d_Model_lay_103 : decode prog_10_method_15_code 103 = .ok (.if_icmp .ge 76, 3) := by decide +kernel
theorem d_Model_lay_106 : decode prog_10_method_15_code 106 = .ok (.aload_n 0, 1) := by decide +kernel
theorem d_Model_lay_107 : decode prog_10_method_15_code 107 = .ok (.getfield 22, 3) := by decide +kernel
theorem d_Model_lay_110 : decode prog_10_method_15_code 110 = .ok (.iload_n 1, 1) := by decide +kernel
theorem d_Model_lay_111 : decode prog_10_method_15_code 111 = .ok (.aload_n 0, 1) := by decide +kernel
theorem d_Model_lay_112 : decode prog_10_method_15_code 112 = .ok (.getfield 22, 3) := by decide +kernel
theorem d_Model_lay_115 : decode prog_10_method_15_code 115 = .ok (.bipush 10, 2) := by decide +kernel
theorem d_Model_lay_117 : decode prog_10_method_15_code 117 = .ok (.iload_n 1, 1) := by decide +kernel
theorem d_Model_lay_118 : decode prog_10_method_15_code 118 = .ok (.iadd, 1) := by decide +kernel
theorem d_Model_lay_119 : decode prog_10_method_15_code 119 = .ok (.iaload, 1) := by decide +kernel
theorem d_Model_lay_120 : decode prog_10_method_15_code 120 = .ok (.iastore, 1) := by decide +kernel
theorem d_Model_lay_121 : decode prog_10_method_15_code 121 = .ok (.aload_n 0, 1) := by decide +kernel
theorem d_Model_lay_122 : decode prog_10_method_15_code 122 = .ok (.getfield 25, 3) := by decide +kernel
theorem d_Model_lay_125 : decode prog_10_method_15_code 125 = .ok (.iload_n 1, 1) := by decide +kernel
theorem d_Model_lay_126 : decode prog_10_method_15_code 126 = .ok (.aload_n 0, 1) := by decide +kernel
theorem d_Model_lay_127 : decode prog_10_method_15_code 127 = .ok (.getfield 25, 3) := by decide +kernel
theorem d_Model_lay_130 : decode prog_10_method_15_code 130 = .ok (.bipush 10, 2) := by decide +kernel
theorem d_Model_lay_132 : decode prog_10_method_15_code 132 = .ok (.iload_n 1, 1) := by decide +kernel
theorem d_Model_lay_133 : decode prog_10_method_15_code 133 = .ok (.iadd, 1) := by decide +kernel
theorem d_Model_lay_134 : decode prog_10_method_15_code 134 = .ok (.iaload, 1) := by decide +kernel
theorem d_Model_lay_135 : decode prog_10_method_15_code 135 = .ok (.iastore, 1) := by decide +kernel
theorem d_Model_lay_136 : decode prog_10_method_15_code 136 = .ok (.aload_n 0, 1) := by decide +kernel
theorem d_Model_lay_137 : decode prog_10_method_15_code 137 = .ok (.getfield 28, 3) := by decide +kernel
theorem d_Model_lay_140 : decode prog_10_method_15_code 140 = .ok (.iload_n 1, 1) := by decide +kernel
theorem d_Model_lay_141 : decode prog_10_method_15_code 141 = .ok (.aload_n 0, 1) := by decide +kernel
theorem d_Model_lay_142 : decode prog_10_method_15_code 142 = .ok (.getfield 28, 3) := by decide +kernel
theorem d_Model_lay_145 : decode prog_10_method_15_code 145 = .ok (.bipush 10, 2) := by decide +kernel
theorem d_Model_lay_147 : decode prog_10_method_15_code 147 = .ok (.iload_n 1, 1) := by decide +kernel
theorem d_Model_lay_148 : decode prog_10_method_15_code 148 = .ok (.iadd, 1) := by decide +kernel
theorem d_Model_lay_149 : decode prog_10_method_15_code 149 = .ok (.iaload, 1) := by decide +kernel

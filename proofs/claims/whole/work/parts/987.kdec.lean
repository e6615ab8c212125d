theorem karr : Cond.arrayClass .int ∈ zT := zT_in (List.mem_of_getElem? (i := 86) (by decide +kernel)) (by decide +kernel)
theorem ko_inst : Cond.instanceMethod Lib.objectInit ∈ zT := zT_in (List.mem_of_getElem? (i := 69) (by decide +kernel)) (by decide +kernel)
theorem ko_code : Cond.code Lib.objectInit ⟨#[0xb1]⟩ 1 none ∈ zT := zT_in (List.mem_of_getElem? (i := 70) (by decide +kernel)) (by decide +kernel)
theorem kcode_Text : Cond.code y_Text_init prog_8_method_1_code 1 none ∈ zT := zT_in (List.mem_of_getElem? (i := 75) (by decide +kernel)) (by decide +kernel)
theorem kinst_Text : Cond.instanceMethod y_Text_init ∈ zT := zT_in (List.mem_of_getElem? (i := 74) (by decide +kernel)) (by decide +kernel)
theorem kini_Text : Cond.initialized "QuernGrains$Text" ∈ zT := zT_in (List.mem_of_getElem? (i := 51) (by decide +kernel)) (by decide +kernel)
theorem kmake_Text : Cond.instantiable "QuernGrains$Text" 2 ∈ zT := zT_in (List.mem_of_getElem? (i := 72) (by decide +kernel)) (by decide +kernel)
theorem d_Text_init_0 : decode prog_8_method_1_code 0 = .ok (.aload_n 0, 1) := by decide +kernel
theorem d_Text_init_1 : decode prog_8_method_1_code 1 = .ok (.invokespecial 3, 3) := by decide +kernel
theorem kob_Text : Cond.methodLink "QuernGrains$Text" 3 Lib.objectInit ∈ zT := zT_in (List.mem_of_getElem? (i := 76) (by decide +kernel)) (by decide +kernel)
theorem d_Text_init_4 : decode prog_8_method_1_code 4 = .ok (.aload_n 0, 1) := by decide +kernel
theorem d_Text_init_5 : decode prog_8_method_1_code 5 = .ok (.sipush 500, 3) := by decide +kernel
theorem d_Text_init_8 : decode prog_8_method_1_code 8 = .ok (.newarray .int, 2) := by decide +kernel
theorem d_Text_init_10 : decode prog_8_method_1_code 10 = .ok (.putfield 9, 3) := by decide +kernel
theorem kl_Text_9 : Cond.fieldLink "QuernGrains$Text" 9 "QuernGrains$Text" "bytes" "[I" ∈ zT := zT_in (List.mem_of_getElem? (i := 77) (by decide +kernel)) (by decide +kernel)
theorem d_Text_init_13 : decode prog_8_method_1_code 13 = .ok (.return_, 1) := by decide +kernel
theorem kcode_Scribe : Cond.code y_Scribe_init prog_7_method_1_code 1 none ∈ zT := zT_in (List.mem_of_getElem? (i := 91) (by decide +kernel)) (by decide +kernel)
theorem kinst_Scribe : Cond.instanceMethod y_Scribe_init ∈ zT := zT_in (List.mem_of_getElem? (i := 90) (by decide +kernel)) (by decide +kernel)
theorem kini_Scribe : Cond.initialized "QuernGrains$Scribe" ∈ zT := zT_in (List.mem_of_getElem? (i := 52) (by decide +kernel)) (by decide +kernel)
theorem kmake_Scribe : Cond.instantiable "QuernGrains$Scribe" 1 ∈ zT := zT_in (List.mem_of_getElem? (i := 88) (by decide +kernel)) (by decide +kernel)
theorem d_Scribe_init_0 : decode prog_7_method_1_code 0 = .ok (.aload_n 0, 1) := by decide +kernel
theorem d_Scribe_init_1 : decode prog_7_method_1_code 1 = .ok (.invokespecial 3, 3) := by decide +kernel
theorem kob_Scribe : Cond.methodLink "QuernGrains$Scribe" 3 Lib.objectInit ∈ zT := zT_in (List.mem_of_getElem? (i := 92) (by decide +kernel)) (by decide +kernel)
theorem d_Scribe_init_4 : decode prog_7_method_1_code 4 = .ok (.aload_n 0, 1) := by decide +kernel
theorem d_Scribe_init_5 : decode prog_7_method_1_code 5 = .ok (.iconst 4, 1) := by decide +kernel
theorem d_Scribe_init_6 : decode prog_7_method_1_code 6 = .ok (.newarray .int, 2) := by decide +kernel
theorem d_Scribe_init_8 : decode prog_7_method_1_code 8 = .ok (.putfield 9, 3) := by decide +kernel
theorem kl_Scribe_9 : Cond.fieldLink "QuernGrains$Scribe" 9 "QuernGrains$Scribe" "numbers" "[I" ∈ zT := zT_in (List.mem_of_getElem? (i := 93) (by decide +kernel)) (by decide +kernel)
theorem d_Scribe_init_11 : decode prog_7_method_1_code 11 = .ok (.return_, 1) := by decide +kernel
theorem kcode_Books : Cond.code y_Books_init prog_2_method_1_code 1 none ∈ zT := zT_in (List.mem_of_getElem? (i := 101) (by decide +kernel)) (by decide +kernel)
theorem kinst_Books : Cond.instanceMethod y_Books_init ∈ zT := zT_in (List.mem_of_getElem? (i := 100) (by decide +kernel)) (by decide +kernel)
theorem kini_Books : Cond.initialized "QuernGrains$Books" ∈ zT := zT_in (List.mem_of_getElem? (i := 53) (by decide +kernel)) (by decide +kernel)
theorem kmake_Books : Cond.instantiable "QuernGrains$Books" 7 ∈ zT := zT_in (List.mem_of_getElem? (i := 98) (by decide +kernel)) (by decide +kernel)
theorem d_Books_init_0 : decode prog_2_method_1_code 0 = .ok (.aload_n 0, 1) := by decide +kernel
theorem d_Books_init_1 : decode prog_2_method_1_code 1 = .ok (.invokespecial 5, 3) := by decide +kernel
theorem kob_Books : Cond.methodLink "QuernGrains$Books" 5 Lib.objectInit ∈ zT := zT_in (List.mem_of_getElem? (i := 102) (by decide +kernel)) (by decide +kernel)
theorem d_Books_init_4 : decode prog_2_method_1_code 4 = .ok (.aload_n 0, 1) := by decide +kernel
theorem d_Books_init_5 : decode prog_2_method_1_code 5 = .ok (.bipush 16, 2) := by decide +kernel
theorem d_Books_init_7 : decode prog_2_method_1_code 7 = .ok (.newarray .int, 2) := by decide +kernel
theorem d_Books_init_9 : decode prog_2_method_1_code 9 = .ok (.putfield 11, 3) := by decide +kernel
theorem kl_Books_11 : Cond.fieldLink "QuernGrains$Books" 11 "QuernGrains$Books" "low" "[I" ∈ zT := zT_in (List.mem_of_getElem? (i := 103) (by decide +kernel)) (by decide +kernel)
theorem d_Books_init_12 : decode prog_2_method_1_code 12 = .ok (.aload_n 0, 1) := by decide +kernel
theorem d_Books_init_13 : decode prog_2_method_1_code 13 = .ok (.bipush 16, 2) := by decide +kernel
theorem d_Books_init_15 : decode prog_2_method_1_code 15 = .ok (.newarray .int, 2) := by decide +kernel
theorem d_Books_init_17 : decode prog_2_method_1_code 17 = .ok (.putfield 15, 3) := by decide +kernel
theorem kl_Books_15 : Cond.fieldLink "QuernGrains$Books" 15 "QuernGrains$Books" "high" "[I" ∈ zT := zT_in (List.mem_of_getElem? (i := 104) (by decide +kernel)) (by decide +kernel)
theorem d_Books_init_20 : decode prog_2_method_1_code 20 = .ok (.aload_n 0, 1) := by decide +kernel
theorem d_Books_init_21 : decode prog_2_method_1_code 21 = .ok (.bipush 16, 2) := by decide +kernel
theorem d_Books_init_23 : decode prog_2_method_1_code 23 = .ok (.newarray .int, 2) := by decide +kernel
theorem d_Books_init_25 : decode prog_2_method_1_code 25 = .ok (.putfield 18, 3) := by decide +kernel
theorem kl_Books_18 : Cond.fieldLink "QuernGrains$Books" 18 "QuernGrains$Books" "sums" "[I" ∈ zT := zT_in (List.mem_of_getElem? (i := 105) (by decide +kernel)) (by decide +kernel)
theorem d_Books_init_28 : decode prog_2_method_1_code 28 = .ok (.return_, 1) := by decide +kernel
theorem kcode_Heap : Cond.code y_Heap_init prog_4_method_1_code 1 none ∈ zT := zT_in (List.mem_of_getElem? (i := 132) (by decide +kernel)) (by decide +kernel)
theorem kinst_Heap : Cond.instanceMethod y_Heap_init ∈ zT := zT_in (List.mem_of_getElem? (i := 131) (by decide +kernel)) (by decide +kernel)
theorem kini_Heap : Cond.initialized "QuernGrains$Heap" ∈ zT := zT_in (List.mem_of_getElem? (i := 54) (by decide +kernel)) (by decide +kernel)
theorem kmake_Heap : Cond.instantiable "QuernGrains$Heap" 1 ∈ zT := zT_in (List.mem_of_getElem? (i := 129) (by decide +kernel)) (by decide +kernel)
theorem d_Heap_init_0 : decode prog_4_method_1_code 0 = .ok (.aload_n 0, 1) := by decide +kernel
theorem d_Heap_init_1 : decode prog_4_method_1_code 1 = .ok (.invokespecial 3, 3) := by decide +kernel
theorem kob_Heap : Cond.methodLink "QuernGrains$Heap" 3 Lib.objectInit ∈ zT := zT_in (List.mem_of_getElem? (i := 133) (by decide +kernel)) (by decide +kernel)
theorem d_Heap_init_4 : decode prog_4_method_1_code 4 = .ok (.aload_n 0, 1) := by decide +kernel
theorem d_Heap_init_5 : decode prog_4_method_1_code 5 = .ok (.iconst 4, 1) := by decide +kernel
theorem d_Heap_init_6 : decode prog_4_method_1_code 6 = .ok (.newarray .int, 2) := by decide +kernel
theorem d_Heap_init_8 : decode prog_4_method_1_code 8 = .ok (.putfield 9, 3) := by decide +kernel
theorem kl_Heap_9 : Cond.fieldLink "QuernGrains$Heap" 9 "QuernGrains$Heap" "high" "[I" ∈ zT := zT_in (List.mem_of_getElem? (i := 134) (by decide +kernel)) (by decide +kernel)
theorem d_Heap_init_11 : decode prog_4_method_1_code 11 = .ok (.return_, 1) := by decide +kernel
theorem kcode_Finds : Cond.code y_Finds_init prog_3_method_1_code 1 none ∈ zT := zT_in (List.mem_of_getElem? (i := 142) (by decide +kernel)) (by decide +kernel)
theorem kinst_Finds : Cond.instanceMethod y_Finds_init ∈ zT := zT_in (List.mem_of_getElem? (i := 141) (by decide +kernel)) (by decide +kernel)
theorem kini_Finds : Cond.initialized "QuernGrains$Finds" ∈ zT := zT_in (List.mem_of_getElem? (i := 55) (by decide +kernel)) (by decide +kernel)
theorem kmake_Finds : Cond.instantiable "QuernGrains$Finds" 5 ∈ zT := zT_in (List.mem_of_getElem? (i := 139) (by decide +kernel)) (by decide +kernel)
theorem d_Finds_init_0 : decode prog_3_method_1_code 0 = .ok (.aload_n 0, 1) := by decide +kernel
theorem d_Finds_init_1 : decode prog_3_method_1_code 1 = .ok (.invokespecial 3, 3) := by decide +kernel
theorem kob_Finds : Cond.methodLink "QuernGrains$Finds" 3 Lib.objectInit ∈ zT := zT_in (List.mem_of_getElem? (i := 143) (by decide +kernel)) (by decide +kernel)
theorem d_Finds_init_4 : decode prog_3_method_1_code 4 = .ok (.aload_n 0, 1) := by decide +kernel
theorem d_Finds_init_5 : decode prog_3_method_1_code 5 = .ok (.bipush 10, 2) := by decide +kernel
theorem d_Finds_init_7 : decode prog_3_method_1_code 7 = .ok (.bipush 6, 2) := by decide +kernel
theorem d_Finds_init_9 : decode prog_3_method_1_code 9 = .ok (.multianewarray 9 2, 4) := by decide +kernel
theorem kcl_Finds_9 : Cond.classLink "QuernGrains$Finds" 9 "[[I" ∈ zT := zT_in (List.mem_of_getElem? (i := 144) (by decide +kernel)) (by decide +kernel)
theorem d_Finds_init_13 : decode prog_3_method_1_code 13 = .ok (.putfield 11, 3) := by decide +kernel
theorem kl_Finds_11 : Cond.fieldLink "QuernGrains$Finds" 11 "QuernGrains$Finds" "counts" "[[I" ∈ zT := zT_in (List.mem_of_getElem? (i := 146) (by decide +kernel)) (by decide +kernel)
theorem d_Finds_init_16 : decode prog_3_method_1_code 16 = .ok (.aload_n 0, 1) := by decide +kernel
theorem d_Finds_init_17 : decode prog_3_method_1_code 17 = .ok (.bipush 6, 2) := by decide +kernel
theorem d_Finds_init_19 : decode prog_3_method_1_code 19 = .ok (.bipush 6, 2) := by decide +kernel
theorem d_Finds_init_21 : decode prog_3_method_1_code 21 = .ok (.multianewarray 9 2, 4) := by decide +kernel
theorem d_Finds_init_25 : decode prog_3_method_1_code 25 = .ok (.putfield 16, 3) := by decide +kernel
theorem kl_Finds_16 : Cond.fieldLink "QuernGrains$Finds" 16 "QuernGrains$Finds" "blindSo" "[[I" ∈ zT := zT_in (List.mem_of_getElem? (i := 149) (by decide +kernel)) (by decide +kernel)
theorem d_Finds_init_28 : decode prog_3_method_1_code 28 = .ok (.return_, 1) := by decide +kernel
theorem kcode_Quern : Cond.code y_Quern_init prog_6_method_1_code 1 none ∈ zT := zT_in (List.mem_of_getElem? (i := 173) (by decide +kernel)) (by decide +kernel)
theorem kinst_Quern : Cond.instanceMethod y_Quern_init ∈ zT := zT_in (List.mem_of_getElem? (i := 172) (by decide +kernel)) (by decide +kernel)
theorem kini_Quern : Cond.initialized "QuernGrains$Quern" ∈ zT := zT_in (List.mem_of_getElem? (i := 56) (by decide +kernel)) (by decide +kernel)
theorem kmake_Quern : Cond.instantiable "QuernGrains$Quern" 13 ∈ zT := zT_in (List.mem_of_getElem? (i := 170) (by decide +kernel)) (by decide +kernel)
theorem d_Quern_init_0 : decode prog_6_method_1_code 0 = .ok (.aload_n 0, 1) := by decide +kernel
theorem d_Quern_init_1 : decode prog_6_method_1_code 1 = .ok (.invokespecial 3, 3) := by decide +kernel
theorem kob_Quern : Cond.methodLink "QuernGrains$Quern" 3 Lib.objectInit ∈ zT := zT_in (List.mem_of_getElem? (i := 174) (by decide +kernel)) (by decide +kernel)
theorem d_Quern_init_4 : decode prog_6_method_1_code 4 = .ok (.aload_n 0, 1) := by decide +kernel
theorem d_Quern_init_5 : decode prog_6_method_1_code 5 = .ok (.bipush 6, 2) := by decide +kernel
theorem d_Quern_init_7 : decode prog_6_method_1_code 7 = .ok (.iconst 4, 1) := by decide +kernel
theorem d_Quern_init_8 : decode prog_6_method_1_code 8 = .ok (.multianewarray 9 2, 4) := by decide +kernel
theorem kcl_Quern_9 : Cond.classLink "QuernGrains$Quern" 9 "[[I" ∈ zT := zT_in (List.mem_of_getElem? (i := 175) (by decide +kernel)) (by decide +kernel)
theorem d_Quern_init_12 : decode prog_6_method_1_code 12 = .ok (.putfield 11, 3) := by decide +kernel
theorem kl_Quern_11 : Cond.fieldLink "QuernGrains$Quern" 11 "QuernGrains$Quern" "waves" "[[I" ∈ zT := zT_in (List.mem_of_getElem? (i := 181) (by decide +kernel)) (by decide +kernel)
theorem d_Quern_init_15 : decode prog_6_method_1_code 15 = .ok (.aload_n 0, 1) := by decide +kernel
theorem d_Quern_init_16 : decode prog_6_method_1_code 16 = .ok (.bipush 10, 2) := by decide +kernel
theorem d_Quern_init_18 : decode prog_6_method_1_code 18 = .ok (.newarray .int, 2) := by decide +kernel
theorem d_Quern_init_20 : decode prog_6_method_1_code 20 = .ok (.putfield 16, 3) := by decide +kernel
theorem kl_Quern_16 : Cond.fieldLink "QuernGrains$Quern" 16 "QuernGrains$Quern" "stone" "[I" ∈ zT := zT_in (List.mem_of_getElem? (i := 183) (by decide +kernel)) (by decide +kernel)
theorem d_Quern_init_23 : decode prog_6_method_1_code 23 = .ok (.aload_n 0, 1) := by decide +kernel
theorem d_Quern_init_24 : decode prog_6_method_1_code 24 = .ok (.bipush 10, 2) := by decide +kernel
theorem d_Quern_init_26 : decode prog_6_method_1_code 26 = .ok (.newarray .int, 2) := by decide +kernel
theorem d_Quern_init_28 : decode prog_6_method_1_code 28 = .ok (.putfield 20, 3) := by decide +kernel
theorem kl_Quern_20 : Cond.fieldLink "QuernGrains$Quern" 20 "QuernGrains$Quern" "kind" "[I" ∈ zT := zT_in (List.mem_of_getElem? (i := 185) (by decide +kernel)) (by decide +kernel)
theorem d_Quern_init_31 : decode prog_6_method_1_code 31 = .ok (.aload_n 0, 1) := by decide +kernel
theorem d_Quern_init_32 : decode prog_6_method_1_code 32 = .ok (.bipush 10, 2) := by decide +kernel
theorem d_Quern_init_34 : decode prog_6_method_1_code 34 = .ok (.newarray .int, 2) := by decide +kernel
theorem d_Quern_init_36 : decode prog_6_method_1_code 36 = .ok (.putfield 23, 3) := by decide +kernel
theorem kl_Quern_23 : Cond.fieldLink "QuernGrains$Quern" 23 "QuernGrains$Quern" "area" "[I" ∈ zT := zT_in (List.mem_of_getElem? (i := 188) (by decide +kernel)) (by decide +kernel)
theorem d_Quern_init_39 : decode prog_6_method_1_code 39 = .ok (.aload_n 0, 1) := by decide +kernel
theorem d_Quern_init_40 : decode prog_6_method_1_code 40 = .ok (.bipush 10, 2) := by decide +kernel
theorem d_Quern_init_42 : decode prog_6_method_1_code 42 = .ok (.newarray .int, 2) := by decide +kernel
theorem d_Quern_init_44 : decode prog_6_method_1_code 44 = .ok (.putfield 26, 3) := by decide +kernel
theorem kl_Quern_26 : Cond.fieldLink "QuernGrains$Quern" 26 "QuernGrains$Quern" "steps" "[I" ∈ zT := zT_in (List.mem_of_getElem? (i := 191) (by decide +kernel)) (by decide +kernel)
theorem d_Quern_init_47 : decode prog_6_method_1_code 47 = .ok (.aload_n 0, 1) := by decide +kernel
theorem d_Quern_init_48 : decode prog_6_method_1_code 48 = .ok (.bipush 10, 2) := by decide +kernel
theorem d_Quern_init_50 : decode prog_6_method_1_code 50 = .ok (.bipush 6, 2) := by decide +kernel
theorem d_Quern_init_52 : decode prog_6_method_1_code 52 = .ok (.multianewarray 9 2, 4) := by decide +kernel
theorem d_Quern_init_56 : decode prog_6_method_1_code 56 = .ok (.putfield 29, 3) := by decide +kernel
theorem kl_Quern_29 : Cond.fieldLink "QuernGrains$Quern" 29 "QuernGrains$Quern" "used" "[[I" ∈ zT := zT_in (List.mem_of_getElem? (i := 194) (by decide +kernel)) (by decide +kernel)
theorem d_Quern_init_59 : decode prog_6_method_1_code 59 = .ok (.aload_n 0, 1) := by decide +kernel
theorem d_Quern_init_60 : decode prog_6_method_1_code 60 = .ok (.iconst 4, 1) := by decide +kernel
theorem d_Quern_init_61 : decode prog_6_method_1_code 61 = .ok (.bipush 6, 2) := by decide +kernel
theorem d_Quern_init_63 : decode prog_6_method_1_code 63 = .ok (.multianewarray 9 2, 4) := by decide +kernel
theorem d_Quern_init_67 : decode prog_6_method_1_code 67 = .ok (.putfield 32, 3) := by decide +kernel
theorem kl_Quern_32 : Cond.fieldLink "QuernGrains$Quern" 32 "QuernGrains$Quern" "booked" "[[I" ∈ zT := zT_in (List.mem_of_getElem? (i := 195) (by decide +kernel)) (by decide +kernel)
theorem d_Quern_init_70 : decode prog_6_method_1_code 70 = .ok (.aload_n 0, 1) := by decide +kernel
theorem d_Quern_init_71 : decode prog_6_method_1_code 71 = .ok (.iconst 4, 1) := by decide +kernel
theorem d_Quern_init_72 : decode prog_6_method_1_code 72 = .ok (.newarray .int, 2) := by decide +kernel
theorem d_Quern_init_74 : decode prog_6_method_1_code 74 = .ok (.putfield 35, 3) := by decide +kernel
theorem kl_Quern_35 : Cond.fieldLink "QuernGrains$Quern" 35 "QuernGrains$Quern" "washed" "[I" ∈ zT := zT_in (List.mem_of_getElem? (i := 196) (by decide +kernel)) (by decide +kernel)
theorem d_Quern_init_77 : decode prog_6_method_1_code 77 = .ok (.aload_n 0, 1) := by decide +kernel
theorem d_Quern_init_78 : decode prog_6_method_1_code 78 = .ok (.iconst 4, 1) := by decide +kernel
theorem d_Quern_init_79 : decode prog_6_method_1_code 79 = .ok (.newarray .int, 2) := by decide +kernel
theorem d_Quern_init_81 : decode prog_6_method_1_code 81 = .ok (.putfield 38, 3) := by decide +kernel
theorem kl_Quern_38 : Cond.fieldLink "QuernGrains$Quern" 38 "QuernGrains$Quern" "hours" "[I" ∈ zT := zT_in (List.mem_of_getElem? (i := 197) (by decide +kernel)) (by decide +kernel)
theorem d_Quern_init_84 : decode prog_6_method_1_code 84 = .ok (.aload_n 0, 1) := by decide +kernel
theorem d_Quern_init_85 : decode prog_6_method_1_code 85 = .ok (.bipush 6, 2) := by decide +kernel
theorem d_Quern_init_87 : decode prog_6_method_1_code 87 = .ok (.bipush 6, 2) := by decide +kernel
theorem d_Quern_init_89 : decode prog_6_method_1_code 89 = .ok (.multianewarray 9 2, 4) := by decide +kernel
theorem d_Quern_init_93 : decode prog_6_method_1_code 93 = .ok (.putfield 41, 3) := by decide +kernel
theorem kl_Quern_41 : Cond.fieldLink "QuernGrains$Quern" 41 "QuernGrains$Quern" "slipping" "[[I" ∈ zT := zT_in (List.mem_of_getElem? (i := 199) (by decide +kernel)) (by decide +kernel)
theorem d_Quern_init_96 : decode prog_6_method_1_code 96 = .ok (.return_, 1) := by decide +kernel
theorem kcode_Main : Cond.code y_Main_init prog_1_method_1_code 2 none ∈ zT := zT_in (List.mem_of_getElem? (i := 67) (by decide +kernel)) (by decide +kernel)
theorem kinst_Main : Cond.instanceMethod y_Main_init ∈ zT := zT_in (List.mem_of_getElem? (i := 66) (by decide +kernel)) (by decide +kernel)
theorem kini_Main : Cond.initialized "QuernGrains" ∈ zT := zT_in (List.mem_of_getElem? (i := 50) (by decide +kernel)) (by decide +kernel)
theorem kmake_Main : Cond.instantiable "QuernGrains" 9 ∈ zT := zT_in (List.mem_of_getElem? (i := 64) (by decide +kernel)) (by decide +kernel)
theorem d_Main_init_0 : decode prog_1_method_1_code 0 = .ok (.aload_n 0, 1) := by decide +kernel
theorem d_Main_init_1 : decode prog_1_method_1_code 1 = .ok (.invokespecial 1, 3) := by decide +kernel
theorem kob_Main : Cond.methodLink "QuernGrains" 1 Lib.objectInit ∈ zT := zT_in (List.mem_of_getElem? (i := 68) (by decide +kernel)) (by decide +kernel)
theorem d_Main_init_4 : decode prog_1_method_1_code 4 = .ok (.aload_n 0, 1) := by decide +kernel
theorem d_Main_init_5 : decode prog_1_method_1_code 5 = .ok (.new 7, 3) := by decide +kernel
theorem kcl_Main_7 : Cond.classLink "QuernGrains" 7 "QuernGrains$Text" ∈ zT := zT_in (List.mem_of_getElem? (i := 71) (by decide +kernel)) (by decide +kernel)
theorem d_Main_init_8 : decode prog_1_method_1_code 8 = .ok (.dup, 1) := by decide +kernel
theorem d_Main_init_9 : decode prog_1_method_1_code 9 = .ok (.invokespecial 9, 3) := by decide +kernel
theorem kn_Main_9 : Cond.methodLinkNest "QuernGrains" 9 y_Text_init "QuernGrains" ∈ z_nest := by decide +kernel
theorem d_Main_init_12 : decode prog_1_method_1_code 12 = .ok (.putfield 10, 3) := by decide +kernel
theorem kl_Main_10 : Cond.fieldLink "QuernGrains" 10 "QuernGrains" "text" "LQuernGrains$Text;" ∈ zT := zT_in (List.mem_of_getElem? (i := 231) (by decide +kernel)) (by decide +kernel)
theorem d_Main_init_15 : decode prog_1_method_1_code 15 = .ok (.aload_n 0, 1) := by decide +kernel
theorem d_Main_init_16 : decode prog_1_method_1_code 16 = .ok (.new 16, 3) := by decide +kernel
theorem kcl_Main_16 : Cond.classLink "QuernGrains" 16 "QuernGrains$Scribe" ∈ zT := zT_in (List.mem_of_getElem? (i := 87) (by decide +kernel)) (by decide +kernel)
theorem d_Main_init_19 : decode prog_1_method_1_code 19 = .ok (.dup, 1) := by decide +kernel
theorem d_Main_init_20 : decode prog_1_method_1_code 20 = .ok (.invokespecial 18, 3) := by decide +kernel
theorem kn_Main_18 : Cond.methodLinkNest "QuernGrains" 18 y_Scribe_init "QuernGrains" ∈ z_nest := by decide +kernel
theorem d_Main_init_23 : decode prog_1_method_1_code 23 = .ok (.putfield 19, 3) := by decide +kernel
theorem kl_Main_19 : Cond.fieldLink "QuernGrains" 19 "QuernGrains" "scribe" "LQuernGrains$Scribe;" ∈ zT := zT_in (List.mem_of_getElem? (i := 232) (by decide +kernel)) (by decide +kernel)
theorem d_Main_init_26 : decode prog_1_method_1_code 26 = .ok (.aload_n 0, 1) := by decide +kernel
theorem d_Main_init_27 : decode prog_1_method_1_code 27 = .ok (.new 23, 3) := by decide +kernel
theorem kcl_Main_23 : Cond.classLink "QuernGrains" 23 "QuernGrains$Books" ∈ zT := zT_in (List.mem_of_getElem? (i := 97) (by decide +kernel)) (by decide +kernel)
theorem d_Main_init_30 : decode prog_1_method_1_code 30 = .ok (.dup, 1) := by decide +kernel
theorem d_Main_init_31 : decode prog_1_method_1_code 31 = .ok (.invokespecial 25, 3) := by decide +kernel
theorem kn_Main_25 : Cond.methodLinkNest "QuernGrains" 25 y_Books_init "QuernGrains" ∈ z_nest := by decide +kernel
theorem d_Main_init_34 : decode prog_1_method_1_code 34 = .ok (.putfield 26, 3) := by decide +kernel
theorem kl_Main_26 : Cond.fieldLink "QuernGrains" 26 "QuernGrains" "fitting" "LQuernGrains$Books;" ∈ zT := zT_in (List.mem_of_getElem? (i := 233) (by decide +kernel)) (by decide +kernel)
theorem d_Main_init_37 : decode prog_1_method_1_code 37 = .ok (.aload_n 0, 1) := by decide +kernel
theorem d_Main_init_38 : decode prog_1_method_1_code 38 = .ok (.new 30, 3) := by decide +kernel
theorem kcl_Main_30 : Cond.classLink "QuernGrains" 30 "QuernGrains$Heap" ∈ zT := zT_in (List.mem_of_getElem? (i := 128) (by decide +kernel)) (by decide +kernel)
theorem d_Main_init_41 : decode prog_1_method_1_code 41 = .ok (.dup, 1) := by decide +kernel
theorem d_Main_init_42 : decode prog_1_method_1_code 42 = .ok (.invokespecial 32, 3) := by decide +kernel
theorem kn_Main_32 : Cond.methodLinkNest "QuernGrains" 32 y_Heap_init "QuernGrains" ∈ z_nest := by decide +kernel
theorem d_Main_init_45 : decode prog_1_method_1_code 45 = .ok (.putfield 33, 3) := by decide +kernel
theorem kl_Main_33 : Cond.fieldLink "QuernGrains" 33 "QuernGrains" "waveHeap" "LQuernGrains$Heap;" ∈ zT := zT_in (List.mem_of_getElem? (i := 234) (by decide +kernel)) (by decide +kernel)
theorem d_Main_init_48 : decode prog_1_method_1_code 48 = .ok (.aload_n 0, 1) := by decide +kernel
theorem d_Main_init_49 : decode prog_1_method_1_code 49 = .ok (.new 37, 3) := by decide +kernel
theorem kcl_Main_37 : Cond.classLink "QuernGrains" 37 "QuernGrains$Finds" ∈ zT := zT_in (List.mem_of_getElem? (i := 138) (by decide +kernel)) (by decide +kernel)
theorem d_Main_init_52 : decode prog_1_method_1_code 52 = .ok (.dup, 1) := by decide +kernel
theorem d_Main_init_53 : decode prog_1_method_1_code 53 = .ok (.invokespecial 39, 3) := by decide +kernel
theorem kn_Main_39 : Cond.methodLinkNest "QuernGrains" 39 y_Finds_init "QuernGrains" ∈ z_nest := by decide +kernel
theorem d_Main_init_56 : decode prog_1_method_1_code 56 = .ok (.putfield 40, 3) := by decide +kernel
theorem kl_Main_40 : Cond.fieldLink "QuernGrains" 40 "QuernGrains" "finds" "LQuernGrains$Finds;" ∈ zT := zT_in (List.mem_of_getElem? (i := 235) (by decide +kernel)) (by decide +kernel)
theorem d_Main_init_59 : decode prog_1_method_1_code 59 = .ok (.aload_n 0, 1) := by decide +kernel
theorem d_Main_init_60 : decode prog_1_method_1_code 60 = .ok (.iconst 2, 1) := by decide +kernel
theorem d_Main_init_61 : decode prog_1_method_1_code 61 = .ok (.anewarray 37, 3) := by decide +kernel
theorem d_Main_init_64 : decode prog_1_method_1_code 64 = .ok (.putfield 44, 3) := by decide +kernel
theorem kl_Main_44 : Cond.fieldLink "QuernGrains" 44 "QuernGrains" "kept" "[LQuernGrains$Finds;" ∈ zT := zT_in (List.mem_of_getElem? (i := 236) (by decide +kernel)) (by decide +kernel)
theorem d_Main_init_67 : decode prog_1_method_1_code 67 = .ok (.aload_n 0, 1) := by decide +kernel
theorem d_Main_init_68 : decode prog_1_method_1_code 68 = .ok (.new 48, 3) := by decide +kernel
theorem kcl_Main_48 : Cond.classLink "QuernGrains" 48 "QuernGrains$Quern" ∈ zT := zT_in (List.mem_of_getElem? (i := 169) (by decide +kernel)) (by decide +kernel)
theorem d_Main_init_71 : decode prog_1_method_1_code 71 = .ok (.dup, 1) := by decide +kernel
theorem d_Main_init_72 : decode prog_1_method_1_code 72 = .ok (.invokespecial 50, 3) := by decide +kernel
theorem kn_Main_50 : Cond.methodLinkNest "QuernGrains" 50 y_Quern_init "QuernGrains" ∈ z_nest := by decide +kernel
theorem d_Main_init_75 : decode prog_1_method_1_code 75 = .ok (.putfield 51, 3) := by decide +kernel
theorem kl_Main_51 : Cond.fieldLink "QuernGrains" 51 "QuernGrains" "laid" "LQuernGrains$Quern;" ∈ zT := zT_in (List.mem_of_getElem? (i := 238) (by decide +kernel)) (by decide +kernel)
theorem d_Main_init_78 : decode prog_1_method_1_code 78 = .ok (.aload_n 0, 1) := by decide +kernel
theorem d_Main_init_79 : decode prog_1_method_1_code 79 = .ok (.new 48, 3) := by decide +kernel
theorem d_Main_init_82 : decode prog_1_method_1_code 82 = .ok (.dup, 1) := by decide +kernel
theorem d_Main_init_83 : decode prog_1_method_1_code 83 = .ok (.invokespecial 50, 3) := by decide +kernel
theorem d_Main_init_86 : decode prog_1_method_1_code 86 = .ok (.putfield 55, 3) := by decide +kernel
theorem kl_Main_55 : Cond.fieldLink "QuernGrains" 55 "QuernGrains" "spare" "LQuernGrains$Quern;" ∈ zT := zT_in (List.mem_of_getElem? (i := 239) (by decide +kernel)) (by decide +kernel)
theorem d_Main_init_89 : decode prog_1_method_1_code 89 = .ok (.iconst 0, 1) := by decide +kernel
theorem d_Main_init_90 : decode prog_1_method_1_code 90 = .ok (.istore_n 1, 1) := by decide +kernel
theorem d_Main_init_91 : decode prog_1_method_1_code 91 = .ok (.iload_n 1, 1) := by decide +kernel
theorem d_Main_init_92 : decode prog_1_method_1_code 92 = .ok (.iconst 2, 1) := by decide +kernel
theorem d_Main_init_93 : decode prog_1_method_1_code 93 = .ok (.if_icmp .ge 22, 3) := by decide +kernel
theorem d_Main_init_96 : decode prog_1_method_1_code 96 = .ok (.aload_n 0, 1) := by decide +kernel
theorem d_Main_init_97 : decode prog_1_method_1_code 97 = .ok (.getfield 44, 3) := by decide +kernel
theorem d_Main_init_100 : decode prog_1_method_1_code 100 = .ok (.iload_n 1, 1) := by decide +kernel
theorem d_Main_init_101 : decode prog_1_method_1_code 101 = .ok (.new 37, 3) := by decide +kernel
theorem d_Main_init_104 : decode prog_1_method_1_code 104 = .ok (.dup, 1) := by decide +kernel
theorem d_Main_init_105 : decode prog_1_method_1_code 105 = .ok (.invokespecial 39, 3) := by decide +kernel
theorem d_Main_init_108 : decode prog_1_method_1_code 108 = .ok (.aastore, 1) := by decide +kernel
theorem d_Main_init_109 : decode prog_1_method_1_code 109 = .ok (.iinc 1 1, 3) := by decide +kernel
theorem d_Main_init_112 : decode prog_1_method_1_code 112 = .ok (.goto (-21), 3) := by decide +kernel
theorem d_Main_init_115 : decode prog_1_method_1_code 115 = .ok (.aload_n 0, 1) := by decide +kernel
theorem d_Main_init_116 : decode prog_1_method_1_code 116 = .ok (.getfield 51, 3) := by decide +kernel
theorem d_Main_init_119 : decode prog_1_method_1_code 119 = .ok (.invokevirtual 58, 3) := by decide +kernel
theorem d_Main_init_122 : decode prog_1_method_1_code 122 = .ok (.return_, 1) := by decide +kernel
theorem kcode_Model : Cond.code y_Model_init prog_10_method_1_code 1 none ∈ zT := zT_in (List.mem_of_getElem? (i := 682) (by decide +kernel)) (by decide +kernel)
theorem kinst_Model : Cond.instanceMethod y_Model_init ∈ zT := zT_in (List.mem_of_getElem? (i := 681) (by decide +kernel)) (by decide +kernel)
theorem kini_Model : Cond.initialized "QuernGrainsModel" ∈ zT := zT_in (List.mem_of_getElem? (i := 57) (by decide +kernel)) (by decide +kernel)
theorem kmake_Model : Cond.instantiable "QuernGrainsModel" 25 ∈ zT := zT_in (List.mem_of_getElem? (i := 679) (by decide +kernel)) (by decide +kernel)
theorem d_Model_init_0 : decode prog_10_method_1_code 0 = .ok (.aload_n 0, 1) := by decide +kernel
theorem d_Model_init_1 : decode prog_10_method_1_code 1 = .ok (.invokespecial 1, 3) := by decide +kernel
theorem kob_Model : Cond.methodLink "QuernGrainsModel" 1 Lib.objectInit ∈ zT := zT_in (List.mem_of_getElem? (i := 683) (by decide +kernel)) (by decide +kernel)
theorem d_Model_init_4 : decode prog_10_method_1_code 4 = .ok (.aload_n 0, 1) := by decide +kernel
theorem d_Model_init_5 : decode prog_10_method_1_code 5 = .ok (.sipush 500, 3) := by decide +kernel
theorem d_Model_init_8 : decode prog_10_method_1_code 8 = .ok (.newarray .int, 2) := by decide +kernel
theorem d_Model_init_10 : decode prog_10_method_1_code 10 = .ok (.putfield 7, 3) := by decide +kernel
theorem kl_Model_7 : Cond.fieldLink "QuernGrainsModel" 7 "QuernGrainsModel" "text" "[I" ∈ zT := zT_in (List.mem_of_getElem? (i := 689) (by decide +kernel)) (by decide +kernel)
theorem d_Model_init_13 : decode prog_10_method_1_code 13 = .ok (.aload_n 0, 1) := by decide +kernel
theorem d_Model_init_14 : decode prog_10_method_1_code 14 = .ok (.iconst 2, 1) := by decide +kernel
theorem d_Model_init_15 : decode prog_10_method_1_code 15 = .ok (.newarray .int, 2) := by decide +kernel
theorem d_Model_init_17 : decode prog_10_method_1_code 17 = .ok (.putfield 13, 3) := by decide +kernel
theorem kl_Model_13 : Cond.fieldLink "QuernGrainsModel" 13 "QuernGrainsModel" "sortMany" "[I" ∈ zT := zT_in (List.mem_of_getElem? (i := 690) (by decide +kernel)) (by decide +kernel)
theorem d_Model_init_20 : decode prog_10_method_1_code 20 = .ok (.aload_n 0, 1) := by decide +kernel
theorem d_Model_init_21 : decode prog_10_method_1_code 21 = .ok (.bipush 48, 2) := by decide +kernel
theorem d_Model_init_23 : decode prog_10_method_1_code 23 = .ok (.newarray .int, 2) := by decide +kernel
theorem d_Model_init_25 : decode prog_10_method_1_code 25 = .ok (.putfield 16, 3) := by decide +kernel
theorem kl_Model_16 : Cond.fieldLink "QuernGrainsModel" 16 "QuernGrainsModel" "waves" "[I" ∈ zT := zT_in (List.mem_of_getElem? (i := 691) (by decide +kernel)) (by decide +kernel)
theorem d_Model_init_28 : decode prog_10_method_1_code 28 = .ok (.aload_n 0, 1) := by decide +kernel
theorem d_Model_init_29 : decode prog_10_method_1_code 29 = .ok (.iconst 2, 1) := by decide +kernel
theorem d_Model_init_30 : decode prog_10_method_1_code 30 = .ok (.newarray .int, 2) := by decide +kernel
theorem d_Model_init_32 : decode prog_10_method_1_code 32 = .ok (.putfield 19, 3) := by decide +kernel
theorem kl_Model_19 : Cond.fieldLink "QuernGrainsModel" 19 "QuernGrainsModel" "faceMany" "[I" ∈ zT := zT_in (List.mem_of_getElem? (i := 692) (by decide +kernel)) (by decide +kernel)
theorem d_Model_init_35 : decode prog_10_method_1_code 35 = .ok (.aload_n 0, 1) := by decide +kernel
theorem d_Model_init_36 : decode prog_10_method_1_code 36 = .ok (.bipush 20, 2) := by decide +kernel
theorem d_Model_init_38 : decode prog_10_method_1_code 38 = .ok (.newarray .int, 2) := by decide +kernel
theorem d_Model_init_40 : decode prog_10_method_1_code 40 = .ok (.putfield 22, 3) := by decide +kernel
theorem kl_Model_22 : Cond.fieldLink "QuernGrainsModel" 22 "QuernGrainsModel" "stones" "[I" ∈ zT := zT_in (List.mem_of_getElem? (i := 693) (by decide +kernel)) (by decide +kernel)
theorem d_Model_init_43 : decode prog_10_method_1_code 43 = .ok (.aload_n 0, 1) := by decide +kernel
theorem d_Model_init_44 : decode prog_10_method_1_code 44 = .ok (.bipush 20, 2) := by decide +kernel
theorem d_Model_init_46 : decode prog_10_method_1_code 46 = .ok (.newarray .int, 2) := by decide +kernel
theorem d_Model_init_48 : decode prog_10_method_1_code 48 = .ok (.putfield 25, 3) := by decide +kernel
theorem kl_Model_25 : Cond.fieldLink "QuernGrainsModel" 25 "QuernGrainsModel" "kinds" "[I" ∈ zT := zT_in (List.mem_of_getElem? (i := 694) (by decide +kernel)) (by decide +kernel)
theorem d_Model_init_51 : decode prog_10_method_1_code 51 = .ok (.aload_n 0, 1) := by decide +kernel
theorem d_Model_init_52 : decode prog_10_method_1_code 52 = .ok (.bipush 20, 2) := by decide +kernel
theorem d_Model_init_54 : decode prog_10_method_1_code 54 = .ok (.newarray .int, 2) := by decide +kernel
theorem d_Model_init_56 : decode prog_10_method_1_code 56 = .ok (.putfield 28, 3) := by decide +kernel
theorem kl_Model_28 : Cond.fieldLink "QuernGrainsModel" 28 "QuernGrainsModel" "areas" "[I" ∈ zT := zT_in (List.mem_of_getElem? (i := 695) (by decide +kernel)) (by decide +kernel)
theorem d_Model_init_59 : decode prog_10_method_1_code 59 = .ok (.aload_n 0, 1) := by decide +kernel
theorem d_Model_init_60 : decode prog_10_method_1_code 60 = .ok (.bipush 20, 2) := by decide +kernel
theorem d_Model_init_62 : decode prog_10_method_1_code 62 = .ok (.newarray .int, 2) := by decide +kernel
theorem d_Model_init_64 : decode prog_10_method_1_code 64 = .ok (.putfield 31, 3) := by decide +kernel
theorem kl_Model_31 : Cond.fieldLink "QuernGrainsModel" 31 "QuernGrainsModel" "steps" "[I" ∈ zT := zT_in (List.mem_of_getElem? (i := 696) (by decide +kernel)) (by decide +kernel)
theorem d_Model_init_67 : decode prog_10_method_1_code 67 = .ok (.aload_n 0, 1) := by decide +kernel
theorem d_Model_init_68 : decode prog_10_method_1_code 68 = .ok (.bipush 120, 2) := by decide +kernel
theorem d_Model_init_70 : decode prog_10_method_1_code 70 = .ok (.newarray .int, 2) := by decide +kernel
theorem d_Model_init_72 : decode prog_10_method_1_code 72 = .ok (.putfield 34, 3) := by decide +kernel
theorem kl_Model_34 : Cond.fieldLink "QuernGrainsModel" 34 "QuernGrainsModel" "uses" "[I" ∈ zT := zT_in (List.mem_of_getElem? (i := 697) (by decide +kernel)) (by decide +kernel)
theorem d_Model_init_75 : decode prog_10_method_1_code 75 = .ok (.aload_n 0, 1) := by decide +kernel
theorem d_Model_init_76 : decode prog_10_method_1_code 76 = .ok (.bipush 48, 2) := by decide +kernel
theorem d_Model_init_78 : decode prog_10_method_1_code 78 = .ok (.newarray .int, 2) := by decide +kernel
theorem d_Model_init_80 : decode prog_10_method_1_code 80 = .ok (.putfield 37, 3) := by decide +kernel
theorem kl_Model_37 : Cond.fieldLink "QuernGrainsModel" 37 "QuernGrainsModel" "rains" "[I" ∈ zT := zT_in (List.mem_of_getElem? (i := 698) (by decide +kernel)) (by decide +kernel)
theorem d_Model_init_83 : decode prog_10_method_1_code 83 = .ok (.aload_n 0, 1) := by decide +kernel
theorem d_Model_init_84 : decode prog_10_method_1_code 84 = .ok (.bipush 8, 2) := by decide +kernel
theorem d_Model_init_86 : decode prog_10_method_1_code 86 = .ok (.newarray .int, 2) := by decide +kernel
theorem d_Model_init_88 : decode prog_10_method_1_code 88 = .ok (.putfield 40, 3) := by decide +kernel
theorem kl_Model_40 : Cond.fieldLink "QuernGrainsModel" 40 "QuernGrainsModel" "washes" "[I" ∈ zT := zT_in (List.mem_of_getElem? (i := 699) (by decide +kernel)) (by decide +kernel)
theorem d_Model_init_91 : decode prog_10_method_1_code 91 = .ok (.aload_n 0, 1) := by decide +kernel
theorem d_Model_init_92 : decode prog_10_method_1_code 92 = .ok (.bipush 8, 2) := by decide +kernel
theorem d_Model_init_94 : decode prog_10_method_1_code 94 = .ok (.newarray .int, 2) := by decide +kernel
theorem d_Model_init_96 : decode prog_10_method_1_code 96 = .ok (.putfield 43, 3) := by decide +kernel
theorem kl_Model_43 : Cond.fieldLink "QuernGrainsModel" 43 "QuernGrainsModel" "hours" "[I" ∈ zT := zT_in (List.mem_of_getElem? (i := 700) (by decide +kernel)) (by decide +kernel)
theorem d_Model_init_99 : decode prog_10_method_1_code 99 = .ok (.aload_n 0, 1) := by decide +kernel
theorem d_Model_init_100 : decode prog_10_method_1_code 100 = .ok (.bipush 8, 2) := by decide +kernel
theorem d_Model_init_102 : decode prog_10_method_1_code 102 = .ok (.newarray .int, 2) := by decide +kernel
theorem d_Model_init_104 : decode prog_10_method_1_code 104 = .ok (.putfield 46, 3) := by decide +kernel
theorem kl_Model_46 : Cond.fieldLink "QuernGrainsModel" 46 "QuernGrainsModel" "musts" "[I" ∈ zT := zT_in (List.mem_of_getElem? (i := 701) (by decide +kernel)) (by decide +kernel)
theorem d_Model_init_107 : decode prog_10_method_1_code 107 = .ok (.aload_n 0, 1) := by decide +kernel
theorem d_Model_init_108 : decode prog_10_method_1_code 108 = .ok (.bipush 72, 2) := by decide +kernel
theorem d_Model_init_110 : decode prog_10_method_1_code 110 = .ok (.newarray .int, 2) := by decide +kernel
theorem d_Model_init_112 : decode prog_10_method_1_code 112 = .ok (.putfield 49, 3) := by decide +kernel
theorem kl_Model_49 : Cond.fieldLink "QuernGrainsModel" 49 "QuernGrainsModel" "calls" "[I" ∈ zT := zT_in (List.mem_of_getElem? (i := 702) (by decide +kernel)) (by decide +kernel)
theorem d_Model_init_115 : decode prog_10_method_1_code 115 = .ok (.aload_n 0, 1) := by decide +kernel
theorem d_Model_init_116 : decode prog_10_method_1_code 116 = .ok (.sipush 180, 3) := by decide +kernel
theorem d_Model_init_119 : decode prog_10_method_1_code 119 = .ok (.newarray .int, 2) := by decide +kernel
theorem d_Model_init_121 : decode prog_10_method_1_code 121 = .ok (.putfield 52, 3) := by decide +kernel
theorem kl_Model_52 : Cond.fieldLink "QuernGrainsModel" 52 "QuernGrainsModel" "counts" "[I" ∈ zT := zT_in (List.mem_of_getElem? (i := 703) (by decide +kernel)) (by decide +kernel)
theorem d_Model_init_124 : decode prog_10_method_1_code 124 = .ok (.aload_n 0, 1) := by decide +kernel
theorem d_Model_init_125 : decode prog_10_method_1_code 125 = .ok (.bipush 30, 2) := by decide +kernel
theorem d_Model_init_127 : decode prog_10_method_1_code 127 = .ok (.newarray .int, 2) := by decide +kernel
theorem d_Model_init_129 : decode prog_10_method_1_code 129 = .ok (.putfield 55, 3) := by decide +kernel
theorem kl_Model_55 : Cond.fieldLink "QuernGrainsModel" 55 "QuernGrainsModel" "reads" "[I" ∈ zT := zT_in (List.mem_of_getElem? (i := 704) (by decide +kernel)) (by decide +kernel)
theorem d_Model_init_132 : decode prog_10_method_1_code 132 = .ok (.aload_n 0, 1) := by decide +kernel
theorem d_Model_init_133 : decode prog_10_method_1_code 133 = .ok (.bipush 108, 2) := by decide +kernel
theorem d_Model_init_135 : decode prog_10_method_1_code 135 = .ok (.newarray .int, 2) := by decide +kernel
theorem d_Model_init_137 : decode prog_10_method_1_code 137 = .ok (.putfield 58, 3) := by decide +kernel
theorem kl_Model_58 : Cond.fieldLink "QuernGrainsModel" 58 "QuernGrainsModel" "blinds" "[I" ∈ zT := zT_in (List.mem_of_getElem? (i := 705) (by decide +kernel)) (by decide +kernel)
theorem d_Model_init_140 : decode prog_10_method_1_code 140 = .ok (.aload_n 0, 1) := by decide +kernel
theorem d_Model_init_141 : decode prog_10_method_1_code 141 = .ok (.iconst 3, 1) := by decide +kernel
theorem d_Model_init_142 : decode prog_10_method_1_code 142 = .ok (.newarray .int, 2) := by decide +kernel
theorem d_Model_init_144 : decode prog_10_method_1_code 144 = .ok (.putfield 61, 3) := by decide +kernel
theorem kl_Model_61 : Cond.fieldLink "QuernGrainsModel" 61 "QuernGrainsModel" "shut" "[I" ∈ zT := zT_in (List.mem_of_getElem? (i := 706) (by decide +kernel)) (by decide +kernel)
theorem d_Model_init_147 : decode prog_10_method_1_code 147 = .ok (.aload_n 0, 1) := by decide +kernel
theorem d_Model_init_148 : decode prog_10_method_1_code 148 = .ok (.iconst 4, 1) := by decide +kernel
theorem d_Model_init_149 : decode prog_10_method_1_code 149 = .ok (.newarray .int, 2) := by decide +kernel
theorem d_Model_init_151 : decode prog_10_method_1_code 151 = .ok (.putfield 64, 3) := by decide +kernel
theorem kl_Model_64 : Cond.fieldLink "QuernGrainsModel" 64 "QuernGrainsModel" "told" "[I" ∈ zT := zT_in (List.mem_of_getElem? (i := 709) (by decide +kernel)) (by decide +kernel)
theorem d_Model_init_154 : decode prog_10_method_1_code 154 = .ok (.aload_n 0, 1) := by decide +kernel
theorem d_Model_init_155 : decode prog_10_method_1_code 155 = .ok (.iconst 4, 1) := by decide +kernel
theorem d_Model_init_156 : decode prog_10_method_1_code 156 = .ok (.newarray .int, 2) := by decide +kernel
theorem d_Model_init_158 : decode prog_10_method_1_code 158 = .ok (.putfield 67, 3) := by decide +kernel
theorem kl_Model_67 : Cond.fieldLink "QuernGrainsModel" 67 "QuernGrainsModel" "pile" "[I" ∈ zT := zT_in (List.mem_of_getElem? (i := 710) (by decide +kernel)) (by decide +kernel)
theorem d_Model_init_161 : decode prog_10_method_1_code 161 = .ok (.aload_n 0, 1) := by decide +kernel
theorem d_Model_init_162 : decode prog_10_method_1_code 162 = .ok (.bipush 6, 2) := by decide +kernel
theorem d_Model_init_164 : decode prog_10_method_1_code 164 = .ok (.newarray .int, 2) := by decide +kernel
theorem d_Model_init_166 : decode prog_10_method_1_code 166 = .ok (.putfield 70, 3) := by decide +kernel
theorem kl_Model_70 : Cond.fieldLink "QuernGrainsModel" 70 "QuernGrainsModel" "heads" "[I" ∈ zT := zT_in (List.mem_of_getElem? (i := 711) (by decide +kernel)) (by decide +kernel)
theorem d_Model_init_169 : decode prog_10_method_1_code 169 = .ok (.aload_n 0, 1) := by decide +kernel
theorem d_Model_init_170 : decode prog_10_method_1_code 170 = .ok (.iconst 4, 1) := by decide +kernel
theorem d_Model_init_171 : decode prog_10_method_1_code 171 = .ok (.newarray .int, 2) := by decide +kernel
theorem d_Model_init_173 : decode prog_10_method_1_code 173 = .ok (.putfield 73, 3) := by decide +kernel
theorem kl_Model_73 : Cond.fieldLink "QuernGrainsModel" 73 "QuernGrainsModel" "row" "[I" ∈ zT := zT_in (List.mem_of_getElem? (i := 712) (by decide +kernel)) (by decide +kernel)
theorem d_Model_init_176 : decode prog_10_method_1_code 176 = .ok (.aload_n 0, 1) := by decide +kernel
theorem d_Model_init_177 : decode prog_10_method_1_code 177 = .ok (.iconst 0, 1) := by decide +kernel
theorem d_Model_init_178 : decode prog_10_method_1_code 178 = .ok (.invokevirtual 76, 3) := by decide +kernel
theorem d_Model_init_181 : decode prog_10_method_1_code 181 = .ok (.aload_n 0, 1) := by decide +kernel
theorem d_Model_init_182 : decode prog_10_method_1_code 182 = .ok (.getfield 13, 3) := by decide +kernel
theorem d_Model_init_185 : decode prog_10_method_1_code 185 = .ok (.iconst 0, 1) := by decide +kernel
theorem d_Model_init_186 : decode prog_10_method_1_code 186 = .ok (.iconst 1, 1) := by decide +kernel
theorem d_Model_init_187 : decode prog_10_method_1_code 187 = .ok (.iastore, 1) := by decide +kernel
theorem d_Model_init_188 : decode prog_10_method_1_code 188 = .ok (.aload_n 0, 1) := by decide +kernel
theorem d_Model_init_189 : decode prog_10_method_1_code 189 = .ok (.getfield 16, 3) := by decide +kernel
theorem d_Model_init_192 : decode prog_10_method_1_code 192 = .ok (.iconst 0, 1) := by decide +kernel
theorem d_Model_init_193 : decode prog_10_method_1_code 193 = .ok (.bipush 100, 2) := by decide +kernel
theorem d_Model_init_195 : decode prog_10_method_1_code 195 = .ok (.iastore, 1) := by decide +kernel
theorem d_Model_init_196 : decode prog_10_method_1_code 196 = .ok (.aload_n 0, 1) := by decide +kernel
theorem d_Model_init_197 : decode prog_10_method_1_code 197 = .ok (.getfield 19, 3) := by decide +kernel
theorem d_Model_init_200 : decode prog_10_method_1_code 200 = .ok (.iconst 0, 1) := by decide +kernel
theorem d_Model_init_201 : decode prog_10_method_1_code 201 = .ok (.iconst 1, 1) := by decide +kernel
theorem d_Model_init_202 : decode prog_10_method_1_code 202 = .ok (.iastore, 1) := by decide +kernel
theorem d_Model_init_203 : decode prog_10_method_1_code 203 = .ok (.aload_n 0, 1) := by decide +kernel
theorem d_Model_init_204 : decode prog_10_method_1_code 204 = .ok (.getfield 28, 3) := by decide +kernel
theorem d_Model_init_207 : decode prog_10_method_1_code 207 = .ok (.iconst 0, 1) := by decide +kernel
theorem d_Model_init_208 : decode prog_10_method_1_code 208 = .ok (.iconst 1, 1) := by decide +kernel
theorem d_Model_init_209 : decode prog_10_method_1_code 209 = .ok (.iastore, 1) := by decide +kernel
theorem d_Model_init_210 : decode prog_10_method_1_code 210 = .ok (.return_, 1) := by decide +kernel
theorem kcl_Law_7 : Cond.classLink "QuernGrainsLaw" 7 "QuernGrains" ∈ zT := zT_in (List.mem_of_getElem? (i := 63) (by decide +kernel)) (by decide +kernel)
theorem kcl_Law_10 : Cond.classLink "QuernGrainsLaw" 10 "QuernGrainsModel" ∈ zT := zT_in (List.mem_of_getElem? (i := 678) (by decide +kernel)) (by decide +kernel)
theorem km_Law_Main : Cond.methodLink "QuernGrainsLaw" 9 y_Main_init ∈ zT := zT_in (List.mem_of_getElem? (i := 65) (by decide +kernel)) (by decide +kernel)
theorem km_Law_Model : Cond.methodLink "QuernGrainsLaw" 12 y_Model_init ∈ zT := zT_in (List.mem_of_getElem? (i := 680) (by decide +kernel)) (by decide +kernel)

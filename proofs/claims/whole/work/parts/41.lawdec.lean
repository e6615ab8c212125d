theorem kc_Law_13 : Cond.constantLong "QuernGrainsLaw" 13 (4294967295) ∈ zT := zT_in (List.mem_of_getElem? (i := 1025) (by decide +kernel)) (by decide +kernel)
theorem mk_Law_15 : zVt "QuernGrainsLaw" 15 y_Main_write prog_1_method_2_code 5 (some .int) 2 := ⟨zT_in (List.mem_of_getElem? (i := 259) (by decide +kernel)) (by decide +kernel), zT_in (List.mem_of_getElem? (i := 260) (by decide +kernel)) (by decide +kernel), zT_in (List.mem_of_getElem? (i := 261) (by decide +kernel)) (by decide +kernel), zT_in (List.mem_of_getElem? (i := 50) (by decide +kernel)) (by decide +kernel), zT_in (List.mem_of_getElem? (i := 262) (by decide +kernel)) (by decide +kernel), ⟨by decide +kernel, by decide +kernel, by decide +kernel⟩⟩
theorem mk_Law_19 : zVt "QuernGrainsLaw" 19 y_Model_write prog_10_method_5_code 5 (some .int) 2 := ⟨zT_in (List.mem_of_getElem? (i := 764) (by decide +kernel)) (by decide +kernel), zT_in (List.mem_of_getElem? (i := 765) (by decide +kernel)) (by decide +kernel), zT_in (List.mem_of_getElem? (i := 766) (by decide +kernel)) (by decide +kernel), zT_in (List.mem_of_getElem? (i := 57) (by decide +kernel)) (by decide +kernel), zT_in (List.mem_of_getElem? (i := 767) (by decide +kernel)) (by decide +kernel), ⟨by decide +kernel, by decide +kernel, by decide +kernel⟩⟩
theorem mk_Law_20 : zVt "QuernGrainsLaw" 20 y_Main_wipe prog_1_method_3_code 2 (some .int) 0 := ⟨zT_in (List.mem_of_getElem? (i := 270) (by decide +kernel)) (by decide +kernel), zT_in (List.mem_of_getElem? (i := 271) (by decide +kernel)) (by decide +kernel), zT_in (List.mem_of_getElem? (i := 272) (by decide +kernel)) (by decide +kernel), zT_in (List.mem_of_getElem? (i := 50) (by decide +kernel)) (by decide +kernel), zT_in (List.mem_of_getElem? (i := 273) (by decide +kernel)) (by decide +kernel), ⟨by decide +kernel, by decide +kernel, by decide +kernel⟩⟩
theorem mk_Law_24 : zVt "QuernGrainsLaw" 24 y_Model_wipe prog_10_method_6_code 2 (some .int) 0 := ⟨zT_in (List.mem_of_getElem? (i := 773) (by decide +kernel)) (by decide +kernel), zT_in (List.mem_of_getElem? (i := 774) (by decide +kernel)) (by decide +kernel), zT_in (List.mem_of_getElem? (i := 775) (by decide +kernel)) (by decide +kernel), zT_in (List.mem_of_getElem? (i := 57) (by decide +kernel)) (by decide +kernel), zT_in (List.mem_of_getElem? (i := 776) (by decide +kernel)) (by decide +kernel), ⟨by decide +kernel, by decide +kernel, by decide +kernel⟩⟩
theorem mk_Law_25 : zVt "QuernGrainsLaw" 25 y_Main_fault prog_1_method_4_code 1 (some .int) 0 := ⟨zT_in (List.mem_of_getElem? (i := 278) (by decide +kernel)) (by decide +kernel), zT_in (List.mem_of_getElem? (i := 279) (by decide +kernel)) (by decide +kernel), zT_in (List.mem_of_getElem? (i := 280) (by decide +kernel)) (by decide +kernel), zT_in (List.mem_of_getElem? (i := 50) (by decide +kernel)) (by decide +kernel), zT_in (List.mem_of_getElem? (i := 281) (by decide +kernel)) (by decide +kernel), ⟨by decide +kernel, by decide +kernel, by decide +kernel⟩⟩
theorem mk_Law_28 : zVt "QuernGrainsLaw" 28 y_Model_fault prog_10_method_14_code 1 (some .int) 0 := ⟨zT_in (List.mem_of_getElem? (i := 777) (by decide +kernel)) (by decide +kernel), zT_in (List.mem_of_getElem? (i := 778) (by decide +kernel)) (by decide +kernel), zT_in (List.mem_of_getElem? (i := 779) (by decide +kernel)) (by decide +kernel), zT_in (List.mem_of_getElem? (i := 57) (by decide +kernel)) (by decide +kernel), zT_in (List.mem_of_getElem? (i := 780) (by decide +kernel)) (by decide +kernel), ⟨by decide +kernel, by decide +kernel, by decide +kernel⟩⟩
theorem mk_Law_29 : zVt "QuernGrainsLaw" 29 y_Main_lay prog_1_method_5_code 2 (some .int) 0 := ⟨zT_in (List.mem_of_getElem? (i := 362) (by decide +kernel)) (by decide +kernel), zT_in (List.mem_of_getElem? (i := 363) (by decide +kernel)) (by decide +kernel), zT_in (List.mem_of_getElem? (i := 364) (by decide +kernel)) (by decide +kernel), zT_in (List.mem_of_getElem? (i := 50) (by decide +kernel)) (by decide +kernel), zT_in (List.mem_of_getElem? (i := 365) (by decide +kernel)) (by decide +kernel), ⟨by decide +kernel, by decide +kernel, by decide +kernel⟩⟩
theorem mk_Law_32 : zVt "QuernGrainsLaw" 32 y_Model_lay prog_10_method_15_code 2 (some .int) 0 := ⟨zT_in (List.mem_of_getElem? (i := 813) (by decide +kernel)) (by decide +kernel), zT_in (List.mem_of_getElem? (i := 814) (by decide +kernel)) (by decide +kernel), zT_in (List.mem_of_getElem? (i := 815) (by decide +kernel)) (by decide +kernel), zT_in (List.mem_of_getElem? (i := 57) (by decide +kernel)) (by decide +kernel), zT_in (List.mem_of_getElem? (i := 816) (by decide +kernel)) (by decide +kernel), ⟨by decide +kernel, by decide +kernel, by decide +kernel⟩⟩
theorem mk_Law_33 : zVt "QuernGrainsLaw" 33 y_Main_face prog_1_method_6_code 3 (some .int) 2 := ⟨zT_in (List.mem_of_getElem? (i := 371) (by decide +kernel)) (by decide +kernel), zT_in (List.mem_of_getElem? (i := 372) (by decide +kernel)) (by decide +kernel), zT_in (List.mem_of_getElem? (i := 373) (by decide +kernel)) (by decide +kernel), zT_in (List.mem_of_getElem? (i := 50) (by decide +kernel)) (by decide +kernel), zT_in (List.mem_of_getElem? (i := 374) (by decide +kernel)) (by decide +kernel), ⟨by decide +kernel, by decide +kernel, by decide +kernel⟩⟩
theorem mk_Law_37 : zVt "QuernGrainsLaw" 37 y_Model_face prog_10_method_18_code 3 (some .int) 2 := ⟨zT_in (List.mem_of_getElem? (i := 817) (by decide +kernel)) (by decide +kernel), zT_in (List.mem_of_getElem? (i := 818) (by decide +kernel)) (by decide +kernel), zT_in (List.mem_of_getElem? (i := 819) (by decide +kernel)) (by decide +kernel), zT_in (List.mem_of_getElem? (i := 57) (by decide +kernel)) (by decide +kernel), zT_in (List.mem_of_getElem? (i := 820) (by decide +kernel)) (by decide +kernel), ⟨by decide +kernel, by decide +kernel, by decide +kernel⟩⟩
theorem mk_Law_38 : zVt "QuernGrainsLaw" 38 y_Main_lies prog_1_method_7_code 4 (some .int) 3 := ⟨zT_in (List.mem_of_getElem? (i := 380) (by decide +kernel)) (by decide +kernel), zT_in (List.mem_of_getElem? (i := 381) (by decide +kernel)) (by decide +kernel), zT_in (List.mem_of_getElem? (i := 382) (by decide +kernel)) (by decide +kernel), zT_in (List.mem_of_getElem? (i := 50) (by decide +kernel)) (by decide +kernel), zT_in (List.mem_of_getElem? (i := 383) (by decide +kernel)) (by decide +kernel), ⟨by decide +kernel, by decide +kernel, by decide +kernel⟩⟩
theorem mk_Law_42 : zVt "QuernGrainsLaw" 42 y_Model_lies prog_10_method_21_code 4 (some .int) 3 := ⟨zT_in (List.mem_of_getElem? (i := 826) (by decide +kernel)) (by decide +kernel), zT_in (List.mem_of_getElem? (i := 827) (by decide +kernel)) (by decide +kernel), zT_in (List.mem_of_getElem? (i := 828) (by decide +kernel)) (by decide +kernel), zT_in (List.mem_of_getElem? (i := 57) (by decide +kernel)) (by decide +kernel), zT_in (List.mem_of_getElem? (i := 829) (by decide +kernel)) (by decide +kernel), ⟨by decide +kernel, by decide +kernel, by decide +kernel⟩⟩
theorem mk_Law_43 : zVt "QuernGrainsLaw" 43 y_Main_read prog_1_method_8_code 4 (some .int) 3 := ⟨zT_in (List.mem_of_getElem? (i := 394) (by decide +kernel)) (by decide +kernel), zT_in (List.mem_of_getElem? (i := 395) (by decide +kernel)) (by decide +kernel), zT_in (List.mem_of_getElem? (i := 396) (by decide +kernel)) (by decide +kernel), zT_in (List.mem_of_getElem? (i := 50) (by decide +kernel)) (by decide +kernel), zT_in (List.mem_of_getElem? (i := 397) (by decide +kernel)) (by decide +kernel), ⟨by decide +kernel, by decide +kernel, by decide +kernel⟩⟩
theorem mk_Law_46 : zVt "QuernGrainsLaw" 46 y_Model_read prog_10_method_24_code 9 (some .int) 3 := ⟨zT_in (List.mem_of_getElem? (i := 846) (by decide +kernel)) (by decide +kernel), zT_in (List.mem_of_getElem? (i := 847) (by decide +kernel)) (by decide +kernel), zT_in (List.mem_of_getElem? (i := 848) (by decide +kernel)) (by decide +kernel), zT_in (List.mem_of_getElem? (i := 57) (by decide +kernel)) (by decide +kernel), zT_in (List.mem_of_getElem? (i := 849) (by decide +kernel)) (by decide +kernel), ⟨by decide +kernel, by decide +kernel, by decide +kernel⟩⟩
theorem mk_Law_47 : zVt "QuernGrainsLaw" 47 y_Main_more prog_1_method_9_code 7 (some .long) 5 := ⟨zT_in (List.mem_of_getElem? (i := 415) (by decide +kernel)) (by decide +kernel), zT_in (List.mem_of_getElem? (i := 416) (by decide +kernel)) (by decide +kernel), zT_in (List.mem_of_getElem? (i := 417) (by decide +kernel)) (by decide +kernel), zT_in (List.mem_of_getElem? (i := 50) (by decide +kernel)) (by decide +kernel), zT_in (List.mem_of_getElem? (i := 418) (by decide +kernel)) (by decide +kernel), ⟨by decide +kernel, by decide +kernel, by decide +kernel⟩⟩
theorem mk_Law_51 : zVt "QuernGrainsLaw" 51 y_Model_more prog_10_method_28_code 15 (some .long) 5 := ⟨zT_in (List.mem_of_getElem? (i := 863) (by decide +kernel)) (by decide +kernel), zT_in (List.mem_of_getElem? (i := 864) (by decide +kernel)) (by decide +kernel), zT_in (List.mem_of_getElem? (i := 865) (by decide +kernel)) (by decide +kernel), zT_in (List.mem_of_getElem? (i := 57) (by decide +kernel)) (by decide +kernel), zT_in (List.mem_of_getElem? (i := 866) (by decide +kernel)) (by decide +kernel), ⟨by decide +kernel, by decide +kernel, by decide +kernel⟩⟩
theorem mk_Law_52 : zVt "QuernGrainsLaw" 52 y_Main_says prog_1_method_10_code 5 (some .int) 3 := ⟨zT_in (List.mem_of_getElem? (i := 433) (by decide +kernel)) (by decide +kernel), zT_in (List.mem_of_getElem? (i := 434) (by decide +kernel)) (by decide +kernel), zT_in (List.mem_of_getElem? (i := 435) (by decide +kernel)) (by decide +kernel), zT_in (List.mem_of_getElem? (i := 50) (by decide +kernel)) (by decide +kernel), zT_in (List.mem_of_getElem? (i := 436) (by decide +kernel)) (by decide +kernel), ⟨by decide +kernel, by decide +kernel, by decide +kernel⟩⟩
theorem mk_Law_55 : zVt "QuernGrainsLaw" 55 y_Model_says prog_10_method_30_code 5 (some .int) 3 := ⟨zT_in (List.mem_of_getElem? (i := 877) (by decide +kernel)) (by decide +kernel), zT_in (List.mem_of_getElem? (i := 878) (by decide +kernel)) (by decide +kernel), zT_in (List.mem_of_getElem? (i := 879) (by decide +kernel)) (by decide +kernel), zT_in (List.mem_of_getElem? (i := 57) (by decide +kernel)) (by decide +kernel), zT_in (List.mem_of_getElem? (i := 880) (by decide +kernel)) (by decide +kernel), ⟨by decide +kernel, by decide +kernel, by decide +kernel⟩⟩
theorem mk_Law_56 : zVt "QuernGrainsLaw" 56 y_Main_controls prog_1_method_11_code 5 (some .int) 3 := ⟨zT_in (List.mem_of_getElem? (i := 440) (by decide +kernel)) (by decide +kernel), zT_in (List.mem_of_getElem? (i := 441) (by decide +kernel)) (by decide +kernel), zT_in (List.mem_of_getElem? (i := 442) (by decide +kernel)) (by decide +kernel), zT_in (List.mem_of_getElem? (i := 50) (by decide +kernel)) (by decide +kernel), zT_in (List.mem_of_getElem? (i := 443) (by decide +kernel)) (by decide +kernel), ⟨by decide +kernel, by decide +kernel, by decide +kernel⟩⟩
theorem mk_Law_59 : zVt "QuernGrainsLaw" 59 y_Model_controls prog_10_method_31_code 5 (some .int) 3 := ⟨zT_in (List.mem_of_getElem? (i := 885) (by decide +kernel)) (by decide +kernel), zT_in (List.mem_of_getElem? (i := 886) (by decide +kernel)) (by decide +kernel), zT_in (List.mem_of_getElem? (i := 887) (by decide +kernel)) (by decide +kernel), zT_in (List.mem_of_getElem? (i := 57) (by decide +kernel)) (by decide +kernel), zT_in (List.mem_of_getElem? (i := 888) (by decide +kernel)) (by decide +kernel), ⟨by decide +kernel, by decide +kernel, by decide +kernel⟩⟩
theorem mk_Law_60 : zVt "QuernGrainsLaw" 60 y_Main_heap prog_1_method_12_code 10 (some .long) 6 := ⟨zT_in (List.mem_of_getElem? (i := 444) (by decide +kernel)) (by decide +kernel), zT_in (List.mem_of_getElem? (i := 445) (by decide +kernel)) (by decide +kernel), zT_in (List.mem_of_getElem? (i := 446) (by decide +kernel)) (by decide +kernel), zT_in (List.mem_of_getElem? (i := 50) (by decide +kernel)) (by decide +kernel), zT_in (List.mem_of_getElem? (i := 447) (by decide +kernel)) (by decide +kernel), ⟨by decide +kernel, by decide +kernel, by decide +kernel⟩⟩
theorem mk_Law_64 : zVt "QuernGrainsLaw" 64 y_Model_heap prog_10_method_34_code 11 (some .long) 6 := ⟨zT_in (List.mem_of_getElem? (i := 889) (by decide +kernel)) (by decide +kernel), zT_in (List.mem_of_getElem? (i := 890) (by decide +kernel)) (by decide +kernel), zT_in (List.mem_of_getElem? (i := 891) (by decide +kernel)) (by decide +kernel), zT_in (List.mem_of_getElem? (i := 57) (by decide +kernel)) (by decide +kernel), zT_in (List.mem_of_getElem? (i := 892) (by decide +kernel)) (by decide +kernel), ⟨by decide +kernel, by decide +kernel, by decide +kernel⟩⟩
theorem mk_Law_65 : zVt "QuernGrainsLaw" 65 y_Main_most prog_1_method_13_code 11 (some .int) 4 := ⟨zT_in (List.mem_of_getElem? (i := 463) (by decide +kernel)) (by decide +kernel), zT_in (List.mem_of_getElem? (i := 464) (by decide +kernel)) (by decide +kernel), zT_in (List.mem_of_getElem? (i := 465) (by decide +kernel)) (by decide +kernel), zT_in (List.mem_of_getElem? (i := 50) (by decide +kernel)) (by decide +kernel), zT_in (List.mem_of_getElem? (i := 466) (by decide +kernel)) (by decide +kernel), ⟨by decide +kernel, by decide +kernel, by decide +kernel⟩⟩
theorem mk_Law_69 : zVt "QuernGrainsLaw" 69 y_Model_most prog_10_method_35_code 7 (some .int) 4 := ⟨zT_in (List.mem_of_getElem? (i := 902) (by decide +kernel)) (by decide +kernel), zT_in (List.mem_of_getElem? (i := 903) (by decide +kernel)) (by decide +kernel), zT_in (List.mem_of_getElem? (i := 904) (by decide +kernel)) (by decide +kernel), zT_in (List.mem_of_getElem? (i := 57) (by decide +kernel)) (by decide +kernel), zT_in (List.mem_of_getElem? (i := 905) (by decide +kernel)) (by decide +kernel), ⟨by decide +kernel, by decide +kernel, by decide +kernel⟩⟩
theorem mk_Law_70 : zVt "QuernGrainsLaw" 70 y_Main_shares prog_1_method_14_code 7 (some .int) 6 := ⟨zT_in (List.mem_of_getElem? (i := 467) (by decide +kernel)) (by decide +kernel), zT_in (List.mem_of_getElem? (i := 468) (by decide +kernel)) (by decide +kernel), zT_in (List.mem_of_getElem? (i := 469) (by decide +kernel)) (by decide +kernel), zT_in (List.mem_of_getElem? (i := 50) (by decide +kernel)) (by decide +kernel), zT_in (List.mem_of_getElem? (i := 470) (by decide +kernel)) (by decide +kernel), ⟨by decide +kernel, by decide +kernel, by decide +kernel⟩⟩
theorem mk_Law_74 : zVt "QuernGrainsLaw" 74 y_Model_shares prog_10_method_36_code 14 (some .int) 6 := ⟨zT_in (List.mem_of_getElem? (i := 906) (by decide +kernel)) (by decide +kernel), zT_in (List.mem_of_getElem? (i := 907) (by decide +kernel)) (by decide +kernel), zT_in (List.mem_of_getElem? (i := 908) (by decide +kernel)) (by decide +kernel), zT_in (List.mem_of_getElem? (i := 57) (by decide +kernel)) (by decide +kernel), zT_in (List.mem_of_getElem? (i := 909) (by decide +kernel)) (by decide +kernel), ⟨by decide +kernel, by decide +kernel, by decide +kernel⟩⟩
theorem mk_Law_75 : zVt "QuernGrainsLaw" 75 y_Main_kin prog_1_method_15_code 3 (some .int) 2 := ⟨zT_in (List.mem_of_getElem? (i := 476) (by decide +kernel)) (by decide +kernel), zT_in (List.mem_of_getElem? (i := 477) (by decide +kernel)) (by decide +kernel), zT_in (List.mem_of_getElem? (i := 478) (by decide +kernel)) (by decide +kernel), zT_in (List.mem_of_getElem? (i := 50) (by decide +kernel)) (by decide +kernel), zT_in (List.mem_of_getElem? (i := 479) (by decide +kernel)) (by decide +kernel), ⟨by decide +kernel, by decide +kernel, by decide +kernel⟩⟩
theorem mk_Law_78 : zVt "QuernGrainsLaw" 78 y_Model_kin prog_10_method_39_code 6 (some .int) 2 := ⟨zT_in (List.mem_of_getElem? (i := 910) (by decide +kernel)) (by decide +kernel), zT_in (List.mem_of_getElem? (i := 911) (by decide +kernel)) (by decide +kernel), zT_in (List.mem_of_getElem? (i := 912) (by decide +kernel)) (by decide +kernel), zT_in (List.mem_of_getElem? (i := 57) (by decide +kernel)) (by decide +kernel), zT_in (List.mem_of_getElem? (i := 913) (by decide +kernel)) (by decide +kernel), ⟨by decide +kernel, by decide +kernel, by decide +kernel⟩⟩
theorem mk_Law_79 : zVt "QuernGrainsLaw" 79 y_Main_cooked prog_1_method_16_code 4 (some .int) 3 := ⟨zT_in (List.mem_of_getElem? (i := 508) (by decide +kernel)) (by decide +kernel), zT_in (List.mem_of_getElem? (i := 509) (by decide +kernel)) (by decide +kernel), zT_in (List.mem_of_getElem? (i := 510) (by decide +kernel)) (by decide +kernel), zT_in (List.mem_of_getElem? (i := 50) (by decide +kernel)) (by decide +kernel), zT_in (List.mem_of_getElem? (i := 511) (by decide +kernel)) (by decide +kernel), ⟨by decide +kernel, by decide +kernel, by decide +kernel⟩⟩
theorem mk_Law_82 : zVt "QuernGrainsLaw" 82 y_Model_cooked prog_10_method_40_code 8 (some .int) 3 := ⟨zT_in (List.mem_of_getElem? (i := 923) (by decide +kernel)) (by decide +kernel), zT_in (List.mem_of_getElem? (i := 924) (by decide +kernel)) (by decide +kernel), zT_in (List.mem_of_getElem? (i := 925) (by decide +kernel)) (by decide +kernel), zT_in (List.mem_of_getElem? (i := 57) (by decide +kernel)) (by decide +kernel), zT_in (List.mem_of_getElem? (i := 926) (by decide +kernel)) (by decide +kernel), ⟨by decide +kernel, by decide +kernel, by decide +kernel⟩⟩
theorem mk_Law_83 : zVt "QuernGrainsLaw" 83 y_Main_count prog_1_method_17_code 4 (some .int) 3 := ⟨zT_in (List.mem_of_getElem? (i := 517) (by decide +kernel)) (by decide +kernel), zT_in (List.mem_of_getElem? (i := 518) (by decide +kernel)) (by decide +kernel), zT_in (List.mem_of_getElem? (i := 519) (by decide +kernel)) (by decide +kernel), zT_in (List.mem_of_getElem? (i := 50) (by decide +kernel)) (by decide +kernel), zT_in (List.mem_of_getElem? (i := 520) (by decide +kernel)) (by decide +kernel), ⟨by decide +kernel, by decide +kernel, by decide +kernel⟩⟩
theorem mk_Law_86 : zVt "QuernGrainsLaw" 86 y_Model_count prog_10_method_41_code 5 (some .int) 3 := ⟨zT_in (List.mem_of_getElem? (i := 927) (by decide +kernel)) (by decide +kernel), zT_in (List.mem_of_getElem? (i := 928) (by decide +kernel)) (by decide +kernel), zT_in (List.mem_of_getElem? (i := 929) (by decide +kernel)) (by decide +kernel), zT_in (List.mem_of_getElem? (i := 57) (by decide +kernel)) (by decide +kernel), zT_in (List.mem_of_getElem? (i := 930) (by decide +kernel)) (by decide +kernel), ⟨by decide +kernel, by decide +kernel, by decide +kernel⟩⟩
theorem mk_Law_96 : zVt "QuernGrainsLaw" 96 y_Main_sure prog_1_method_20_code 3 (some .int) 2 := ⟨zT_in (List.mem_of_getElem? (i := 591) (by decide +kernel)) (by decide +kernel), zT_in (List.mem_of_getElem? (i := 592) (by decide +kernel)) (by decide +kernel), zT_in (List.mem_of_getElem? (i := 593) (by decide +kernel)) (by decide +kernel), zT_in (List.mem_of_getElem? (i := 50) (by decide +kernel)) (by decide +kernel), zT_in (List.mem_of_getElem? (i := 594) (by decide +kernel)) (by decide +kernel), ⟨by decide +kernel, by decide +kernel, by decide +kernel⟩⟩
theorem mk_Law_99 : zVt "QuernGrainsLaw" 99 y_Model_sure prog_10_method_49_code 3 (some .int) 2 := ⟨zT_in (List.mem_of_getElem? (i := 955) (by decide +kernel)) (by decide +kernel), zT_in (List.mem_of_getElem? (i := 956) (by decide +kernel)) (by decide +kernel), zT_in (List.mem_of_getElem? (i := 957) (by decide +kernel)) (by decide +kernel), zT_in (List.mem_of_getElem? (i := 57) (by decide +kernel)) (by decide +kernel), zT_in (List.mem_of_getElem? (i := 958) (by decide +kernel)) (by decide +kernel), ⟨by decide +kernel, by decide +kernel, by decide +kernel⟩⟩
theorem mk_Law_100 : zVt "QuernGrainsLaw" 100 y_Main_leave prog_1_method_21_code 4 (some .int) 2 := ⟨zT_in (List.mem_of_getElem? (i := 599) (by decide +kernel)) (by decide +kernel), zT_in (List.mem_of_getElem? (i := 600) (by decide +kernel)) (by decide +kernel), zT_in (List.mem_of_getElem? (i := 601) (by decide +kernel)) (by decide +kernel), zT_in (List.mem_of_getElem? (i := 50) (by decide +kernel)) (by decide +kernel), zT_in (List.mem_of_getElem? (i := 602) (by decide +kernel)) (by decide +kernel), ⟨by decide +kernel, by decide +kernel, by decide +kernel⟩⟩
theorem mk_Law_103 : zVt "QuernGrainsLaw" 103 y_Model_leave prog_10_method_50_code 11 (some .int) 2 := ⟨zT_in (List.mem_of_getElem? (i := 963) (by decide +kernel)) (by decide +kernel), zT_in (List.mem_of_getElem? (i := 964) (by decide +kernel)) (by decide +kernel), zT_in (List.mem_of_getElem? (i := 965) (by decide +kernel)) (by decide +kernel), zT_in (List.mem_of_getElem? (i := 57) (by decide +kernel)) (by decide +kernel), zT_in (List.mem_of_getElem? (i := 966) (by decide +kernel)) (by decide +kernel), ⟨by decide +kernel, by decide +kernel, by decide +kernel⟩⟩
theorem mk_Law_104 : zVt "QuernGrainsLaw" 104 y_Main_blind prog_1_method_22_code 3 (some .int) 2 := ⟨zT_in (List.mem_of_getElem? (i := 616) (by decide +kernel)) (by decide +kernel), zT_in (List.mem_of_getElem? (i := 617) (by decide +kernel)) (by decide +kernel), zT_in (List.mem_of_getElem? (i := 618) (by decide +kernel)) (by decide +kernel), zT_in (List.mem_of_getElem? (i := 50) (by decide +kernel)) (by decide +kernel), zT_in (List.mem_of_getElem? (i := 619) (by decide +kernel)) (by decide +kernel), ⟨by decide +kernel, by decide +kernel, by decide +kernel⟩⟩
theorem mk_Law_107 : zVt "QuernGrainsLaw" 107 y_Model_blind prog_10_method_53_code 3 (some .int) 2 := ⟨zT_in (List.mem_of_getElem? (i := 968) (by decide +kernel)) (by decide +kernel), zT_in (List.mem_of_getElem? (i := 969) (by decide +kernel)) (by decide +kernel), zT_in (List.mem_of_getElem? (i := 970) (by decide +kernel)) (by decide +kernel), zT_in (List.mem_of_getElem? (i := 57) (by decide +kernel)) (by decide +kernel), zT_in (List.mem_of_getElem? (i := 971) (by decide +kernel)) (by decide +kernel), ⟨by decide +kernel, by decide +kernel, by decide +kernel⟩⟩
theorem mk_Law_108 : zVt "QuernGrainsLaw" 108 y_Main_slips prog_1_method_23_code 5 (some .int) 3 := ⟨zT_in (List.mem_of_getElem? (i := 624) (by decide +kernel)) (by decide +kernel), zT_in (List.mem_of_getElem? (i := 625) (by decide +kernel)) (by decide +kernel), zT_in (List.mem_of_getElem? (i := 626) (by decide +kernel)) (by decide +kernel), zT_in (List.mem_of_getElem? (i := 50) (by decide +kernel)) (by decide +kernel), zT_in (List.mem_of_getElem? (i := 627) (by decide +kernel)) (by decide +kernel), ⟨by decide +kernel, by decide +kernel, by decide +kernel⟩⟩
theorem mk_Law_111 : zVt "QuernGrainsLaw" 111 y_Model_slips prog_10_method_54_code 6 (some .int) 3 := ⟨zT_in (List.mem_of_getElem? (i := 976) (by decide +kernel)) (by decide +kernel), zT_in (List.mem_of_getElem? (i := 977) (by decide +kernel)) (by decide +kernel), zT_in (List.mem_of_getElem? (i := 978) (by decide +kernel)) (by decide +kernel), zT_in (List.mem_of_getElem? (i := 57) (by decide +kernel)) (by decide +kernel), zT_in (List.mem_of_getElem? (i := 979) (by decide +kernel)) (by decide +kernel), ⟨by decide +kernel, by decide +kernel, by decide +kernel⟩⟩
theorem mk_Law_112 : zVt "QuernGrainsLaw" 112 y_Main_lean prog_1_method_24_code 2 (some .int) 1 := ⟨zT_in (List.mem_of_getElem? (i := 632) (by decide +kernel)) (by decide +kernel), zT_in (List.mem_of_getElem? (i := 633) (by decide +kernel)) (by decide +kernel), zT_in (List.mem_of_getElem? (i := 634) (by decide +kernel)) (by decide +kernel), zT_in (List.mem_of_getElem? (i := 50) (by decide +kernel)) (by decide +kernel), zT_in (List.mem_of_getElem? (i := 635) (by decide +kernel)) (by decide +kernel), ⟨by decide +kernel, by decide +kernel, by decide +kernel⟩⟩
theorem mk_Law_116 : zVt "QuernGrainsLaw" 116 y_Model_lean prog_10_method_55_code 2 (some .int) 1 := ⟨zT_in (List.mem_of_getElem? (i := 984) (by decide +kernel)) (by decide +kernel), zT_in (List.mem_of_getElem? (i := 985) (by decide +kernel)) (by decide +kernel), zT_in (List.mem_of_getElem? (i := 986) (by decide +kernel)) (by decide +kernel), zT_in (List.mem_of_getElem? (i := 57) (by decide +kernel)) (by decide +kernel), zT_in (List.mem_of_getElem? (i := 987) (by decide +kernel)) (by decide +kernel), ⟨by decide +kernel, by decide +kernel, by decide +kernel⟩⟩
theorem mk_Law_117 : zVt "QuernGrainsLaw" 117 y_Main_right prog_1_method_25_code 4 (some .int) 2 := ⟨zT_in (List.mem_of_getElem? (i := 640) (by decide +kernel)) (by decide +kernel), zT_in (List.mem_of_getElem? (i := 641) (by decide +kernel)) (by decide +kernel), zT_in (List.mem_of_getElem? (i := 642) (by decide +kernel)) (by decide +kernel), zT_in (List.mem_of_getElem? (i := 50) (by decide +kernel)) (by decide +kernel), zT_in (List.mem_of_getElem? (i := 643) (by decide +kernel)) (by decide +kernel), ⟨by decide +kernel, by decide +kernel, by decide +kernel⟩⟩
theorem mk_Law_120 : zVt "QuernGrainsLaw" 120 y_Model_right prog_10_method_56_code 4 (some .int) 2 := ⟨zT_in (List.mem_of_getElem? (i := 988) (by decide +kernel)) (by decide +kernel), zT_in (List.mem_of_getElem? (i := 989) (by decide +kernel)) (by decide +kernel), zT_in (List.mem_of_getElem? (i := 990) (by decide +kernel)) (by decide +kernel), zT_in (List.mem_of_getElem? (i := 57) (by decide +kernel)) (by decide +kernel), zT_in (List.mem_of_getElem? (i := 991) (by decide +kernel)) (by decide +kernel), ⟨by decide +kernel, by decide +kernel, by decide +kernel⟩⟩
theorem mk_Law_121 : zVt "QuernGrainsLaw" 121 y_Main_teeth prog_1_method_26_code 3 (some .int) 1 := ⟨zT_in (List.mem_of_getElem? (i := 644) (by decide +kernel)) (by decide +kernel), zT_in (List.mem_of_getElem? (i := 645) (by decide +kernel)) (by decide +kernel), zT_in (List.mem_of_getElem? (i := 646) (by decide +kernel)) (by decide +kernel), zT_in (List.mem_of_getElem? (i := 50) (by decide +kernel)) (by decide +kernel), zT_in (List.mem_of_getElem? (i := 647) (by decide +kernel)) (by decide +kernel), ⟨by decide +kernel, by decide +kernel, by decide +kernel⟩⟩
theorem mk_Law_124 : zVt "QuernGrainsLaw" 124 y_Model_teeth prog_10_method_57_code 3 (some .int) 1 := ⟨zT_in (List.mem_of_getElem? (i := 993) (by decide +kernel)) (by decide +kernel), zT_in (List.mem_of_getElem? (i := 994) (by decide +kernel)) (by decide +kernel), zT_in (List.mem_of_getElem? (i := 995) (by decide +kernel)) (by decide +kernel), zT_in (List.mem_of_getElem? (i := 57) (by decide +kernel)) (by decide +kernel), zT_in (List.mem_of_getElem? (i := 996) (by decide +kernel)) (by decide +kernel), ⟨by decide +kernel, by decide +kernel, by decide +kernel⟩⟩
theorem mk_Law_125 : zVt "QuernGrainsLaw" 125 y_Main_eaten prog_1_method_27_code 3 (some .int) 2 := ⟨zT_in (List.mem_of_getElem? (i := 648) (by decide +kernel)) (by decide +kernel), zT_in (List.mem_of_getElem? (i := 649) (by decide +kernel)) (by decide +kernel), zT_in (List.mem_of_getElem? (i := 650) (by decide +kernel)) (by decide +kernel), zT_in (List.mem_of_getElem? (i := 50) (by decide +kernel)) (by decide +kernel), zT_in (List.mem_of_getElem? (i := 651) (by decide +kernel)) (by decide +kernel), ⟨by decide +kernel, by decide +kernel, by decide +kernel⟩⟩
theorem mk_Law_128 : zVt "QuernGrainsLaw" 128 y_Model_eaten prog_10_method_58_code 3 (some .int) 2 := ⟨zT_in (List.mem_of_getElem? (i := 997) (by decide +kernel)) (by decide +kernel), zT_in (List.mem_of_getElem? (i := 998) (by decide +kernel)) (by decide +kernel), zT_in (List.mem_of_getElem? (i := 999) (by decide +kernel)) (by decide +kernel), zT_in (List.mem_of_getElem? (i := 57) (by decide +kernel)) (by decide +kernel), zT_in (List.mem_of_getElem? (i := 1000) (by decide +kernel)) (by decide +kernel), ⟨by decide +kernel, by decide +kernel, by decide +kernel⟩⟩
theorem mk_Law_129 : zVt "QuernGrainsLaw" 129 y_Main_next prog_1_method_28_code 5 (some .int) 0 := ⟨zT_in (List.mem_of_getElem? (i := 652) (by decide +kernel)) (by decide +kernel), zT_in (List.mem_of_getElem? (i := 653) (by decide +kernel)) (by decide +kernel), zT_in (List.mem_of_getElem? (i := 654) (by decide +kernel)) (by decide +kernel), zT_in (List.mem_of_getElem? (i := 50) (by decide +kernel)) (by decide +kernel), zT_in (List.mem_of_getElem? (i := 655) (by decide +kernel)) (by decide +kernel), ⟨by decide +kernel, by decide +kernel, by decide +kernel⟩⟩
theorem mk_Law_132 : zVt "QuernGrainsLaw" 132 y_Model_next prog_10_method_60_code 4 (some .int) 0 := ⟨zT_in (List.mem_of_getElem? (i := 1001) (by decide +kernel)) (by decide +kernel), zT_in (List.mem_of_getElem? (i := 1002) (by decide +kernel)) (by decide +kernel), zT_in (List.mem_of_getElem? (i := 1003) (by decide +kernel)) (by decide +kernel), zT_in (List.mem_of_getElem? (i := 57) (by decide +kernel)) (by decide +kernel), zT_in (List.mem_of_getElem? (i := 1004) (by decide +kernel)) (by decide +kernel), ⟨by decide +kernel, by decide +kernel, by decide +kernel⟩⟩
theorem mk_Law_133 : zVt "QuernGrainsLaw" 133 y_Main_keep prog_1_method_29_code 1 (some .int) 0 := ⟨zT_in (List.mem_of_getElem? (i := 660) (by decide +kernel)) (by decide +kernel), zT_in (List.mem_of_getElem? (i := 661) (by decide +kernel)) (by decide +kernel), zT_in (List.mem_of_getElem? (i := 662) (by decide +kernel)) (by decide +kernel), zT_in (List.mem_of_getElem? (i := 50) (by decide +kernel)) (by decide +kernel), zT_in (List.mem_of_getElem? (i := 663) (by decide +kernel)) (by decide +kernel), ⟨by decide +kernel, by decide +kernel, by decide +kernel⟩⟩
theorem mk_Law_136 : zVt "QuernGrainsLaw" 136 y_Model_keep prog_10_method_62_code 1 (some .int) 0 := ⟨zT_in (List.mem_of_getElem? (i := 1009) (by decide +kernel)) (by decide +kernel), zT_in (List.mem_of_getElem? (i := 1010) (by decide +kernel)) (by decide +kernel), zT_in (List.mem_of_getElem? (i := 1011) (by decide +kernel)) (by decide +kernel), zT_in (List.mem_of_getElem? (i := 57) (by decide +kernel)) (by decide +kernel), zT_in (List.mem_of_getElem? (i := 1012) (by decide +kernel)) (by decide +kernel), ⟨by decide +kernel, by decide +kernel, by decide +kernel⟩⟩
theorem mk_Law_137 : zVt "QuernGrainsLaw" 137 y_Main_back prog_1_method_30_code 1 (some .int) 0 := ⟨zT_in (List.mem_of_getElem? (i := 669) (by decide +kernel)) (by decide +kernel), zT_in (List.mem_of_getElem? (i := 670) (by decide +kernel)) (by decide +kernel), zT_in (List.mem_of_getElem? (i := 671) (by decide +kernel)) (by decide +kernel), zT_in (List.mem_of_getElem? (i := 50) (by decide +kernel)) (by decide +kernel), zT_in (List.mem_of_getElem? (i := 672) (by decide +kernel)) (by decide +kernel), ⟨by decide +kernel, by decide +kernel, by decide +kernel⟩⟩
theorem mk_Law_140 : zVt "QuernGrainsLaw" 140 y_Model_back prog_10_method_63_code 1 (some .int) 0 := ⟨zT_in (List.mem_of_getElem? (i := 1017) (by decide +kernel)) (by decide +kernel), zT_in (List.mem_of_getElem? (i := 1018) (by decide +kernel)) (by decide +kernel), zT_in (List.mem_of_getElem? (i := 1019) (by decide +kernel)) (by decide +kernel), zT_in (List.mem_of_getElem? (i := 57) (by decide +kernel)) (by decide +kernel), zT_in (List.mem_of_getElem? (i := 1020) (by decide +kernel)) (by decide +kernel), ⟨by decide +kernel, by decide +kernel, by decide +kernel⟩⟩
theorem mk_Law_141 : zVt "QuernGrainsLaw" 141 y_Main_size prog_1_method_31_code 2 (some .int) 1 := ⟨zT_in (List.mem_of_getElem? (i := 673) (by decide +kernel)) (by decide +kernel), zT_in (List.mem_of_getElem? (i := 674) (by decide +kernel)) (by decide +kernel), zT_in (List.mem_of_getElem? (i := 675) (by decide +kernel)) (by decide +kernel), zT_in (List.mem_of_getElem? (i := 50) (by decide +kernel)) (by decide +kernel), zT_in (List.mem_of_getElem? (i := 676) (by decide +kernel)) (by decide +kernel), ⟨by decide +kernel, by decide +kernel, by decide +kernel⟩⟩
theorem mk_Law_144 : zVt "QuernGrainsLaw" 144 y_Model_size prog_10_method_64_code 4 (some .int) 1 := ⟨zT_in (List.mem_of_getElem? (i := 1021) (by decide +kernel)) (by decide +kernel), zT_in (List.mem_of_getElem? (i := 1022) (by decide +kernel)) (by decide +kernel), zT_in (List.mem_of_getElem? (i := 1023) (by decide +kernel)) (by decide +kernel), zT_in (List.mem_of_getElem? (i := 57) (by decide +kernel)) (by decide +kernel), zT_in (List.mem_of_getElem? (i := 1024) (by decide +kernel)) (by decide +kernel), ⟨by decide +kernel, by decide +kernel, by decide +kernel⟩⟩
theorem mk_Law_87 : zVt "QuernGrainsLaw" 87 y_Main_books prog_1_method_18_code 5 (some .int) 4 := ⟨zT_in (List.mem_of_getElem? (i := 525) (by decide +kernel)) (by decide +kernel), zT_in (List.mem_of_getElem? (i := 526) (by decide +kernel)) (by decide +kernel), zT_in (List.mem_of_getElem? (i := 527) (by decide +kernel)) (by decide +kernel), zT_in (List.mem_of_getElem? (i := 50) (by decide +kernel)) (by decide +kernel), zT_in (List.mem_of_getElem? (i := 528) (by decide +kernel)) (by decide +kernel), ⟨by decide +kernel, by decide +kernel, by decide +kernel⟩⟩
theorem mk_Law_92 : zVt "QuernGrainsLaw" 92 y_Main_ground prog_1_method_19_code 5 (some .int) 4 := ⟨zT_in (List.mem_of_getElem? (i := 582) (by decide +kernel)) (by decide +kernel), zT_in (List.mem_of_getElem? (i := 583) (by decide +kernel)) (by decide +kernel), zT_in (List.mem_of_getElem? (i := 584) (by decide +kernel)) (by decide +kernel), zT_in (List.mem_of_getElem? (i := 50) (by decide +kernel)) (by decide +kernel), zT_in (List.mem_of_getElem? (i := 585) (by decide +kernel)) (by decide +kernel), ⟨by decide +kernel, by decide +kernel, by decide +kernel⟩⟩
theorem mk_Law_91 : zVt "QuernGrainsLaw" 91 y_Model_books prog_10_method_45_code 9 (some .int) 4 := ⟨zT_in (List.mem_of_getElem? (i := 932) (by decide +kernel)) (by decide +kernel), zT_in (List.mem_of_getElem? (i := 933) (by decide +kernel)) (by decide +kernel), zT_in (List.mem_of_getElem? (i := 934) (by decide +kernel)) (by decide +kernel), zT_in (List.mem_of_getElem? (i := 57) (by decide +kernel)) (by decide +kernel), zT_in (List.mem_of_getElem? (i := 935) (by decide +kernel)) (by decide +kernel), ⟨by decide +kernel, by decide +kernel, by decide +kernel⟩⟩
theorem mk_Law_95 : zVt "QuernGrainsLaw" 95 y_Model_ground prog_10_method_47_code 5 (some .int) 4 := ⟨zT_in (List.mem_of_getElem? (i := 947) (by decide +kernel)) (by decide +kernel), zT_in (List.mem_of_getElem? (i := 948) (by decide +kernel)) (by decide +kernel), zT_in (List.mem_of_getElem? (i := 949) (by decide +kernel)) (by decide +kernel), zT_in (List.mem_of_getElem? (i := 57) (by decide +kernel)) (by decide +kernel), zT_in (List.mem_of_getElem? (i := 950) (by decide +kernel)) (by decide +kernel), ⟨by decide +kernel, by decide +kernel, by decide +kernel⟩⟩
theorem d_Law_law_18 : decode code 18 = .ok (.iload_n 3, 1) := by decide +kernel
theorem d_Law_law_19 : decode code 19 = .ok (.aload_n 0, 1) := by decide +kernel
theorem d_Law_law_20 : decode code 20 = .ok (.arraylength, 1) := by decide +kernel
theorem d_Law_law_21 : decode code 21 = .ok (.bipush 7, 2) := by decide +kernel
theorem d_Law_law_23 : decode code 23 = .ok (.isub, 1) := by decide +kernel
theorem d_Law_law_24 : decode code 24 = .ok (.if_icmp .gt 1298, 3) := by decide +kernel
theorem d_Law_law_27 : decode code 27 = .ok (.aload_n 0, 1) := by decide +kernel
theorem d_Law_law_28 : decode code 28 = .ok (.iload_n 3, 1) := by decide +kernel
theorem d_Law_law_29 : decode code 29 = .ok (.iaload, 1) := by decide +kernel
theorem d_Law_law_30 : decode code 30 = .ok (.bipush 31, 2) := by decide +kernel
theorem d_Law_law_32 : decode code 32 = .ok (.iand, 1) := by decide +kernel
theorem d_Law_law_33 : decode code 33 = .ok (.tableswitch 1283 0 29 #[135, 198, 211, 224, 237, 270, 313, 356, 420, 463, 506, 582, 635, 710, 743, 786, 829, 898, 967, 1000, 1033, 1066, 1109, 1132, 1165, 1188, 1221, 1234, 1247, 1260], 135) := by decide +kernel
theorem d_Law_law_168 : decode code 168 = .ok (.aload_n 1, 1) := by decide +kernel
theorem d_Law_law_169 : decode code 169 = .ok (.aload_n 0, 1) := by decide +kernel
theorem d_Law_law_170 : decode code 170 = .ok (.iload_n 3, 1) := by decide +kernel
theorem d_Law_law_171 : decode code 171 = .ok (.iconst 1, 1) := by decide +kernel
theorem d_Law_law_172 : decode code 172 = .ok (.iadd, 1) := by decide +kernel
theorem d_Law_law_173 : decode code 173 = .ok (.iaload, 1) := by decide +kernel
theorem d_Law_law_174 : decode code 174 = .ok (.aload_n 0, 1) := by decide +kernel
theorem d_Law_law_175 : decode code 175 = .ok (.iload_n 3, 1) := by decide +kernel
theorem d_Law_law_176 : decode code 176 = .ok (.iconst 2, 1) := by decide +kernel
theorem d_Law_law_177 : decode code 177 = .ok (.iadd, 1) := by decide +kernel
theorem d_Law_law_178 : decode code 178 = .ok (.iaload, 1) := by decide +kernel
theorem d_Law_law_179 : decode code 179 = .ok (.i2l, 1) := by decide +kernel
theorem d_Law_law_180 : decode code 180 = .ok (.bipush 32, 2) := by decide +kernel
theorem d_Law_law_182 : decode code 182 = .ok (.lshl, 1) := by decide +kernel
theorem d_Law_law_183 : decode code 183 = .ok (.aload_n 0, 1) := by decide +kernel
theorem d_Law_law_184 : decode code 184 = .ok (.iload_n 3, 1) := by decide +kernel
theorem d_Law_law_185 : decode code 185 = .ok (.iconst 3, 1) := by decide +kernel
theorem d_Law_law_186 : decode code 186 = .ok (.iadd, 1) := by decide +kernel
theorem d_Law_law_187 : decode code 187 = .ok (.iaload, 1) := by decide +kernel
theorem d_Law_law_188 : decode code 188 = .ok (.i2l, 1) := by decide +kernel
theorem d_Law_law_189 : decode code 189 = .ok (.ldc2_w 13, 3) := by decide +kernel
theorem d_Law_law_192 : decode code 192 = .ok (.land, 1) := by decide +kernel
theorem d_Law_law_193 : decode code 193 = .ok (.lor, 1) := by decide +kernel
theorem d_Law_law_194 : decode code 194 = .ok (.invokevirtual 15, 3) := by decide +kernel
theorem d_Law_law_197 : decode code 197 = .ok (.aload_n 2, 1) := by decide +kernel
theorem d_Law_law_198 : decode code 198 = .ok (.aload_n 0, 1) := by decide +kernel
theorem d_Law_law_199 : decode code 199 = .ok (.iload_n 3, 1) := by decide +kernel
theorem d_Law_law_200 : decode code 200 = .ok (.iconst 1, 1) := by decide +kernel
theorem d_Law_law_201 : decode code 201 = .ok (.iadd, 1) := by decide +kernel
theorem d_Law_law_202 : decode code 202 = .ok (.iaload, 1) := by decide +kernel
theorem d_Law_law_203 : decode code 203 = .ok (.aload_n 0, 1) := by decide +kernel
theorem d_Law_law_204 : decode code 204 = .ok (.iload_n 3, 1) := by decide +kernel
theorem d_Law_law_205 : decode code 205 = .ok (.iconst 2, 1) := by decide +kernel
theorem d_Law_law_206 : decode code 206 = .ok (.iadd, 1) := by decide +kernel
theorem d_Law_law_207 : decode code 207 = .ok (.iaload, 1) := by decide +kernel
theorem d_Law_law_208 : decode code 208 = .ok (.i2l, 1) := by decide +kernel
theorem d_Law_law_209 : decode code 209 = .ok (.bipush 32, 2) := by decide +kernel
theorem d_Law_law_211 : decode code 211 = .ok (.lshl, 1) := by decide +kernel
theorem d_Law_law_212 : decode code 212 = .ok (.aload_n 0, 1) := by decide +kernel
theorem d_Law_law_213 : decode code 213 = .ok (.iload_n 3, 1) := by decide +kernel
theorem d_Law_law_214 : decode code 214 = .ok (.iconst 3, 1) := by decide +kernel
theorem d_Law_law_215 : decode code 215 = .ok (.iadd, 1) := by decide +kernel
theorem d_Law_law_216 : decode code 216 = .ok (.iaload, 1) := by decide +kernel
theorem d_Law_law_217 : decode code 217 = .ok (.i2l, 1) := by decide +kernel
theorem d_Law_law_218 : decode code 218 = .ok (.ldc2_w 13, 3) := by decide +kernel
theorem d_Law_law_221 : decode code 221 = .ok (.land, 1) := by decide +kernel
theorem d_Law_law_222 : decode code 222 = .ok (.lor, 1) := by decide +kernel
theorem d_Law_law_223 : decode code 223 = .ok (.invokevirtual 19, 3) := by decide +kernel
theorem d_Law_law_226 : decode code 226 = .ok (.if_icmp .eq 1090, 3) := by decide +kernel
theorem d_Law_law_229 : decode code 229 = .ok (.iconst 0, 1) := by decide +kernel
theorem d_Law_law_230 : decode code 230 = .ok (.ireturn, 1) := by decide +kernel
theorem d_Law_law_231 : decode code 231 = .ok (.aload_n 1, 1) := by decide +kernel
theorem d_Law_law_232 : decode code 232 = .ok (.invokevirtual 20, 3) := by decide +kernel
theorem d_Law_law_235 : decode code 235 = .ok (.aload_n 2, 1) := by decide +kernel
theorem d_Law_law_236 : decode code 236 = .ok (.invokevirtual 24, 3) := by decide +kernel
theorem d_Law_law_239 : decode code 239 = .ok (.if_icmp .eq 1077, 3) := by decide +kernel
theorem d_Law_law_242 : decode code 242 = .ok (.iconst 0, 1) := by decide +kernel
theorem d_Law_law_243 : decode code 243 = .ok (.ireturn, 1) := by decide +kernel
theorem d_Law_law_244 : decode code 244 = .ok (.aload_n 1, 1) := by decide +kernel
theorem d_Law_law_245 : decode code 245 = .ok (.invokevirtual 25, 3) := by decide +kernel
theorem d_Law_law_248 : decode code 248 = .ok (.aload_n 2, 1) := by decide +kernel
theorem d_Law_law_249 : decode code 249 = .ok (.invokevirtual 28, 3) := by decide +kernel
theorem d_Law_law_252 : decode code 252 = .ok (.if_icmp .eq 1064, 3) := by decide +kernel
theorem d_Law_law_255 : decode code 255 = .ok (.iconst 0, 1) := by decide +kernel
theorem d_Law_law_256 : decode code 256 = .ok (.ireturn, 1) := by decide +kernel
theorem d_Law_law_257 : decode code 257 = .ok (.aload_n 1, 1) := by decide +kernel
theorem d_Law_law_258 : decode code 258 = .ok (.invokevirtual 29, 3) := by decide +kernel
theorem d_Law_law_261 : decode code 261 = .ok (.aload_n 2, 1) := by decide +kernel
theorem d_Law_law_262 : decode code 262 = .ok (.invokevirtual 32, 3) := by decide +kernel
theorem d_Law_law_265 : decode code 265 = .ok (.if_icmp .eq 1051, 3) := by decide +kernel
theorem d_Law_law_268 : decode code 268 = .ok (.iconst 0, 1) := by decide +kernel
theorem d_Law_law_269 : decode code 269 = .ok (.ireturn, 1) := by decide +kernel
theorem d_Law_law_270 : decode code 270 = .ok (.aload_n 1, 1) := by decide +kernel
theorem d_Law_law_271 : decode code 271 = .ok (.aload_n 0, 1) := by decide +kernel
theorem d_Law_law_272 : decode code 272 = .ok (.iload_n 3, 1) := by decide +kernel
theorem d_Law_law_273 : decode code 273 = .ok (.iconst 1, 1) := by decide +kernel
theorem d_Law_law_274 : decode code 274 = .ok (.iadd, 1) := by decide +kernel
theorem d_Law_law_275 : decode code 275 = .ok (.iaload, 1) := by decide +kernel
theorem d_Law_law_276 : decode code 276 = .ok (.aload_n 0, 1) := by decide +kernel
theorem d_Law_law_277 : decode code 277 = .ok (.iload_n 3, 1) := by decide +kernel
theorem d_Law_law_278 : decode code 278 = .ok (.iconst 2, 1) := by decide +kernel
theorem d_Law_law_279 : decode code 279 = .ok (.iadd, 1) := by decide +kernel
theorem d_Law_law_280 : decode code 280 = .ok (.iaload, 1) := by decide +kernel
theorem d_Law_law_281 : decode code 281 = .ok (.invokevirtual 33, 3) := by decide +kernel
theorem d_Law_law_284 : decode code 284 = .ok (.aload_n 2, 1) := by decide +kernel
theorem d_Law_law_285 : decode code 285 = .ok (.aload_n 0, 1) := by decide +kernel
theorem d_Law_law_286 : decode code 286 = .ok (.iload_n 3, 1) := by decide +kernel
theorem d_Law_law_287 : decode code 287 = .ok (.iconst 1, 1) := by decide +kernel
theorem d_Law_law_288 : decode code 288 = .ok (.iadd, 1) := by decide +kernel
theorem d_Law_law_289 : decode code 289 = .ok (.iaload, 1) := by decide +kernel
theorem d_Law_law_290 : decode code 290 = .ok (.aload_n 0, 1) := by decide +kernel
theorem d_Law_law_291 : decode code 291 = .ok (.iload_n 3, 1) := by decide +kernel
theorem d_Law_law_292 : decode code 292 = .ok (.iconst 2, 1) := by decide +kernel
theorem d_Law_law_293 : decode code 293 = .ok (.iadd, 1) := by decide +kernel
theorem d_Law_law_294 : decode code 294 = .ok (.iaload, 1) := by decide +kernel
theorem d_Law_law_295 : decode code 295 = .ok (.invokevirtual 37, 3) := by decide +kernel
theorem d_Law_law_298 : decode code 298 = .ok (.if_icmp .eq 1018, 3) := by decide +kernel
theorem d_Law_law_301 : decode code 301 = .ok (.iconst 0, 1) := by decide +kernel
theorem d_Law_law_302 : decode code 302 = .ok (.ireturn, 1) := by decide +kernel
theorem d_Law_law_303 : decode code 303 = .ok (.aload_n 1, 1) := by decide +kernel
theorem d_Law_law_304 : decode code 304 = .ok (.aload_n 0, 1) := by decide +kernel
theorem d_Law_law_305 : decode code 305 = .ok (.iload_n 3, 1) := by decide +kernel
theorem d_Law_law_306 : decode code 306 = .ok (.iconst 1, 1) := by decide +kernel
theorem d_Law_law_307 : decode code 307 = .ok (.iadd, 1) := by decide +kernel
theorem d_Law_law_308 : decode code 308 = .ok (.iaload, 1) := by decide +kernel
theorem d_Law_law_309 : decode code 309 = .ok (.aload_n 0, 1) := by decide +kernel
theorem d_Law_law_310 : decode code 310 = .ok (.iload_n 3, 1) := by decide +kernel
theorem d_Law_law_311 : decode code 311 = .ok (.iconst 2, 1) := by decide +kernel
theorem d_Law_law_312 : decode code 312 = .ok (.iadd, 1) := by decide +kernel
theorem d_Law_law_313 : decode code 313 = .ok (.iaload, 1) := by decide +kernel
theorem d_Law_law_314 : decode code 314 = .ok (.aload_n 0, 1) := by decide +kernel
theorem d_Law_law_315 : decode code 315 = .ok (.iload_n 3, 1) := by decide +kernel
theorem d_Law_law_316 : decode code 316 = .ok (.iconst 3, 1) := by decide +kernel
theorem d_Law_law_317 : decode code 317 = .ok (.iadd, 1) := by decide +kernel
theorem d_Law_law_318 : decode code 318 = .ok (.iaload, 1) := by decide +kernel
theorem d_Law_law_319 : decode code 319 = .ok (.invokevirtual 38, 3) := by decide +kernel
theorem d_Law_law_322 : decode code 322 = .ok (.aload_n 2, 1) := by decide +kernel
theorem d_Law_law_323 : decode code 323 = .ok (.aload_n 0, 1) := by decide +kernel
theorem d_Law_law_324 : decode code 324 = .ok (.iload_n 3, 1) := by decide +kernel
theorem d_Law_law_325 : decode code 325 = .ok (.iconst 1, 1) := by decide +kernel
theorem d_Law_law_326 : decode code 326 = .ok (.iadd, 1) := by decide +kernel
theorem d_Law_law_327 : decode code 327 = .ok (.iaload, 1) := by decide +kernel
theorem d_Law_law_328 : decode code 328 = .ok (.aload_n 0, 1) := by decide +kernel
theorem d_Law_law_329 : decode code 329 = .ok (.iload_n 3, 1) := by decide +kernel
theorem d_Law_law_330 : decode code 330 = .ok (.iconst 2, 1) := by decide +kernel
theorem d_Law_law_331 : decode code 331 = .ok (.iadd, 1) := by decide +kernel
theorem d_Law_law_332 : decode code 332 = .ok (.iaload, 1) := by decide +kernel
theorem d_Law_law_333 : decode code 333 = .ok (.aload_n 0, 1) := by decide +kernel
theorem d_Law_law_334 : decode code 334 = .ok (.iload_n 3, 1) := by decide +kernel
theorem d_Law_law_335 : decode code 335 = .ok (.iconst 3, 1) := by decide +kernel
theorem d_Law_law_336 : decode code 336 = .ok (.iadd, 1) := by decide +kernel
theorem d_Law_law_337 : decode code 337 = .ok (.iaload, 1) := by decide +kernel
theorem d_Law_law_338 : decode code 338 = .ok (.invokevirtual 42, 3) := by decide +kernel
theorem d_Law_law_341 : decode code 341 = .ok (.if_icmp .eq 975, 3) := by decide +kernel
theorem d_Law_law_344 : decode code 344 = .ok (.iconst 0, 1) := by decide +kernel
theorem d_Law_law_345 : decode code 345 = .ok (.ireturn, 1) := by decide +kernel
theorem d_Law_law_346 : decode code 346 = .ok (.aload_n 1, 1) := by decide +kernel
theorem d_Law_law_347 : decode code 347 = .ok (.aload_n 0, 1) := by decide +kernel
theorem d_Law_law_348 : decode code 348 = .ok (.iload_n 3, 1) := by decide +kernel
theorem d_Law_law_349 : decode code 349 = .ok (.iconst 1, 1) := by decide +kernel
theorem d_Law_law_350 : decode code 350 = .ok (.iadd, 1) := by decide +kernel
theorem d_Law_law_351 : decode code 351 = .ok (.iaload, 1) := by decide +kernel
theorem d_Law_law_352 : decode code 352 = .ok (.aload_n 0, 1) := by decide +kernel
theorem d_Law_law_353 : decode code 353 = .ok (.iload_n 3, 1) := by decide +kernel
theorem d_Law_law_354 : decode code 354 = .ok (.iconst 2, 1) := by decide +kernel
theorem d_Law_law_355 : decode code 355 = .ok (.iadd, 1) := by decide +kernel
theorem d_Law_law_356 : decode code 356 = .ok (.iaload, 1) := by decide +kernel
theorem d_Law_law_357 : decode code 357 = .ok (.aload_n 0, 1) := by decide +kernel
theorem d_Law_law_358 : decode code 358 = .ok (.iload_n 3, 1) := by decide +kernel
theorem d_Law_law_359 : decode code 359 = .ok (.iconst 3, 1) := by decide +kernel
theorem d_Law_law_360 : decode code 360 = .ok (.iadd, 1) := by decide +kernel
theorem d_Law_law_361 : decode code 361 = .ok (.iaload, 1) := by decide +kernel
theorem d_Law_law_362 : decode code 362 = .ok (.invokevirtual 43, 3) := by decide +kernel
theorem d_Law_law_365 : decode code 365 = .ok (.aload_n 2, 1) := by decide +kernel
theorem d_Law_law_366 : decode code 366 = .ok (.aload_n 0, 1) := by decide +kernel
theorem d_Law_law_367 : decode code 367 = .ok (.iload_n 3, 1) := by decide +kernel
theorem d_Law_law_368 : decode code 368 = .ok (.iconst 1, 1) := by decide +kernel
theorem d_Law_law_369 : decode code 369 = .ok (.iadd, 1) := by decide +kernel
theorem d_Law_law_370 : decode code 370 = .ok (.iaload, 1) := by decide +kernel
theorem d_Law_law_371 : decode code 371 = .ok (.aload_n 0, 1) := by decide +kernel
theorem d_Law_law_372 : decode code 372 = .ok (.iload_n 3, 1) := by decide +kernel
theorem d_Law_law_373 : decode code 373 = .ok (.iconst 2, 1) := by decide +kernel
theorem d_Law_law_374 : decode code 374 = .ok (.iadd, 1) := by decide +kernel
theorem d_Law_law_375 : decode code 375 = .ok (.iaload, 1) := by decide +kernel
theorem d_Law_law_376 : decode code 376 = .ok (.aload_n 0, 1) := by decide +kernel
theorem d_Law_law_377 : decode code 377 = .ok (.iload_n 3, 1) := by decide +kernel
theorem d_Law_law_378 : decode code 378 = .ok (.iconst 3, 1) := by decide +kernel
theorem d_Law_law_379 : decode code 379 = .ok (.iadd, 1) := by decide +kernel
theorem d_Law_law_380 : decode code 380 = .ok (.iaload, 1) := by decide +kernel
theorem d_Law_law_381 : decode code 381 = .ok (.invokevirtual 46, 3) := by decide +kernel
theorem d_Law_law_384 : decode code 384 = .ok (.if_icmp .eq 932, 3) := by decide +kernel
theorem d_Law_law_387 : decode code 387 = .ok (.iconst 0, 1) := by decide +kernel
theorem d_Law_law_388 : decode code 388 = .ok (.ireturn, 1) := by decide +kernel
theorem d_Law_law_389 : decode code 389 = .ok (.aload_n 1, 1) := by decide +kernel
theorem d_Law_law_390 : decode code 390 = .ok (.aload_n 0, 1) := by decide +kernel
theorem d_Law_law_391 : decode code 391 = .ok (.iload_n 3, 1) := by decide +kernel
theorem d_Law_law_392 : decode code 392 = .ok (.iconst 1, 1) := by decide +kernel
theorem d_Law_law_393 : decode code 393 = .ok (.iadd, 1) := by decide +kernel
theorem d_Law_law_394 : decode code 394 = .ok (.iaload, 1) := by decide +kernel
theorem d_Law_law_395 : decode code 395 = .ok (.aload_n 0, 1) := by decide +kernel
theorem d_Law_law_396 : decode code 396 = .ok (.iload_n 3, 1) := by decide +kernel
theorem d_Law_law_397 : decode code 397 = .ok (.iconst 2, 1) := by decide +kernel
theorem d_Law_law_398 : decode code 398 = .ok (.iadd, 1) := by decide +kernel
theorem d_Law_law_399 : decode code 399 = .ok (.iaload, 1) := by decide +kernel
theorem d_Law_law_400 : decode code 400 = .ok (.aload_n 0, 1) := by decide +kernel
theorem d_Law_law_401 : decode code 401 = .ok (.iload_n 3, 1) := by decide +kernel
theorem d_Law_law_402 : decode code 402 = .ok (.iconst 3, 1) := by decide +kernel
theorem d_Law_law_403 : decode code 403 = .ok (.iadd, 1) := by decide +kernel
theorem d_Law_law_404 : decode code 404 = .ok (.iaload, 1) := by decide +kernel
theorem d_Law_law_405 : decode code 405 = .ok (.aload_n 0, 1) := by decide +kernel
theorem d_Law_law_406 : decode code 406 = .ok (.iload_n 3, 1) := by decide +kernel
theorem d_Law_law_407 : decode code 407 = .ok (.iconst 4, 1) := by decide +kernel
theorem d_Law_law_408 : decode code 408 = .ok (.iadd, 1) := by decide +kernel
theorem d_Law_law_409 : decode code 409 = .ok (.iaload, 1) := by decide +kernel
theorem d_Law_law_410 : decode code 410 = .ok (.aload_n 0, 1) := by decide +kernel
theorem d_Law_law_411 : decode code 411 = .ok (.iload_n 3, 1) := by decide +kernel
theorem d_Law_law_412 : decode code 412 = .ok (.iconst 5, 1) := by decide +kernel
theorem d_Law_law_413 : decode code 413 = .ok (.iadd, 1) := by decide +kernel
theorem d_Law_law_414 : decode code 414 = .ok (.iaload, 1) := by decide +kernel
theorem d_Law_law_415 : decode code 415 = .ok (.invokevirtual 47, 3) := by decide +kernel
theorem d_Law_law_418 : decode code 418 = .ok (.aload_n 2, 1) := by decide +kernel
theorem d_Law_law_419 : decode code 419 = .ok (.aload_n 0, 1) := by decide +kernel
theorem d_Law_law_420 : decode code 420 = .ok (.iload_n 3, 1) := by decide +kernel
theorem d_Law_law_421 : decode code 421 = .ok (.iconst 1, 1) := by decide +kernel
theorem d_Law_law_422 : decode code 422 = .ok (.iadd, 1) := by decide +kernel
theorem d_Law_law_423 : decode code 423 = .ok (.iaload, 1) := by decide +kernel
theorem d_Law_law_424 : decode code 424 = .ok (.aload_n 0, 1) := by decide +kernel
theorem d_Law_law_425 : decode code 425 = .ok (.iload_n 3, 1) := by decide +kernel
theorem d_Law_law_426 : decode code 426 = .ok (.iconst 2, 1) := by decide +kernel
theorem d_Law_law_427 : decode code 427 = .ok (.iadd, 1) := by decide +kernel
theorem d_Law_law_428 : decode code 428 = .ok (.iaload, 1) := by decide +kernel
theorem d_Law_law_429 : decode code 429 = .ok (.aload_n 0, 1) := by decide +kernel
theorem d_Law_law_430 : decode code 430 = .ok (.iload_n 3, 1) := by decide +kernel
theorem d_Law_law_431 : decode code 431 = .ok (.iconst 3, 1) := by decide +kernel
theorem d_Law_law_432 : decode code 432 = .ok (.iadd, 1) := by decide +kernel
theorem d_Law_law_433 : decode code 433 = .ok (.iaload, 1) := by decide +kernel
theorem d_Law_law_434 : decode code 434 = .ok (.aload_n 0, 1) := by decide +kernel
theorem d_Law_law_435 : decode code 435 = .ok (.iload_n 3, 1) := by decide +kernel
theorem d_Law_law_436 : decode code 436 = .ok (.iconst 4, 1) := by decide +kernel
theorem d_Law_law_437 : decode code 437 = .ok (.iadd, 1) := by decide +kernel
theorem d_Law_law_438 : decode code 438 = .ok (.iaload, 1) := by decide +kernel
theorem d_Law_law_439 : decode code 439 = .ok (.aload_n 0, 1) := by decide +kernel
theorem d_Law_law_440 : decode code 440 = .ok (.iload_n 3, 1) := by decide +kernel
theorem d_Law_law_441 : decode code 441 = .ok (.iconst 5, 1) := by decide +kernel
theorem d_Law_law_442 : decode code 442 = .ok (.iadd, 1) := by decide +kernel
theorem d_Law_law_443 : decode code 443 = .ok (.iaload, 1) := by decide +kernel
theorem d_Law_law_444 : decode code 444 = .ok (.invokevirtual 51, 3) := by decide +kernel
theorem d_Law_law_447 : decode code 447 = .ok (.lcmp, 1) := by decide +kernel
theorem d_Law_law_448 : decode code 448 = .ok (.ifCond .eq 868, 3) := by decide +kernel
theorem d_Law_law_451 : decode code 451 = .ok (.iconst 0, 1) := by decide +kernel
theorem d_Law_law_452 : decode code 452 = .ok (.ireturn, 1) := by decide +kernel
theorem d_Law_law_453 : decode code 453 = .ok (.aload_n 1, 1) := by decide +kernel
theorem d_Law_law_454 : decode code 454 = .ok (.aload_n 0, 1) := by decide +kernel
theorem d_Law_law_455 : decode code 455 = .ok (.iload_n 3, 1) := by decide +kernel
theorem d_Law_law_456 : decode code 456 = .ok (.iconst 1, 1) := by decide +kernel
theorem d_Law_law_457 : decode code 457 = .ok (.iadd, 1) := by decide +kernel
theorem d_Law_law_458 : decode code 458 = .ok (.iaload, 1) := by decide +kernel
theorem d_Law_law_459 : decode code 459 = .ok (.aload_n 0, 1) := by decide +kernel
theorem d_Law_law_460 : decode code 460 = .ok (.iload_n 3, 1) := by decide +kernel
theorem d_Law_law_461 : decode code 461 = .ok (.iconst 2, 1) := by decide +kernel
theorem d_Law_law_462 : decode code 462 = .ok (.iadd, 1) := by decide +kernel
theorem d_Law_law_463 : decode code 463 = .ok (.iaload, 1) := by decide +kernel
theorem d_Law_law_464 : decode code 464 = .ok (.aload_n 0, 1) := by decide +kernel
theorem d_Law_law_465 : decode code 465 = .ok (.iload_n 3, 1) := by decide +kernel
theorem d_Law_law_466 : decode code 466 = .ok (.iconst 3, 1) := by decide +kernel
theorem d_Law_law_467 : decode code 467 = .ok (.iadd, 1) := by decide +kernel
theorem d_Law_law_468 : decode code 468 = .ok (.iaload, 1) := by decide +kernel
theorem d_Law_law_469 : decode code 469 = .ok (.invokevirtual 52, 3) := by decide +kernel
theorem d_Law_law_472 : decode code 472 = .ok (.aload_n 2, 1) := by decide +kernel
theorem d_Law_law_473 : decode code 473 = .ok (.aload_n 0, 1) := by decide +kernel
theorem d_Law_law_474 : decode code 474 = .ok (.iload_n 3, 1) := by decide +kernel
theorem d_Law_law_475 : decode code 475 = .ok (.iconst 1, 1) := by decide +kernel
theorem d_Law_law_476 : decode code 476 = .ok (.iadd, 1) := by decide +kernel
theorem d_Law_law_477 : decode code 477 = .ok (.iaload, 1) := by decide +kernel
theorem d_Law_law_478 : decode code 478 = .ok (.aload_n 0, 1) := by decide +kernel
theorem d_Law_law_479 : decode code 479 = .ok (.iload_n 3, 1) := by decide +kernel
theorem d_Law_law_480 : decode code 480 = .ok (.iconst 2, 1) := by decide +kernel
theorem d_Law_law_481 : decode code 481 = .ok (.iadd, 1) := by decide +kernel
theorem d_Law_law_482 : decode code 482 = .ok (.iaload, 1) := by decide +kernel
theorem d_Law_law_483 : decode code 483 = .ok (.aload_n 0, 1) := by decide +kernel
theorem d_Law_law_484 : decode code 484 = .ok (.iload_n 3, 1) := by decide +kernel
theorem d_Law_law_485 : decode code 485 = .ok (.iconst 3, 1) := by decide +kernel
theorem d_Law_law_486 : decode code 486 = .ok (.iadd, 1) := by decide +kernel
theorem d_Law_law_487 : decode code 487 = .ok (.iaload, 1) := by decide +kernel
theorem d_Law_law_488 : decode code 488 = .ok (.invokevirtual 55, 3) := by decide +kernel
theorem d_Law_law_491 : decode code 491 = .ok (.if_icmp .eq 825, 3) := by decide +kernel
theorem d_Law_law_494 : decode code 494 = .ok (.iconst 0, 1) := by decide +kernel
theorem d_Law_law_495 : decode code 495 = .ok (.ireturn, 1) := by decide +kernel
theorem d_Law_law_496 : decode code 496 = .ok (.aload_n 1, 1) := by decide +kernel
theorem d_Law_law_497 : decode code 497 = .ok (.aload_n 0, 1) := by decide +kernel
theorem d_Law_law_498 : decode code 498 = .ok (.iload_n 3, 1) := by decide +kernel
theorem d_Law_law_499 : decode code 499 = .ok (.iconst 1, 1) := by decide +kernel
theorem d_Law_law_500 : decode code 500 = .ok (.iadd, 1) := by decide +kernel
theorem d_Law_law_501 : decode code 501 = .ok (.iaload, 1) := by decide +kernel
theorem d_Law_law_502 : decode code 502 = .ok (.aload_n 0, 1) := by decide +kernel
theorem d_Law_law_503 : decode code 503 = .ok (.iload_n 3, 1) := by decide +kernel
theorem d_Law_law_504 : decode code 504 = .ok (.iconst 2, 1) := by decide +kernel
theorem d_Law_law_505 : decode code 505 = .ok (.iadd, 1) := by decide +kernel
theorem d_Law_law_506 : decode code 506 = .ok (.iaload, 1) := by decide +kernel
theorem d_Law_law_507 : decode code 507 = .ok (.aload_n 0, 1) := by decide +kernel
theorem d_Law_law_508 : decode code 508 = .ok (.iload_n 3, 1) := by decide +kernel
theorem d_Law_law_509 : decode code 509 = .ok (.iconst 3, 1) := by decide +kernel
theorem d_Law_law_510 : decode code 510 = .ok (.iadd, 1) := by decide +kernel
theorem d_Law_law_511 : decode code 511 = .ok (.iaload, 1) := by decide +kernel
theorem d_Law_law_512 : decode code 512 = .ok (.invokevirtual 56, 3) := by decide +kernel
theorem d_Law_law_515 : decode code 515 = .ok (.aload_n 2, 1) := by decide +kernel
theorem d_Law_law_516 : decode code 516 = .ok (.aload_n 0, 1) := by decide +kernel
theorem d_Law_law_517 : decode code 517 = .ok (.iload_n 3, 1) := by decide +kernel
theorem d_Law_law_518 : decode code 518 = .ok (.iconst 1, 1) := by decide +kernel
theorem d_Law_law_519 : decode code 519 = .ok (.iadd, 1) := by decide +kernel
theorem d_Law_law_520 : decode code 520 = .ok (.iaload, 1) := by decide +kernel
theorem d_Law_law_521 : decode code 521 = .ok (.aload_n 0, 1) := by decide +kernel
theorem d_Law_law_522 : decode code 522 = .ok (.iload_n 3, 1) := by decide +kernel
theorem d_Law_law_523 : decode code 523 = .ok (.iconst 2, 1) := by decide +kernel
theorem d_Law_law_524 : decode code 524 = .ok (.iadd, 1) := by decide +kernel
theorem d_Law_law_525 : decode code 525 = .ok (.iaload, 1) := by decide +kernel
theorem d_Law_law_526 : decode code 526 = .ok (.aload_n 0, 1) := by decide +kernel
theorem d_Law_law_527 : decode code 527 = .ok (.iload_n 3, 1) := by decide +kernel
theorem d_Law_law_528 : decode code 528 = .ok (.iconst 3, 1) := by decide +kernel
theorem d_Law_law_529 : decode code 529 = .ok (.iadd, 1) := by decide +kernel
theorem d_Law_law_530 : decode code 530 = .ok (.iaload, 1) := by decide +kernel
theorem d_Law_law_531 : decode code 531 = .ok (.invokevirtual 59, 3) := by decide +kernel
theorem d_Law_law_534 : decode code 534 = .ok (.if_icmp .eq 782, 3) := by decide +kernel
theorem d_Law_law_537 : decode code 537 = .ok (.iconst 0, 1) := by decide +kernel
theorem d_Law_law_538 : decode code 538 = .ok (.ireturn, 1) := by decide +kernel
theorem d_Law_law_539 : decode code 539 = .ok (.aload_n 1, 1) := by decide +kernel
theorem d_Law_law_540 : decode code 540 = .ok (.aload_n 0, 1) := by decide +kernel
theorem d_Law_law_541 : decode code 541 = .ok (.iload_n 3, 1) := by decide +kernel
theorem d_Law_law_542 : decode code 542 = .ok (.iconst 1, 1) := by decide +kernel
theorem d_Law_law_543 : decode code 543 = .ok (.iadd, 1) := by decide +kernel
theorem d_Law_law_544 : decode code 544 = .ok (.iaload, 1) := by decide +kernel
theorem d_Law_law_545 : decode code 545 = .ok (.aload_n 0, 1) := by decide +kernel
theorem d_Law_law_546 : decode code 546 = .ok (.iload_n 3, 1) := by decide +kernel
theorem d_Law_law_547 : decode code 547 = .ok (.iconst 2, 1) := by decide +kernel
theorem d_Law_law_548 : decode code 548 = .ok (.iadd, 1) := by decide +kernel
theorem d_Law_law_549 : decode code 549 = .ok (.iaload, 1) := by decide +kernel
theorem d_Law_law_550 : decode code 550 = .ok (.aload_n 0, 1) := by decide +kernel
theorem d_Law_law_551 : decode code 551 = .ok (.iload_n 3, 1) := by decide +kernel
theorem d_Law_law_552 : decode code 552 = .ok (.iconst 3, 1) := by decide +kernel
theorem d_Law_law_553 : decode code 553 = .ok (.iadd, 1) := by decide +kernel
theorem d_Law_law_554 : decode code 554 = .ok (.iaload, 1) := by decide +kernel
theorem d_Law_law_555 : decode code 555 = .ok (.aload_n 0, 1) := by decide +kernel
theorem d_Law_law_556 : decode code 556 = .ok (.iload_n 3, 1) := by decide +kernel
theorem d_Law_law_557 : decode code 557 = .ok (.iconst 4, 1) := by decide +kernel
theorem d_Law_law_558 : decode code 558 = .ok (.iadd, 1) := by decide +kernel
theorem d_Law_law_559 : decode code 559 = .ok (.iaload, 1) := by decide +kernel
theorem d_Law_law_560 : decode code 560 = .ok (.aload_n 0, 1) := by decide +kernel
theorem d_Law_law_561 : decode code 561 = .ok (.iload_n 3, 1) := by decide +kernel
theorem d_Law_law_562 : decode code 562 = .ok (.iconst 5, 1) := by decide +kernel
theorem d_Law_law_563 : decode code 563 = .ok (.iadd, 1) := by decide +kernel
theorem d_Law_law_564 : decode code 564 = .ok (.iaload, 1) := by decide +kernel
theorem d_Law_law_565 : decode code 565 = .ok (.aload_n 0, 1) := by decide +kernel
theorem d_Law_law_566 : decode code 566 = .ok (.iload_n 3, 1) := by decide +kernel
theorem d_Law_law_567 : decode code 567 = .ok (.bipush 6, 2) := by decide +kernel
theorem d_Law_law_569 : decode code 569 = .ok (.iadd, 1) := by decide +kernel
theorem d_Law_law_570 : decode code 570 = .ok (.iaload, 1) := by decide +kernel
theorem d_Law_law_571 : decode code 571 = .ok (.invokevirtual 60, 3) := by decide +kernel
theorem d_Law_law_574 : decode code 574 = .ok (.aload_n 2, 1) := by decide +kernel
theorem d_Law_law_575 : decode code 575 = .ok (.aload_n 0, 1) := by decide +kernel
theorem d_Law_law_576 : decode code 576 = .ok (.iload_n 3, 1) := by decide +kernel
theorem d_Law_law_577 : decode code 577 = .ok (.iconst 1, 1) := by decide +kernel
theorem d_Law_law_578 : decode code 578 = .ok (.iadd, 1) := by decide +kernel
theorem d_Law_law_579 : decode code 579 = .ok (.iaload, 1) := by decide +kernel
theorem d_Law_law_580 : decode code 580 = .ok (.aload_n 0, 1) := by decide +kernel
theorem d_Law_law_581 : decode code 581 = .ok (.iload_n 3, 1) := by decide +kernel
theorem d_Law_law_582 : decode code 582 = .ok (.iconst 2, 1) := by decide +kernel
theorem d_Law_law_583 : decode code 583 = .ok (.iadd, 1) := by decide +kernel
theorem d_Law_law_584 : decode code 584 = .ok (.iaload, 1) := by decide +kernel
theorem d_Law_law_585 : decode code 585 = .ok (.aload_n 0, 1) := by decide +kernel
theorem d_Law_law_586 : decode code 586 = .ok (.iload_n 3, 1) := by decide +kernel
theorem d_Law_law_587 : decode code 587 = .ok (.iconst 3, 1) := by decide +kernel
theorem d_Law_law_588 : decode code 588 = .ok (.iadd, 1) := by decide +kernel
theorem d_Law_law_589 : decode code 589 = .ok (.iaload, 1) := by decide +kernel
theorem d_Law_law_590 : decode code 590 = .ok (.aload_n 0, 1) := by decide +kernel
theorem d_Law_law_591 : decode code 591 = .ok (.iload_n 3, 1) := by decide +kernel
theorem d_Law_law_592 : decode code 592 = .ok (.iconst 4, 1) := by decide +kernel
theorem d_Law_law_593 : decode code 593 = .ok (.iadd, 1) := by decide +kernel
theorem d_Law_law_594 : decode code 594 = .ok (.iaload, 1) := by decide +kernel
theorem d_Law_law_595 : decode code 595 = .ok (.aload_n 0, 1) := by decide +kernel
theorem d_Law_law_596 : decode code 596 = .ok (.iload_n 3, 1) := by decide +kernel
theorem d_Law_law_597 : decode code 597 = .ok (.iconst 5, 1) := by decide +kernel
theorem d_Law_law_598 : decode code 598 = .ok (.iadd, 1) := by decide +kernel
theorem d_Law_law_599 : decode code 599 = .ok (.iaload, 1) := by decide +kernel
theorem d_Law_law_600 : decode code 600 = .ok (.aload_n 0, 1) := by decide +kernel
theorem d_Law_law_601 : decode code 601 = .ok (.iload_n 3, 1) := by decide +kernel
theorem d_Law_law_602 : decode code 602 = .ok (.bipush 6, 2) := by decide +kernel
theorem d_Law_law_604 : decode code 604 = .ok (.iadd, 1) := by decide +kernel
theorem d_Law_law_605 : decode code 605 = .ok (.iaload, 1) := by decide +kernel
theorem d_Law_law_606 : decode code 606 = .ok (.invokevirtual 64, 3) := by decide +kernel
theorem d_Law_law_609 : decode code 609 = .ok (.lcmp, 1) := by decide +kernel
theorem d_Law_law_610 : decode code 610 = .ok (.ifCond .eq 706, 3) := by decide +kernel
theorem d_Law_law_613 : decode code 613 = .ok (.iconst 0, 1) := by decide +kernel
theorem d_Law_law_614 : decode code 614 = .ok (.ireturn, 1) := by decide +kernel
theorem d_Law_law_615 : decode code 615 = .ok (.aload_n 1, 1) := by decide +kernel
theorem d_Law_law_616 : decode code 616 = .ok (.aload_n 0, 1) := by decide +kernel
theorem d_Law_law_617 : decode code 617 = .ok (.iload_n 3, 1) := by decide +kernel
theorem d_Law_law_618 : decode code 618 = .ok (.iconst 1, 1) := by decide +kernel
theorem d_Law_law_619 : decode code 619 = .ok (.iadd, 1) := by decide +kernel
theorem d_Law_law_620 : decode code 620 = .ok (.iaload, 1) := by decide +kernel
theorem d_Law_law_621 : decode code 621 = .ok (.aload_n 0, 1) := by decide +kernel
theorem d_Law_law_622 : decode code 622 = .ok (.iload_n 3, 1) := by decide +kernel
theorem d_Law_law_623 : decode code 623 = .ok (.iconst 2, 1) := by decide +kernel
theorem d_Law_law_624 : decode code 624 = .ok (.iadd, 1) := by decide +kernel
theorem d_Law_law_625 : decode code 625 = .ok (.iaload, 1) := by decide +kernel
theorem d_Law_law_626 : decode code 626 = .ok (.aload_n 0, 1) := by decide +kernel
theorem d_Law_law_627 : decode code 627 = .ok (.iload_n 3, 1) := by decide +kernel
theorem d_Law_law_628 : decode code 628 = .ok (.iconst 3, 1) := by decide +kernel
theorem d_Law_law_629 : decode code 629 = .ok (.iadd, 1) := by decide +kernel
theorem d_Law_law_630 : decode code 630 = .ok (.iaload, 1) := by decide +kernel
theorem d_Law_law_631 : decode code 631 = .ok (.aload_n 0, 1) := by decide +kernel
theorem d_Law_law_632 : decode code 632 = .ok (.iload_n 3, 1) := by decide +kernel
theorem d_Law_law_633 : decode code 633 = .ok (.iconst 4, 1) := by decide +kernel
theorem d_Law_law_634 : decode code 634 = .ok (.iadd, 1) := by decide +kernel
theorem d_Law_law_635 : decode code 635 = .ok (.iaload, 1) := by decide +kernel
theorem d_Law_law_636 : decode code 636 = .ok (.invokevirtual 65, 3) := by decide +kernel
theorem d_Law_law_639 : decode code 639 = .ok (.aload_n 2, 1) := by decide +kernel
theorem d_Law_law_640 : decode code 640 = .ok (.aload_n 0, 1) := by decide +kernel
theorem d_Law_law_641 : decode code 641 = .ok (.iload_n 3, 1) := by decide +kernel
theorem d_Law_law_642 : decode code 642 = .ok (.iconst 1, 1) := by decide +kernel
theorem d_Law_law_643 : decode code 643 = .ok (.iadd, 1) := by decide +kernel
theorem d_Law_law_644 : decode code 644 = .ok (.iaload, 1) := by decide +kernel
theorem d_Law_law_645 : decode code 645 = .ok (.aload_n 0, 1) := by decide +kernel
theorem d_Law_law_646 : decode code 646 = .ok (.iload_n 3, 1) := by decide +kernel
theorem d_Law_law_647 : decode code 647 = .ok (.iconst 2, 1) := by decide +kernel
theorem d_Law_law_648 : decode code 648 = .ok (.iadd, 1) := by decide +kernel
theorem d_Law_law_649 : decode code 649 = .ok (.iaload, 1) := by decide +kernel
theorem d_Law_law_650 : decode code 650 = .ok (.aload_n 0, 1) := by decide +kernel
theorem d_Law_law_651 : decode code 651 = .ok (.iload_n 3, 1) := by decide +kernel
theorem d_Law_law_652 : decode code 652 = .ok (.iconst 3, 1) := by decide +kernel
theorem d_Law_law_653 : decode code 653 = .ok (.iadd, 1) := by decide +kernel
theorem d_Law_law_654 : decode code 654 = .ok (.iaload, 1) := by decide +kernel
theorem d_Law_law_655 : decode code 655 = .ok (.aload_n 0, 1) := by decide +kernel
theorem d_Law_law_656 : decode code 656 = .ok (.iload_n 3, 1) := by decide +kernel
theorem d_Law_law_657 : decode code 657 = .ok (.iconst 4, 1) := by decide +kernel
theorem d_Law_law_658 : decode code 658 = .ok (.iadd, 1) := by decide +kernel
theorem d_Law_law_659 : decode code 659 = .ok (.iaload, 1) := by decide +kernel
theorem d_Law_law_660 : decode code 660 = .ok (.invokevirtual 69, 3) := by decide +kernel
theorem d_Law_law_663 : decode code 663 = .ok (.if_icmp .eq 653, 3) := by decide +kernel
theorem d_Law_law_666 : decode code 666 = .ok (.iconst 0, 1) := by decide +kernel
theorem d_Law_law_667 : decode code 667 = .ok (.ireturn, 1) := by decide +kernel
theorem d_Law_law_668 : decode code 668 = .ok (.aload_n 1, 1) := by decide +kernel
theorem d_Law_law_669 : decode code 669 = .ok (.aload_n 0, 1) := by decide +kernel
theorem d_Law_law_670 : decode code 670 = .ok (.iload_n 3, 1) := by decide +kernel
theorem d_Law_law_671 : decode code 671 = .ok (.iconst 1, 1) := by decide +kernel
theorem d_Law_law_672 : decode code 672 = .ok (.iadd, 1) := by decide +kernel
theorem d_Law_law_673 : decode code 673 = .ok (.iaload, 1) := by decide +kernel
theorem d_Law_law_674 : decode code 674 = .ok (.aload_n 0, 1) := by decide +kernel
theorem d_Law_law_675 : decode code 675 = .ok (.iload_n 3, 1) := by decide +kernel
theorem d_Law_law_676 : decode code 676 = .ok (.iconst 2, 1) := by decide +kernel
theorem d_Law_law_677 : decode code 677 = .ok (.iadd, 1) := by decide +kernel
theorem d_Law_law_678 : decode code 678 = .ok (.iaload, 1) := by decide +kernel
theorem d_Law_law_679 : decode code 679 = .ok (.aload_n 0, 1) := by decide +kernel
theorem d_Law_law_680 : decode code 680 = .ok (.iload_n 3, 1) := by decide +kernel
theorem d_Law_law_681 : decode code 681 = .ok (.iconst 3, 1) := by decide +kernel
theorem d_Law_law_682 : decode code 682 = .ok (.iadd, 1) := by decide +kernel
theorem d_Law_law_683 : decode code 683 = .ok (.iaload, 1) := by decide +kernel
theorem d_Law_law_684 : decode code 684 = .ok (.aload_n 0, 1) := by decide +kernel
theorem d_Law_law_685 : decode code 685 = .ok (.iload_n 3, 1) := by decide +kernel
theorem d_Law_law_686 : decode code 686 = .ok (.iconst 4, 1) := by decide +kernel
theorem d_Law_law_687 : decode code 687 = .ok (.iadd, 1) := by decide +kernel
theorem d_Law_law_688 : decode code 688 = .ok (.iaload, 1) := by decide +kernel
theorem d_Law_law_689 : decode code 689 = .ok (.aload_n 0, 1) := by decide +kernel
theorem d_Law_law_690 : decode code 690 = .ok (.iload_n 3, 1) := by decide +kernel
theorem d_Law_law_691 : decode code 691 = .ok (.iconst 5, 1) := by decide +kernel
theorem d_Law_law_692 : decode code 692 = .ok (.iadd, 1) := by decide +kernel
theorem d_Law_law_693 : decode code 693 = .ok (.iaload, 1) := by decide +kernel
theorem d_Law_law_694 : decode code 694 = .ok (.aload_n 0, 1) := by decide +kernel
theorem d_Law_law_695 : decode code 695 = .ok (.iload_n 3, 1) := by decide +kernel
theorem d_Law_law_696 : decode code 696 = .ok (.bipush 6, 2) := by decide +kernel
theorem d_Law_law_698 : decode code 698 = .ok (.iadd, 1) := by decide +kernel
theorem d_Law_law_699 : decode code 699 = .ok (.iaload, 1) := by decide +kernel
theorem d_Law_law_700 : decode code 700 = .ok (.invokevirtual 70, 3) := by decide +kernel
theorem d_Law_law_703 : decode code 703 = .ok (.aload_n 2, 1) := by decide +kernel
theorem d_Law_law_704 : decode code 704 = .ok (.aload_n 0, 1) := by decide +kernel
theorem d_Law_law_705 : decode code 705 = .ok (.iload_n 3, 1) := by decide +kernel
theorem d_Law_law_706 : decode code 706 = .ok (.iconst 1, 1) := by decide +kernel
theorem d_Law_law_707 : decode code 707 = .ok (.iadd, 1) := by decide +kernel
theorem d_Law_law_708 : decode code 708 = .ok (.iaload, 1) := by decide +kernel
theorem d_Law_law_709 : decode code 709 = .ok (.aload_n 0, 1) := by decide +kernel
theorem d_Law_law_710 : decode code 710 = .ok (.iload_n 3, 1) := by decide +kernel
theorem d_Law_law_711 : decode code 711 = .ok (.iconst 2, 1) := by decide +kernel
theorem d_Law_law_712 : decode code 712 = .ok (.iadd, 1) := by decide +kernel
theorem d_Law_law_713 : decode code 713 = .ok (.iaload, 1) := by decide +kernel
theorem d_Law_law_714 : decode code 714 = .ok (.aload_n 0, 1) := by decide +kernel
theorem d_Law_law_715 : decode code 715 = .ok (.iload_n 3, 1) := by decide +kernel
theorem d_Law_law_716 : decode code 716 = .ok (.iconst 3, 1) := by decide +kernel
theorem d_Law_law_717 : decode code 717 = .ok (.iadd, 1) := by decide +kernel
theorem d_Law_law_718 : decode code 718 = .ok (.iaload, 1) := by decide +kernel
theorem d_Law_law_719 : decode code 719 = .ok (.aload_n 0, 1) := by decide +kernel
theorem d_Law_law_720 : decode code 720 = .ok (.iload_n 3, 1) := by decide +kernel
theorem d_Law_law_721 : decode code 721 = .ok (.iconst 4, 1) := by decide +kernel
theorem d_Law_law_722 : decode code 722 = .ok (.iadd, 1) := by decide +kernel
theorem d_Law_law_723 : decode code 723 = .ok (.iaload, 1) := by decide +kernel
theorem d_Law_law_724 : decode code 724 = .ok (.aload_n 0, 1) := by decide +kernel
theorem d_Law_law_725 : decode code 725 = .ok (.iload_n 3, 1) := by decide +kernel
theorem d_Law_law_726 : decode code 726 = .ok (.iconst 5, 1) := by decide +kernel
theorem d_Law_law_727 : decode code 727 = .ok (.iadd, 1) := by decide +kernel
theorem d_Law_law_728 : decode code 728 = .ok (.iaload, 1) := by decide +kernel
theorem d_Law_law_729 : decode code 729 = .ok (.aload_n 0, 1) := by decide +kernel
theorem d_Law_law_730 : decode code 730 = .ok (.iload_n 3, 1) := by decide +kernel
theorem d_Law_law_731 : decode code 731 = .ok (.bipush 6, 2) := by decide +kernel
theorem d_Law_law_733 : decode code 733 = .ok (.iadd, 1) := by decide +kernel
theorem d_Law_law_734 : decode code 734 = .ok (.iaload, 1) := by decide +kernel
theorem d_Law_law_735 : decode code 735 = .ok (.invokevirtual 74, 3) := by decide +kernel
theorem d_Law_law_738 : decode code 738 = .ok (.if_icmp .eq 578, 3) := by decide +kernel
theorem d_Law_law_741 : decode code 741 = .ok (.iconst 0, 1) := by decide +kernel
theorem d_Law_law_742 : decode code 742 = .ok (.ireturn, 1) := by decide +kernel
theorem d_Law_law_743 : decode code 743 = .ok (.aload_n 1, 1) := by decide +kernel
theorem d_Law_law_744 : decode code 744 = .ok (.aload_n 0, 1) := by decide +kernel
theorem d_Law_law_745 : decode code 745 = .ok (.iload_n 3, 1) := by decide +kernel
theorem d_Law_law_746 : decode code 746 = .ok (.iconst 1, 1) := by decide +kernel
theorem d_Law_law_747 : decode code 747 = .ok (.iadd, 1) := by decide +kernel
theorem d_Law_law_748 : decode code 748 = .ok (.iaload, 1) := by decide +kernel
theorem d_Law_law_749 : decode code 749 = .ok (.aload_n 0, 1) := by decide +kernel
theorem d_Law_law_750 : decode code 750 = .ok (.iload_n 3, 1) := by decide +kernel
theorem d_Law_law_751 : decode code 751 = .ok (.iconst 2, 1) := by decide +kernel
theorem d_Law_law_752 : decode code 752 = .ok (.iadd, 1) := by decide +kernel
theorem d_Law_law_753 : decode code 753 = .ok (.iaload, 1) := by decide +kernel
theorem d_Law_law_754 : decode code 754 = .ok (.invokevirtual 75, 3) := by decide +kernel
theorem d_Law_law_757 : decode code 757 = .ok (.aload_n 2, 1) := by decide +kernel
theorem d_Law_law_758 : decode code 758 = .ok (.aload_n 0, 1) := by decide +kernel
theorem d_Law_law_759 : decode code 759 = .ok (.iload_n 3, 1) := by decide +kernel
theorem d_Law_law_760 : decode code 760 = .ok (.iconst 1, 1) := by decide +kernel
theorem d_Law_law_761 : decode code 761 = .ok (.iadd, 1) := by decide +kernel
theorem d_Law_law_762 : decode code 762 = .ok (.iaload, 1) := by decide +kernel
theorem d_Law_law_763 : decode code 763 = .ok (.aload_n 0, 1) := by decide +kernel
theorem d_Law_law_764 : decode code 764 = .ok (.iload_n 3, 1) := by decide +kernel
theorem d_Law_law_765 : decode code 765 = .ok (.iconst 2, 1) := by decide +kernel
theorem d_Law_law_766 : decode code 766 = .ok (.iadd, 1) := by decide +kernel
theorem d_Law_law_767 : decode code 767 = .ok (.iaload, 1) := by decide +kernel
theorem d_Law_law_768 : decode code 768 = .ok (.invokevirtual 78, 3) := by decide +kernel
theorem d_Law_law_771 : decode code 771 = .ok (.if_icmp .eq 545, 3) := by decide +kernel
theorem d_Law_law_774 : decode code 774 = .ok (.iconst 0, 1) := by decide +kernel
theorem d_Law_law_775 : decode code 775 = .ok (.ireturn, 1) := by decide +kernel
theorem d_Law_law_776 : decode code 776 = .ok (.aload_n 1, 1) := by decide +kernel
theorem d_Law_law_777 : decode code 777 = .ok (.aload_n 0, 1) := by decide +kernel
theorem d_Law_law_778 : decode code 778 = .ok (.iload_n 3, 1) := by decide +kernel
theorem d_Law_law_779 : decode code 779 = .ok (.iconst 1, 1) := by decide +kernel
theorem d_Law_law_780 : decode code 780 = .ok (.iadd, 1) := by decide +kernel
theorem d_Law_law_781 : decode code 781 = .ok (.iaload, 1) := by decide +kernel
theorem d_Law_law_782 : decode code 782 = .ok (.aload_n 0, 1) := by decide +kernel
theorem d_Law_law_783 : decode code 783 = .ok (.iload_n 3, 1) := by decide +kernel
theorem d_Law_law_784 : decode code 784 = .ok (.iconst 2, 1) := by decide +kernel
theorem d_Law_law_785 : decode code 785 = .ok (.iadd, 1) := by decide +kernel
theorem d_Law_law_786 : decode code 786 = .ok (.iaload, 1) := by decide +kernel
theorem d_Law_law_787 : decode code 787 = .ok (.aload_n 0, 1) := by decide +kernel
theorem d_Law_law_788 : decode code 788 = .ok (.iload_n 3, 1) := by decide +kernel
theorem d_Law_law_789 : decode code 789 = .ok (.iconst 3, 1) := by decide +kernel
theorem d_Law_law_790 : decode code 790 = .ok (.iadd, 1) := by decide +kernel
theorem d_Law_law_791 : decode code 791 = .ok (.iaload, 1) := by decide +kernel
theorem d_Law_law_792 : decode code 792 = .ok (.invokevirtual 79, 3) := by decide +kernel
theorem d_Law_law_795 : decode code 795 = .ok (.aload_n 2, 1) := by decide +kernel
theorem d_Law_law_796 : decode code 796 = .ok (.aload_n 0, 1) := by decide +kernel
theorem d_Law_law_797 : decode code 797 = .ok (.iload_n 3, 1) := by decide +kernel
theorem d_Law_law_798 : decode code 798 = .ok (.iconst 1, 1) := by decide +kernel
theorem d_Law_law_799 : decode code 799 = .ok (.iadd, 1) := by decide +kernel
theorem d_Law_law_800 : decode code 800 = .ok (.iaload, 1) := by decide +kernel
theorem d_Law_law_801 : decode code 801 = .ok (.aload_n 0, 1) := by decide +kernel
theorem d_Law_law_802 : decode code 802 = .ok (.iload_n 3, 1) := by decide +kernel
theorem d_Law_law_803 : decode code 803 = .ok (.iconst 2, 1) := by decide +kernel
theorem d_Law_law_804 : decode code 804 = .ok (.iadd, 1) := by decide +kernel
theorem d_Law_law_805 : decode code 805 = .ok (.iaload, 1) := by decide +kernel
theorem d_Law_law_806 : decode code 806 = .ok (.aload_n 0, 1) := by decide +kernel
theorem d_Law_law_807 : decode code 807 = .ok (.iload_n 3, 1) := by decide +kernel
theorem d_Law_law_808 : decode code 808 = .ok (.iconst 3, 1) := by decide +kernel
theorem d_Law_law_809 : decode code 809 = .ok (.iadd, 1) := by decide +kernel
theorem d_Law_law_810 : decode code 810 = .ok (.iaload, 1) := by decide +kernel
theorem d_Law_law_811 : decode code 811 = .ok (.invokevirtual 82, 3) := by decide +kernel
theorem d_Law_law_814 : decode code 814 = .ok (.if_icmp .eq 502, 3) := by decide +kernel
theorem d_Law_law_817 : decode code 817 = .ok (.iconst 0, 1) := by decide +kernel
theorem d_Law_law_818 : decode code 818 = .ok (.ireturn, 1) := by decide +kernel
theorem d_Law_law_819 : decode code 819 = .ok (.aload_n 1, 1) := by decide +kernel
theorem d_Law_law_820 : decode code 820 = .ok (.aload_n 0, 1) := by decide +kernel
theorem d_Law_law_821 : decode code 821 = .ok (.iload_n 3, 1) := by decide +kernel
theorem d_Law_law_822 : decode code 822 = .ok (.iconst 1, 1) := by decide +kernel
theorem d_Law_law_823 : decode code 823 = .ok (.iadd, 1) := by decide +kernel
theorem d_Law_law_824 : decode code 824 = .ok (.iaload, 1) := by decide +kernel
theorem d_Law_law_825 : decode code 825 = .ok (.aload_n 0, 1) := by decide +kernel
theorem d_Law_law_826 : decode code 826 = .ok (.iload_n 3, 1) := by decide +kernel
theorem d_Law_law_827 : decode code 827 = .ok (.iconst 2, 1) := by decide +kernel
theorem d_Law_law_828 : decode code 828 = .ok (.iadd, 1) := by decide +kernel
theorem d_Law_law_829 : decode code 829 = .ok (.iaload, 1) := by decide +kernel
theorem d_Law_law_830 : decode code 830 = .ok (.aload_n 0, 1) := by decide +kernel
theorem d_Law_law_831 : decode code 831 = .ok (.iload_n 3, 1) := by decide +kernel
theorem d_Law_law_832 : decode code 832 = .ok (.iconst 3, 1) := by decide +kernel
theorem d_Law_law_833 : decode code 833 = .ok (.iadd, 1) := by decide +kernel
theorem d_Law_law_834 : decode code 834 = .ok (.iaload, 1) := by decide +kernel
theorem d_Law_law_835 : decode code 835 = .ok (.invokevirtual 83, 3) := by decide +kernel
theorem d_Law_law_838 : decode code 838 = .ok (.aload_n 2, 1) := by decide +kernel
theorem d_Law_law_839 : decode code 839 = .ok (.aload_n 0, 1) := by decide +kernel
theorem d_Law_law_840 : decode code 840 = .ok (.iload_n 3, 1) := by decide +kernel
theorem d_Law_law_841 : decode code 841 = .ok (.iconst 1, 1) := by decide +kernel
theorem d_Law_law_842 : decode code 842 = .ok (.iadd, 1) := by decide +kernel
theorem d_Law_law_843 : decode code 843 = .ok (.iaload, 1) := by decide +kernel
theorem d_Law_law_844 : decode code 844 = .ok (.aload_n 0, 1) := by decide +kernel
theorem d_Law_law_845 : decode code 845 = .ok (.iload_n 3, 1) := by decide +kernel
theorem d_Law_law_846 : decode code 846 = .ok (.iconst 2, 1) := by decide +kernel
theorem d_Law_law_847 : decode code 847 = .ok (.iadd, 1) := by decide +kernel
theorem d_Law_law_848 : decode code 848 = .ok (.iaload, 1) := by decide +kernel
theorem d_Law_law_849 : decode code 849 = .ok (.aload_n 0, 1) := by decide +kernel
theorem d_Law_law_850 : decode code 850 = .ok (.iload_n 3, 1) := by decide +kernel
theorem d_Law_law_851 : decode code 851 = .ok (.iconst 3, 1) := by decide +kernel
theorem d_Law_law_852 : decode code 852 = .ok (.iadd, 1) := by decide +kernel
theorem d_Law_law_853 : decode code 853 = .ok (.iaload, 1) := by decide +kernel
theorem d_Law_law_854 : decode code 854 = .ok (.invokevirtual 86, 3) := by decide +kernel
theorem d_Law_law_857 : decode code 857 = .ok (.if_icmp .eq 459, 3) := by decide +kernel
theorem d_Law_law_860 : decode code 860 = .ok (.iconst 0, 1) := by decide +kernel
theorem d_Law_law_861 : decode code 861 = .ok (.ireturn, 1) := by decide +kernel
theorem d_Law_law_862 : decode code 862 = .ok (.aload_n 1, 1) := by decide +kernel
theorem d_Law_law_863 : decode code 863 = .ok (.aload_n 0, 1) := by decide +kernel
theorem d_Law_law_864 : decode code 864 = .ok (.iload_n 3, 1) := by decide +kernel
theorem d_Law_law_865 : decode code 865 = .ok (.iconst 1, 1) := by decide +kernel
theorem d_Law_law_866 : decode code 866 = .ok (.iadd, 1) := by decide +kernel
theorem d_Law_law_867 : decode code 867 = .ok (.iaload, 1) := by decide +kernel
theorem d_Law_law_868 : decode code 868 = .ok (.aload_n 0, 1) := by decide +kernel
theorem d_Law_law_869 : decode code 869 = .ok (.iload_n 3, 1) := by decide +kernel
theorem d_Law_law_870 : decode code 870 = .ok (.iconst 2, 1) := by decide +kernel
theorem d_Law_law_871 : decode code 871 = .ok (.iadd, 1) := by decide +kernel
theorem d_Law_law_872 : decode code 872 = .ok (.iaload, 1) := by decide +kernel
theorem d_Law_law_873 : decode code 873 = .ok (.aload_n 0, 1) := by decide +kernel
theorem d_Law_law_874 : decode code 874 = .ok (.iload_n 3, 1) := by decide +kernel
theorem d_Law_law_875 : decode code 875 = .ok (.iconst 3, 1) := by decide +kernel
theorem d_Law_law_876 : decode code 876 = .ok (.iadd, 1) := by decide +kernel
theorem d_Law_law_877 : decode code 877 = .ok (.iaload, 1) := by decide +kernel
theorem d_Law_law_878 : decode code 878 = .ok (.aload_n 0, 1) := by decide +kernel
theorem d_Law_law_879 : decode code 879 = .ok (.iload_n 3, 1) := by decide +kernel
theorem d_Law_law_880 : decode code 880 = .ok (.iconst 4, 1) := by decide +kernel
theorem d_Law_law_881 : decode code 881 = .ok (.iadd, 1) := by decide +kernel
theorem d_Law_law_882 : decode code 882 = .ok (.iaload, 1) := by decide +kernel
theorem d_Law_law_883 : decode code 883 = .ok (.ifCond .eq 7, 3) := by decide +kernel
theorem d_Law_law_886 : decode code 886 = .ok (.iconst 1, 1) := by decide +kernel
theorem d_Law_law_887 : decode code 887 = .ok (.goto 4, 3) := by decide +kernel
theorem d_Law_law_890 : decode code 890 = .ok (.iconst 0, 1) := by decide +kernel
theorem d_Law_law_891 : decode code 891 = .ok (.invokevirtual 87, 3) := by decide +kernel
theorem d_Law_law_894 : decode code 894 = .ok (.aload_n 2, 1) := by decide +kernel
theorem d_Law_law_895 : decode code 895 = .ok (.aload_n 0, 1) := by decide +kernel
theorem d_Law_law_896 : decode code 896 = .ok (.iload_n 3, 1) := by decide +kernel
theorem d_Law_law_897 : decode code 897 = .ok (.iconst 1, 1) := by decide +kernel
theorem d_Law_law_898 : decode code 898 = .ok (.iadd, 1) := by decide +kernel
theorem d_Law_law_899 : decode code 899 = .ok (.iaload, 1) := by decide +kernel
theorem d_Law_law_900 : decode code 900 = .ok (.aload_n 0, 1) := by decide +kernel
theorem d_Law_law_901 : decode code 901 = .ok (.iload_n 3, 1) := by decide +kernel
theorem d_Law_law_902 : decode code 902 = .ok (.iconst 2, 1) := by decide +kernel
theorem d_Law_law_903 : decode code 903 = .ok (.iadd, 1) := by decide +kernel
theorem d_Law_law_904 : decode code 904 = .ok (.iaload, 1) := by decide +kernel
theorem d_Law_law_905 : decode code 905 = .ok (.aload_n 0, 1) := by decide +kernel
theorem d_Law_law_906 : decode code 906 = .ok (.iload_n 3, 1) := by decide +kernel
theorem d_Law_law_907 : decode code 907 = .ok (.iconst 3, 1) := by decide +kernel
theorem d_Law_law_908 : decode code 908 = .ok (.iadd, 1) := by decide +kernel
theorem d_Law_law_909 : decode code 909 = .ok (.iaload, 1) := by decide +kernel
theorem d_Law_law_910 : decode code 910 = .ok (.aload_n 0, 1) := by decide +kernel
theorem d_Law_law_911 : decode code 911 = .ok (.iload_n 3, 1) := by decide +kernel
theorem d_Law_law_912 : decode code 912 = .ok (.iconst 4, 1) := by decide +kernel
theorem d_Law_law_913 : decode code 913 = .ok (.iadd, 1) := by decide +kernel
theorem d_Law_law_914 : decode code 914 = .ok (.iaload, 1) := by decide +kernel
theorem d_Law_law_915 : decode code 915 = .ok (.ifCond .eq 7, 3) := by decide +kernel
theorem d_Law_law_918 : decode code 918 = .ok (.iconst 1, 1) := by decide +kernel
theorem d_Law_law_919 : decode code 919 = .ok (.goto 4, 3) := by decide +kernel
theorem d_Law_law_922 : decode code 922 = .ok (.iconst 0, 1) := by decide +kernel
theorem d_Law_law_923 : decode code 923 = .ok (.invokevirtual 91, 3) := by decide +kernel
theorem d_Law_law_926 : decode code 926 = .ok (.if_icmp .eq 390, 3) := by decide +kernel
theorem d_Law_law_929 : decode code 929 = .ok (.iconst 0, 1) := by decide +kernel
theorem d_Law_law_930 : decode code 930 = .ok (.ireturn, 1) := by decide +kernel
theorem d_Law_law_931 : decode code 931 = .ok (.aload_n 1, 1) := by decide +kernel
theorem d_Law_law_932 : decode code 932 = .ok (.aload_n 0, 1) := by decide +kernel
theorem d_Law_law_933 : decode code 933 = .ok (.iload_n 3, 1) := by decide +kernel
theorem d_Law_law_934 : decode code 934 = .ok (.iconst 1, 1) := by decide +kernel
theorem d_Law_law_935 : decode code 935 = .ok (.iadd, 1) := by decide +kernel
theorem d_Law_law_936 : decode code 936 = .ok (.iaload, 1) := by decide +kernel
theorem d_Law_law_937 : decode code 937 = .ok (.aload_n 0, 1) := by decide +kernel
theorem d_Law_law_938 : decode code 938 = .ok (.iload_n 3, 1) := by decide +kernel
theorem d_Law_law_939 : decode code 939 = .ok (.iconst 2, 1) := by decide +kernel
theorem d_Law_law_940 : decode code 940 = .ok (.iadd, 1) := by decide +kernel
theorem d_Law_law_941 : decode code 941 = .ok (.iaload, 1) := by decide +kernel
theorem d_Law_law_942 : decode code 942 = .ok (.aload_n 0, 1) := by decide +kernel
theorem d_Law_law_943 : decode code 943 = .ok (.iload_n 3, 1) := by decide +kernel
theorem d_Law_law_944 : decode code 944 = .ok (.iconst 3, 1) := by decide +kernel
theorem d_Law_law_945 : decode code 945 = .ok (.iadd, 1) := by decide +kernel
theorem d_Law_law_946 : decode code 946 = .ok (.iaload, 1) := by decide +kernel
theorem d_Law_law_947 : decode code 947 = .ok (.aload_n 0, 1) := by decide +kernel
theorem d_Law_law_948 : decode code 948 = .ok (.iload_n 3, 1) := by decide +kernel
theorem d_Law_law_949 : decode code 949 = .ok (.iconst 4, 1) := by decide +kernel
theorem d_Law_law_950 : decode code 950 = .ok (.iadd, 1) := by decide +kernel
theorem d_Law_law_951 : decode code 951 = .ok (.iaload, 1) := by decide +kernel
theorem d_Law_law_952 : decode code 952 = .ok (.ifCond .eq 7, 3) := by decide +kernel
theorem d_Law_law_955 : decode code 955 = .ok (.iconst 1, 1) := by decide +kernel
theorem d_Law_law_956 : decode code 956 = .ok (.goto 4, 3) := by decide +kernel
theorem d_Law_law_959 : decode code 959 = .ok (.iconst 0, 1) := by decide +kernel
theorem d_Law_law_960 : decode code 960 = .ok (.invokevirtual 92, 3) := by decide +kernel
theorem d_Law_law_963 : decode code 963 = .ok (.aload_n 2, 1) := by decide +kernel
theorem d_Law_law_964 : decode code 964 = .ok (.aload_n 0, 1) := by decide +kernel
theorem d_Law_law_965 : decode code 965 = .ok (.iload_n 3, 1) := by decide +kernel
theorem d_Law_law_966 : decode code 966 = .ok (.iconst 1, 1) := by decide +kernel
theorem d_Law_law_967 : decode code 967 = .ok (.iadd, 1) := by decide +kernel
theorem d_Law_law_968 : decode code 968 = .ok (.iaload, 1) := by decide +kernel
theorem d_Law_law_969 : decode code 969 = .ok (.aload_n 0, 1) := by decide +kernel
theorem d_Law_law_970 : decode code 970 = .ok (.iload_n 3, 1) := by decide +kernel
theorem d_Law_law_971 : decode code 971 = .ok (.iconst 2, 1) := by decide +kernel
theorem d_Law_law_972 : decode code 972 = .ok (.iadd, 1) := by decide +kernel
theorem d_Law_law_973 : decode code 973 = .ok (.iaload, 1) := by decide +kernel
theorem d_Law_law_974 : decode code 974 = .ok (.aload_n 0, 1) := by decide +kernel
theorem d_Law_law_975 : decode code 975 = .ok (.iload_n 3, 1) := by decide +kernel
theorem d_Law_law_976 : decode code 976 = .ok (.iconst 3, 1) := by decide +kernel
theorem d_Law_law_977 : decode code 977 = .ok (.iadd, 1) := by decide +kernel
theorem d_Law_law_978 : decode code 978 = .ok (.iaload, 1) := by decide +kernel
theorem d_Law_law_979 : decode code 979 = .ok (.aload_n 0, 1) := by decide +kernel
theorem d_Law_law_980 : decode code 980 = .ok (.iload_n 3, 1) := by decide +kernel
theorem d_Law_law_981 : decode code 981 = .ok (.iconst 4, 1) := by decide +kernel
theorem d_Law_law_982 : decode code 982 = .ok (.iadd, 1) := by decide +kernel
theorem d_Law_law_983 : decode code 983 = .ok (.iaload, 1) := by decide +kernel
theorem d_Law_law_984 : decode code 984 = .ok (.ifCond .eq 7, 3) := by decide +kernel
theorem d_Law_law_987 : decode code 987 = .ok (.iconst 1, 1) := by decide +kernel
theorem d_Law_law_988 : decode code 988 = .ok (.goto 4, 3) := by decide +kernel
theorem d_Law_law_991 : decode code 991 = .ok (.iconst 0, 1) := by decide +kernel
theorem d_Law_law_992 : decode code 992 = .ok (.invokevirtual 95, 3) := by decide +kernel
theorem d_Law_law_995 : decode code 995 = .ok (.if_icmp .eq 321, 3) := by decide +kernel
theorem d_Law_law_998 : decode code 998 = .ok (.iconst 0, 1) := by decide +kernel
theorem d_Law_law_999 : decode code 999 = .ok (.ireturn, 1) := by decide +kernel
theorem d_Law_law_1000 : decode code 1000 = .ok (.aload_n 1, 1) := by decide +kernel
theorem d_Law_law_1001 : decode code 1001 = .ok (.aload_n 0, 1) := by decide +kernel
theorem d_Law_law_1002 : decode code 1002 = .ok (.iload_n 3, 1) := by decide +kernel
theorem d_Law_law_1003 : decode code 1003 = .ok (.iconst 1, 1) := by decide +kernel
theorem d_Law_law_1004 : decode code 1004 = .ok (.iadd, 1) := by decide +kernel
theorem d_Law_law_1005 : decode code 1005 = .ok (.iaload, 1) := by decide +kernel
theorem d_Law_law_1006 : decode code 1006 = .ok (.aload_n 0, 1) := by decide +kernel
theorem d_Law_law_1007 : decode code 1007 = .ok (.iload_n 3, 1) := by decide +kernel
theorem d_Law_law_1008 : decode code 1008 = .ok (.iconst 2, 1) := by decide +kernel
theorem d_Law_law_1009 : decode code 1009 = .ok (.iadd, 1) := by decide +kernel
theorem d_Law_law_1010 : decode code 1010 = .ok (.iaload, 1) := by decide +kernel
theorem d_Law_law_1011 : decode code 1011 = .ok (.invokevirtual 96, 3) := by decide +kernel
theorem d_Law_law_1014 : decode code 1014 = .ok (.aload_n 2, 1) := by decide +kernel
theorem d_Law_law_1015 : decode code 1015 = .ok (.aload_n 0, 1) := by decide +kernel
theorem d_Law_law_1016 : decode code 1016 = .ok (.iload_n 3, 1) := by decide +kernel
theorem d_Law_law_1017 : decode code 1017 = .ok (.iconst 1, 1) := by decide +kernel
theorem d_Law_law_1018 : decode code 1018 = .ok (.iadd, 1) := by decide +kernel
theorem d_Law_law_1019 : decode code 1019 = .ok (.iaload, 1) := by decide +kernel
theorem d_Law_law_1020 : decode code 1020 = .ok (.aload_n 0, 1) := by decide +kernel
theorem d_Law_law_1021 : decode code 1021 = .ok (.iload_n 3, 1) := by decide +kernel
theorem d_Law_law_1022 : decode code 1022 = .ok (.iconst 2, 1) := by decide +kernel
theorem d_Law_law_1023 : decode code 1023 = .ok (.iadd, 1) := by decide +kernel
theorem d_Law_law_1024 : decode code 1024 = .ok (.iaload, 1) := by decide +kernel
theorem d_Law_law_1025 : decode code 1025 = .ok (.invokevirtual 99, 3) := by decide +kernel
theorem d_Law_law_1028 : decode code 1028 = .ok (.if_icmp .eq 288, 3) := by decide +kernel
theorem d_Law_law_1031 : decode code 1031 = .ok (.iconst 0, 1) := by decide +kernel
theorem d_Law_law_1032 : decode code 1032 = .ok (.ireturn, 1) := by decide +kernel
theorem d_Law_law_1033 : decode code 1033 = .ok (.aload_n 1, 1) := by decide +kernel
theorem d_Law_law_1034 : decode code 1034 = .ok (.aload_n 0, 1) := by decide +kernel
theorem d_Law_law_1035 : decode code 1035 = .ok (.iload_n 3, 1) := by decide +kernel
theorem d_Law_law_1036 : decode code 1036 = .ok (.iconst 1, 1) := by decide +kernel
theorem d_Law_law_1037 : decode code 1037 = .ok (.iadd, 1) := by decide +kernel
theorem d_Law_law_1038 : decode code 1038 = .ok (.iaload, 1) := by decide +kernel
theorem d_Law_law_1039 : decode code 1039 = .ok (.aload_n 0, 1) := by decide +kernel
theorem d_Law_law_1040 : decode code 1040 = .ok (.iload_n 3, 1) := by decide +kernel
theorem d_Law_law_1041 : decode code 1041 = .ok (.iconst 2, 1) := by decide +kernel
theorem d_Law_law_1042 : decode code 1042 = .ok (.iadd, 1) := by decide +kernel
theorem d_Law_law_1043 : decode code 1043 = .ok (.iaload, 1) := by decide +kernel
theorem d_Law_law_1044 : decode code 1044 = .ok (.invokevirtual 100, 3) := by decide +kernel
theorem d_Law_law_1047 : decode code 1047 = .ok (.aload_n 2, 1) := by decide +kernel
theorem d_Law_law_1048 : decode code 1048 = .ok (.aload_n 0, 1) := by decide +kernel
theorem d_Law_law_1049 : decode code 1049 = .ok (.iload_n 3, 1) := by decide +kernel
theorem d_Law_law_1050 : decode code 1050 = .ok (.iconst 1, 1) := by decide +kernel
theorem d_Law_law_1051 : decode code 1051 = .ok (.iadd, 1) := by decide +kernel
theorem d_Law_law_1052 : decode code 1052 = .ok (.iaload, 1) := by decide +kernel
theorem d_Law_law_1053 : decode code 1053 = .ok (.aload_n 0, 1) := by decide +kernel
theorem d_Law_law_1054 : decode code 1054 = .ok (.iload_n 3, 1) := by decide +kernel
theorem d_Law_law_1055 : decode code 1055 = .ok (.iconst 2, 1) := by decide +kernel
theorem d_Law_law_1056 : decode code 1056 = .ok (.iadd, 1) := by decide +kernel
theorem d_Law_law_1057 : decode code 1057 = .ok (.iaload, 1) := by decide +kernel
theorem d_Law_law_1058 : decode code 1058 = .ok (.invokevirtual 103, 3) := by decide +kernel
theorem d_Law_law_1061 : decode code 1061 = .ok (.if_icmp .eq 255, 3) := by decide +kernel
theorem d_Law_law_1064 : decode code 1064 = .ok (.iconst 0, 1) := by decide +kernel
theorem d_Law_law_1065 : decode code 1065 = .ok (.ireturn, 1) := by decide +kernel
theorem d_Law_law_1066 : decode code 1066 = .ok (.aload_n 1, 1) := by decide +kernel
theorem d_Law_law_1067 : decode code 1067 = .ok (.aload_n 0, 1) := by decide +kernel
theorem d_Law_law_1068 : decode code 1068 = .ok (.iload_n 3, 1) := by decide +kernel
theorem d_Law_law_1069 : decode code 1069 = .ok (.iconst 1, 1) := by decide +kernel
theorem d_Law_law_1070 : decode code 1070 = .ok (.iadd, 1) := by decide +kernel
theorem d_Law_law_1071 : decode code 1071 = .ok (.iaload, 1) := by decide +kernel
theorem d_Law_law_1072 : decode code 1072 = .ok (.aload_n 0, 1) := by decide +kernel
theorem d_Law_law_1073 : decode code 1073 = .ok (.iload_n 3, 1) := by decide +kernel
theorem d_Law_law_1074 : decode code 1074 = .ok (.iconst 2, 1) := by decide +kernel
theorem d_Law_law_1075 : decode code 1075 = .ok (.iadd, 1) := by decide +kernel
theorem d_Law_law_1076 : decode code 1076 = .ok (.iaload, 1) := by decide +kernel
theorem d_Law_law_1077 : decode code 1077 = .ok (.invokevirtual 104, 3) := by decide +kernel
theorem d_Law_law_1080 : decode code 1080 = .ok (.aload_n 2, 1) := by decide +kernel
theorem d_Law_law_1081 : decode code 1081 = .ok (.aload_n 0, 1) := by decide +kernel
theorem d_Law_law_1082 : decode code 1082 = .ok (.iload_n 3, 1) := by decide +kernel
theorem d_Law_law_1083 : decode code 1083 = .ok (.iconst 1, 1) := by decide +kernel
theorem d_Law_law_1084 : decode code 1084 = .ok (.iadd, 1) := by decide +kernel
theorem d_Law_law_1085 : decode code 1085 = .ok (.iaload, 1) := by decide +kernel
theorem d_Law_law_1086 : decode code 1086 = .ok (.aload_n 0, 1) := by decide +kernel
theorem d_Law_law_1087 : decode code 1087 = .ok (.iload_n 3, 1) := by decide +kernel
theorem d_Law_law_1088 : decode code 1088 = .ok (.iconst 2, 1) := by decide +kernel
theorem d_Law_law_1089 : decode code 1089 = .ok (.iadd, 1) := by decide +kernel
theorem d_Law_law_1090 : decode code 1090 = .ok (.iaload, 1) := by decide +kernel
theorem d_Law_law_1091 : decode code 1091 = .ok (.invokevirtual 107, 3) := by decide +kernel
theorem d_Law_law_1094 : decode code 1094 = .ok (.if_icmp .eq 222, 3) := by decide +kernel
theorem d_Law_law_1097 : decode code 1097 = .ok (.iconst 0, 1) := by decide +kernel
theorem d_Law_law_1098 : decode code 1098 = .ok (.ireturn, 1) := by decide +kernel
theorem d_Law_law_1099 : decode code 1099 = .ok (.aload_n 1, 1) := by decide +kernel
theorem d_Law_law_1100 : decode code 1100 = .ok (.aload_n 0, 1) := by decide +kernel
theorem d_Law_law_1101 : decode code 1101 = .ok (.iload_n 3, 1) := by decide +kernel
theorem d_Law_law_1102 : decode code 1102 = .ok (.iconst 1, 1) := by decide +kernel
theorem d_Law_law_1103 : decode code 1103 = .ok (.iadd, 1) := by decide +kernel
theorem d_Law_law_1104 : decode code 1104 = .ok (.iaload, 1) := by decide +kernel
theorem d_Law_law_1105 : decode code 1105 = .ok (.aload_n 0, 1) := by decide +kernel
theorem d_Law_law_1106 : decode code 1106 = .ok (.iload_n 3, 1) := by decide +kernel
theorem d_Law_law_1107 : decode code 1107 = .ok (.iconst 2, 1) := by decide +kernel
theorem d_Law_law_1108 : decode code 1108 = .ok (.iadd, 1) := by decide +kernel
theorem d_Law_law_1109 : decode code 1109 = .ok (.iaload, 1) := by decide +kernel
theorem d_Law_law_1110 : decode code 1110 = .ok (.aload_n 0, 1) := by decide +kernel
theorem d_Law_law_1111 : decode code 1111 = .ok (.iload_n 3, 1) := by decide +kernel
theorem d_Law_law_1112 : decode code 1112 = .ok (.iconst 3, 1) := by decide +kernel
theorem d_Law_law_1113 : decode code 1113 = .ok (.iadd, 1) := by decide +kernel
theorem d_Law_law_1114 : decode code 1114 = .ok (.iaload, 1) := by decide +kernel
theorem d_Law_law_1115 : decode code 1115 = .ok (.invokevirtual 108, 3) := by decide +kernel
theorem d_Law_law_1118 : decode code 1118 = .ok (.aload_n 2, 1) := by decide +kernel
theorem d_Law_law_1119 : decode code 1119 = .ok (.aload_n 0, 1) := by decide +kernel
theorem d_Law_law_1120 : decode code 1120 = .ok (.iload_n 3, 1) := by decide +kernel
theorem d_Law_law_1121 : decode code 1121 = .ok (.iconst 1, 1) := by decide +kernel
theorem d_Law_law_1122 : decode code 1122 = .ok (.iadd, 1) := by decide +kernel
theorem d_Law_law_1123 : decode code 1123 = .ok (.iaload, 1) := by decide +kernel
theorem d_Law_law_1124 : decode code 1124 = .ok (.aload_n 0, 1) := by decide +kernel
theorem d_Law_law_1125 : decode code 1125 = .ok (.iload_n 3, 1) := by decide +kernel
theorem d_Law_law_1126 : decode code 1126 = .ok (.iconst 2, 1) := by decide +kernel
theorem d_Law_law_1127 : decode code 1127 = .ok (.iadd, 1) := by decide +kernel
theorem d_Law_law_1128 : decode code 1128 = .ok (.iaload, 1) := by decide +kernel
theorem d_Law_law_1129 : decode code 1129 = .ok (.aload_n 0, 1) := by decide +kernel
theorem d_Law_law_1130 : decode code 1130 = .ok (.iload_n 3, 1) := by decide +kernel
theorem d_Law_law_1131 : decode code 1131 = .ok (.iconst 3, 1) := by decide +kernel
theorem d_Law_law_1132 : decode code 1132 = .ok (.iadd, 1) := by decide +kernel
theorem d_Law_law_1133 : decode code 1133 = .ok (.iaload, 1) := by decide +kernel
theorem d_Law_law_1134 : decode code 1134 = .ok (.invokevirtual 111, 3) := by decide +kernel
theorem d_Law_law_1137 : decode code 1137 = .ok (.if_icmp .eq 179, 3) := by decide +kernel
theorem d_Law_law_1140 : decode code 1140 = .ok (.iconst 0, 1) := by decide +kernel
theorem d_Law_law_1141 : decode code 1141 = .ok (.ireturn, 1) := by decide +kernel
theorem d_Law_law_1142 : decode code 1142 = .ok (.aload_n 1, 1) := by decide +kernel
theorem d_Law_law_1143 : decode code 1143 = .ok (.aload_n 0, 1) := by decide +kernel
theorem d_Law_law_1144 : decode code 1144 = .ok (.iload_n 3, 1) := by decide +kernel
theorem d_Law_law_1145 : decode code 1145 = .ok (.iconst 1, 1) := by decide +kernel
theorem d_Law_law_1146 : decode code 1146 = .ok (.iadd, 1) := by decide +kernel
theorem d_Law_law_1147 : decode code 1147 = .ok (.iaload, 1) := by decide +kernel
theorem d_Law_law_1148 : decode code 1148 = .ok (.invokevirtual 112, 3) := by decide +kernel
theorem d_Law_law_1151 : decode code 1151 = .ok (.aload_n 2, 1) := by decide +kernel
theorem d_Law_law_1152 : decode code 1152 = .ok (.aload_n 0, 1) := by decide +kernel
theorem d_Law_law_1153 : decode code 1153 = .ok (.iload_n 3, 1) := by decide +kernel
theorem d_Law_law_1154 : decode code 1154 = .ok (.iconst 1, 1) := by decide +kernel
theorem d_Law_law_1155 : decode code 1155 = .ok (.iadd, 1) := by decide +kernel
theorem d_Law_law_1156 : decode code 1156 = .ok (.iaload, 1) := by decide +kernel
theorem d_Law_law_1157 : decode code 1157 = .ok (.invokevirtual 116, 3) := by decide +kernel
theorem d_Law_law_1160 : decode code 1160 = .ok (.if_icmp .eq 156, 3) := by decide +kernel
theorem d_Law_law_1163 : decode code 1163 = .ok (.iconst 0, 1) := by decide +kernel
theorem d_Law_law_1164 : decode code 1164 = .ok (.ireturn, 1) := by decide +kernel
theorem d_Law_law_1165 : decode code 1165 = .ok (.aload_n 1, 1) := by decide +kernel
theorem d_Law_law_1166 : decode code 1166 = .ok (.aload_n 0, 1) := by decide +kernel
theorem d_Law_law_1167 : decode code 1167 = .ok (.iload_n 3, 1) := by decide +kernel
theorem d_Law_law_1168 : decode code 1168 = .ok (.iconst 1, 1) := by decide +kernel
theorem d_Law_law_1169 : decode code 1169 = .ok (.iadd, 1) := by decide +kernel
theorem d_Law_law_1170 : decode code 1170 = .ok (.iaload, 1) := by decide +kernel
theorem d_Law_law_1171 : decode code 1171 = .ok (.aload_n 0, 1) := by decide +kernel
theorem d_Law_law_1172 : decode code 1172 = .ok (.iload_n 3, 1) := by decide +kernel
theorem d_Law_law_1173 : decode code 1173 = .ok (.iconst 2, 1) := by decide +kernel
theorem d_Law_law_1174 : decode code 1174 = .ok (.iadd, 1) := by decide +kernel
theorem d_Law_law_1175 : decode code 1175 = .ok (.iaload, 1) := by decide +kernel
theorem d_Law_law_1176 : decode code 1176 = .ok (.invokevirtual 117, 3) := by decide +kernel
theorem d_Law_law_1179 : decode code 1179 = .ok (.aload_n 2, 1) := by decide +kernel
theorem d_Law_law_1180 : decode code 1180 = .ok (.aload_n 0, 1) := by decide +kernel
theorem d_Law_law_1181 : decode code 1181 = .ok (.iload_n 3, 1) := by decide +kernel
theorem d_Law_law_1182 : decode code 1182 = .ok (.iconst 1, 1) := by decide +kernel
theorem d_Law_law_1183 : decode code 1183 = .ok (.iadd, 1) := by decide +kernel
theorem d_Law_law_1184 : decode code 1184 = .ok (.iaload, 1) := by decide +kernel
theorem d_Law_law_1185 : decode code 1185 = .ok (.aload_n 0, 1) := by decide +kernel
theorem d_Law_law_1186 : decode code 1186 = .ok (.iload_n 3, 1) := by decide +kernel
theorem d_Law_law_1187 : decode code 1187 = .ok (.iconst 2, 1) := by decide +kernel
theorem d_Law_law_1188 : decode code 1188 = .ok (.iadd, 1) := by decide +kernel
theorem d_Law_law_1189 : decode code 1189 = .ok (.iaload, 1) := by decide +kernel
theorem d_Law_law_1190 : decode code 1190 = .ok (.invokevirtual 120, 3) := by decide +kernel
theorem d_Law_law_1193 : decode code 1193 = .ok (.if_icmp .eq 123, 3) := by decide +kernel
theorem d_Law_law_1196 : decode code 1196 = .ok (.iconst 0, 1) := by decide +kernel
theorem d_Law_law_1197 : decode code 1197 = .ok (.ireturn, 1) := by decide +kernel
theorem d_Law_law_1198 : decode code 1198 = .ok (.aload_n 1, 1) := by decide +kernel
theorem d_Law_law_1199 : decode code 1199 = .ok (.aload_n 0, 1) := by decide +kernel
theorem d_Law_law_1200 : decode code 1200 = .ok (.iload_n 3, 1) := by decide +kernel
theorem d_Law_law_1201 : decode code 1201 = .ok (.iconst 1, 1) := by decide +kernel
theorem d_Law_law_1202 : decode code 1202 = .ok (.iadd, 1) := by decide +kernel
theorem d_Law_law_1203 : decode code 1203 = .ok (.iaload, 1) := by decide +kernel
theorem d_Law_law_1204 : decode code 1204 = .ok (.invokevirtual 121, 3) := by decide +kernel
theorem d_Law_law_1207 : decode code 1207 = .ok (.aload_n 2, 1) := by decide +kernel
theorem d_Law_law_1208 : decode code 1208 = .ok (.aload_n 0, 1) := by decide +kernel
theorem d_Law_law_1209 : decode code 1209 = .ok (.iload_n 3, 1) := by decide +kernel
theorem d_Law_law_1210 : decode code 1210 = .ok (.iconst 1, 1) := by decide +kernel
theorem d_Law_law_1211 : decode code 1211 = .ok (.iadd, 1) := by decide +kernel
theorem d_Law_law_1212 : decode code 1212 = .ok (.iaload, 1) := by decide +kernel
theorem d_Law_law_1213 : decode code 1213 = .ok (.invokevirtual 124, 3) := by decide +kernel
theorem d_Law_law_1216 : decode code 1216 = .ok (.if_icmp .eq 100, 3) := by decide +kernel
theorem d_Law_law_1219 : decode code 1219 = .ok (.iconst 0, 1) := by decide +kernel
theorem d_Law_law_1220 : decode code 1220 = .ok (.ireturn, 1) := by decide +kernel
theorem d_Law_law_1221 : decode code 1221 = .ok (.aload_n 1, 1) := by decide +kernel
theorem d_Law_law_1222 : decode code 1222 = .ok (.aload_n 0, 1) := by decide +kernel
theorem d_Law_law_1223 : decode code 1223 = .ok (.iload_n 3, 1) := by decide +kernel
theorem d_Law_law_1224 : decode code 1224 = .ok (.iconst 1, 1) := by decide +kernel
theorem d_Law_law_1225 : decode code 1225 = .ok (.iadd, 1) := by decide +kernel
theorem d_Law_law_1226 : decode code 1226 = .ok (.iaload, 1) := by decide +kernel
theorem d_Law_law_1227 : decode code 1227 = .ok (.aload_n 0, 1) := by decide +kernel
theorem d_Law_law_1228 : decode code 1228 = .ok (.iload_n 3, 1) := by decide +kernel
theorem d_Law_law_1229 : decode code 1229 = .ok (.iconst 2, 1) := by decide +kernel
theorem d_Law_law_1230 : decode code 1230 = .ok (.iadd, 1) := by decide +kernel
theorem d_Law_law_1231 : decode code 1231 = .ok (.iaload, 1) := by decide +kernel
theorem d_Law_law_1232 : decode code 1232 = .ok (.invokevirtual 125, 3) := by decide +kernel
theorem d_Law_law_1235 : decode code 1235 = .ok (.aload_n 2, 1) := by decide +kernel
theorem d_Law_law_1236 : decode code 1236 = .ok (.aload_n 0, 1) := by decide +kernel
theorem d_Law_law_1237 : decode code 1237 = .ok (.iload_n 3, 1) := by decide +kernel
theorem d_Law_law_1238 : decode code 1238 = .ok (.iconst 1, 1) := by decide +kernel
theorem d_Law_law_1239 : decode code 1239 = .ok (.iadd, 1) := by decide +kernel
theorem d_Law_law_1240 : decode code 1240 = .ok (.iaload, 1) := by decide +kernel
theorem d_Law_law_1241 : decode code 1241 = .ok (.aload_n 0, 1) := by decide +kernel
theorem d_Law_law_1242 : decode code 1242 = .ok (.iload_n 3, 1) := by decide +kernel
theorem d_Law_law_1243 : decode code 1243 = .ok (.iconst 2, 1) := by decide +kernel
theorem d_Law_law_1244 : decode code 1244 = .ok (.iadd, 1) := by decide +kernel
theorem d_Law_law_1245 : decode code 1245 = .ok (.iaload, 1) := by decide +kernel
theorem d_Law_law_1246 : decode code 1246 = .ok (.invokevirtual 128, 3) := by decide +kernel
theorem d_Law_law_1249 : decode code 1249 = .ok (.if_icmp .eq 67, 3) := by decide +kernel
theorem d_Law_law_1252 : decode code 1252 = .ok (.iconst 0, 1) := by decide +kernel
theorem d_Law_law_1253 : decode code 1253 = .ok (.ireturn, 1) := by decide +kernel
theorem d_Law_law_1254 : decode code 1254 = .ok (.aload_n 1, 1) := by decide +kernel
theorem d_Law_law_1255 : decode code 1255 = .ok (.invokevirtual 129, 3) := by decide +kernel
theorem d_Law_law_1258 : decode code 1258 = .ok (.aload_n 2, 1) := by decide +kernel
theorem d_Law_law_1259 : decode code 1259 = .ok (.invokevirtual 132, 3) := by decide +kernel
theorem d_Law_law_1262 : decode code 1262 = .ok (.if_icmp .eq 54, 3) := by decide +kernel
theorem d_Law_law_1265 : decode code 1265 = .ok (.iconst 0, 1) := by decide +kernel
theorem d_Law_law_1266 : decode code 1266 = .ok (.ireturn, 1) := by decide +kernel
theorem d_Law_law_1267 : decode code 1267 = .ok (.aload_n 1, 1) := by decide +kernel
theorem d_Law_law_1268 : decode code 1268 = .ok (.invokevirtual 133, 3) := by decide +kernel
theorem d_Law_law_1271 : decode code 1271 = .ok (.aload_n 2, 1) := by decide +kernel
theorem d_Law_law_1272 : decode code 1272 = .ok (.invokevirtual 136, 3) := by decide +kernel
theorem d_Law_law_1275 : decode code 1275 = .ok (.if_icmp .eq 41, 3) := by decide +kernel
theorem d_Law_law_1278 : decode code 1278 = .ok (.iconst 0, 1) := by decide +kernel
theorem d_Law_law_1279 : decode code 1279 = .ok (.ireturn, 1) := by decide +kernel
theorem d_Law_law_1280 : decode code 1280 = .ok (.aload_n 1, 1) := by decide +kernel
theorem d_Law_law_1281 : decode code 1281 = .ok (.invokevirtual 137, 3) := by decide +kernel
theorem d_Law_law_1284 : decode code 1284 = .ok (.aload_n 2, 1) := by decide +kernel
theorem d_Law_law_1285 : decode code 1285 = .ok (.invokevirtual 140, 3) := by decide +kernel
theorem d_Law_law_1288 : decode code 1288 = .ok (.if_icmp .eq 28, 3) := by decide +kernel
theorem d_Law_law_1291 : decode code 1291 = .ok (.iconst 0, 1) := by decide +kernel
theorem d_Law_law_1292 : decode code 1292 = .ok (.ireturn, 1) := by decide +kernel
theorem d_Law_law_1293 : decode code 1293 = .ok (.aload_n 1, 1) := by decide +kernel
theorem d_Law_law_1294 : decode code 1294 = .ok (.aload_n 0, 1) := by decide +kernel
theorem d_Law_law_1295 : decode code 1295 = .ok (.iload_n 3, 1) := by decide +kernel
theorem d_Law_law_1296 : decode code 1296 = .ok (.iconst 1, 1) := by decide +kernel
theorem d_Law_law_1297 : decode code 1297 = .ok (.iadd, 1) := by decide +kernel
theorem d_Law_law_1298 : decode code 1298 = .ok (.iaload, 1) := by decide +kernel
theorem d_Law_law_1299 : decode code 1299 = .ok (.invokevirtual 141, 3) := by decide +kernel
theorem d_Law_law_1302 : decode code 1302 = .ok (.aload_n 2, 1) := by decide +kernel
theorem d_Law_law_1303 : decode code 1303 = .ok (.aload_n 0, 1) := by decide +kernel
theorem d_Law_law_1304 : decode code 1304 = .ok (.iload_n 3, 1) := by decide +kernel
theorem d_Law_law_1305 : decode code 1305 = .ok (.iconst 1, 1) := by decide +kernel
theorem d_Law_law_1306 : decode code 1306 = .ok (.iadd, 1) := by decide +kernel
theorem d_Law_law_1307 : decode code 1307 = .ok (.iaload, 1) := by decide +kernel
theorem d_Law_law_1308 : decode code 1308 = .ok (.invokevirtual 144, 3) := by decide +kernel
theorem d_Law_law_1311 : decode code 1311 = .ok (.if_icmp .eq 5, 3) := by decide +kernel
theorem d_Law_law_1314 : decode code 1314 = .ok (.iconst 0, 1) := by decide +kernel
theorem d_Law_law_1315 : decode code 1315 = .ok (.ireturn, 1) := by decide +kernel
theorem d_Law_law_1316 : decode code 1316 = .ok (.iinc 3 7, 3) := by decide +kernel
theorem d_Law_law_1319 : decode code 1319 = .ok (.goto (-1301), 3) := by decide +kernel
theorem d_Law_law_1322 : decode code 1322 = .ok (.iconst 1, 1) := by decide +kernel
theorem d_Law_law_1323 : decode code 1323 = .ok (.ireturn, 1) := by decide +kernel

theorem za_1 {Z : Zt} (hN : 143 ≤ Z.2.2.2.1) : Zin Z 1 16 9 := ⟨by decide +kernel, by decide, Int.le_trans (by decide) hN⟩
theorem za_2 {Z : Zt} (hN : 143 ≤ Z.2.2.2.1) : Zin Z 2 10 2 := ⟨by decide +kernel, by decide, Int.le_trans (by decide) hN⟩
theorem za_3 {Z : Zt} (hN : 143 ≤ Z.2.2.2.1) : Zin Z 3 0 500 := ⟨by decide +kernel, by decide, Int.le_trans (by decide) hN⟩
theorem za_4 {Z : Zt} (hN : 143 ≤ Z.2.2.2.1) : Zin Z 4 11 1 := ⟨by decide +kernel, by decide, Int.le_trans (by decide) hN⟩
theorem za_5 {Z : Zt} (hN : 143 ≤ Z.2.2.2.1) : Zin Z 5 0 4 := ⟨by decide +kernel, by decide, Int.le_trans (by decide) hN⟩
theorem za_6 {Z : Zt} (hN : 143 ≤ Z.2.2.2.1) : Zin Z 6 12 7 := ⟨by decide +kernel, by decide, Int.le_trans (by decide) hN⟩
theorem za_7 {Z : Zt} (hN : 143 ≤ Z.2.2.2.1) : Zin Z 7 0 16 := ⟨by decide +kernel, by decide, Int.le_trans (by decide) hN⟩
theorem za_8 {Z : Zt} (hN : 143 ≤ Z.2.2.2.1) : Zin Z 8 0 16 := ⟨by decide +kernel, by decide, Int.le_trans (by decide) hN⟩
theorem za_9 {Z : Zt} (hN : 143 ≤ Z.2.2.2.1) : Zin Z 9 0 16 := ⟨by decide +kernel, by decide, Int.le_trans (by decide) hN⟩
theorem za_10 {Z : Zt} (hN : 143 ≤ Z.2.2.2.1) : Zin Z 10 13 1 := ⟨by decide +kernel, by decide, Int.le_trans (by decide) hN⟩
theorem za_11 {Z : Zt} (hN : 143 ≤ Z.2.2.2.1) : Zin Z 11 0 4 := ⟨by decide +kernel, by decide, Int.le_trans (by decide) hN⟩
theorem za_12 {Z : Zt} (hN : 143 ≤ Z.2.2.2.1) : Zin Z 12 14 5 := ⟨by decide +kernel, by decide, Int.le_trans (by decide) hN⟩
theorem za_13 {Z : Zt} (hN : 143 ≤ Z.2.2.2.1) : Zin Z 13 1 10 := ⟨by decide +kernel, by decide, Int.le_trans (by decide) hN⟩
theorem za_14 {Z : Zt} (hN : 143 ≤ Z.2.2.2.1) : Zin Z 14 0 6 := ⟨by decide +kernel, by decide, Int.le_trans (by decide) hN⟩
theorem za_15 {Z : Zt} (hN : 143 ≤ Z.2.2.2.1) : Zin Z 15 0 6 := ⟨by decide +kernel, by decide, Int.le_trans (by decide) hN⟩
theorem za_16 {Z : Zt} (hN : 143 ≤ Z.2.2.2.1) : Zin Z 16 0 6 := ⟨by decide +kernel, by decide, Int.le_trans (by decide) hN⟩
theorem za_17 {Z : Zt} (hN : 143 ≤ Z.2.2.2.1) : Zin Z 17 0 6 := ⟨by decide +kernel, by decide, Int.le_trans (by decide) hN⟩
theorem za_18 {Z : Zt} (hN : 143 ≤ Z.2.2.2.1) : Zin Z 18 0 6 := ⟨by decide +kernel, by decide, Int.le_trans (by decide) hN⟩
theorem za_19 {Z : Zt} (hN : 143 ≤ Z.2.2.2.1) : Zin Z 19 0 6 := ⟨by decide +kernel, by decide, Int.le_trans (by decide) hN⟩
theorem za_20 {Z : Zt} (hN : 143 ≤ Z.2.2.2.1) : Zin Z 20 0 6 := ⟨by decide +kernel, by decide, Int.le_trans (by decide) hN⟩
theorem za_21 {Z : Zt} (hN : 143 ≤ Z.2.2.2.1) : Zin Z 21 0 6 := ⟨by decide +kernel, by decide, Int.le_trans (by decide) hN⟩
theorem za_22 {Z : Zt} (hN : 143 ≤ Z.2.2.2.1) : Zin Z 22 0 6 := ⟨by decide +kernel, by decide, Int.le_trans (by decide) hN⟩
theorem za_23 {Z : Zt} (hN : 143 ≤ Z.2.2.2.1) : Zin Z 23 0 6 := ⟨by decide +kernel, by decide, Int.le_trans (by decide) hN⟩
theorem za_24 {Z : Zt} (hN : 143 ≤ Z.2.2.2.1) : Zin Z 24 1 6 := ⟨by decide +kernel, by decide, Int.le_trans (by decide) hN⟩
theorem za_25 {Z : Zt} (hN : 143 ≤ Z.2.2.2.1) : Zin Z 25 0 6 := ⟨by decide +kernel, by decide, Int.le_trans (by decide) hN⟩
theorem za_26 {Z : Zt} (hN : 143 ≤ Z.2.2.2.1) : Zin Z 26 0 6 := ⟨by decide +kernel, by decide, Int.le_trans (by decide) hN⟩
theorem za_27 {Z : Zt} (hN : 143 ≤ Z.2.2.2.1) : Zin Z 27 0 6 := ⟨by decide +kernel, by decide, Int.le_trans (by decide) hN⟩
theorem za_28 {Z : Zt} (hN : 143 ≤ Z.2.2.2.1) : Zin Z 28 0 6 := ⟨by decide +kernel, by decide, Int.le_trans (by decide) hN⟩
theorem za_29 {Z : Zt} (hN : 143 ≤ Z.2.2.2.1) : Zin Z 29 0 6 := ⟨by decide +kernel, by decide, Int.le_trans (by decide) hN⟩
theorem za_30 {Z : Zt} (hN : 143 ≤ Z.2.2.2.1) : Zin Z 30 0 6 := ⟨by decide +kernel, by decide, Int.le_trans (by decide) hN⟩
theorem za_31 {Z : Zt} (hN : 143 ≤ Z.2.2.2.1) : Zin Z 31 2 2 := ⟨by decide +kernel, by decide, Int.le_trans (by decide) hN⟩
theorem za_32 {Z : Zt} (hN : 143 ≤ Z.2.2.2.1) : Zin Z 32 15 13 := ⟨by decide +kernel, by decide, Int.le_trans (by decide) hN⟩
theorem za_33 {Z : Zt} (hN : 143 ≤ Z.2.2.2.1) : Zin Z 33 1 6 := ⟨by decide +kernel, by decide, Int.le_trans (by decide) hN⟩
theorem za_34 {Z : Zt} (hN : 143 ≤ Z.2.2.2.1) : Zin Z 34 0 4 := ⟨by decide +kernel, by decide, Int.le_trans (by decide) hN⟩
theorem za_35 {Z : Zt} (hN : 143 ≤ Z.2.2.2.1) : Zin Z 35 0 4 := ⟨by decide +kernel, by decide, Int.le_trans (by decide) hN⟩
theorem za_36 {Z : Zt} (hN : 143 ≤ Z.2.2.2.1) : Zin Z 36 0 4 := ⟨by decide +kernel, by decide, Int.le_trans (by decide) hN⟩
theorem za_37 {Z : Zt} (hN : 143 ≤ Z.2.2.2.1) : Zin Z 37 0 4 := ⟨by decide +kernel, by decide, Int.le_trans (by decide) hN⟩
theorem za_38 {Z : Zt} (hN : 143 ≤ Z.2.2.2.1) : Zin Z 38 0 4 := ⟨by decide +kernel, by decide, Int.le_trans (by decide) hN⟩
theorem za_39 {Z : Zt} (hN : 143 ≤ Z.2.2.2.1) : Zin Z 39 0 4 := ⟨by decide +kernel, by decide, Int.le_trans (by decide) hN⟩
theorem za_40 {Z : Zt} (hN : 143 ≤ Z.2.2.2.1) : Zin Z 40 0 10 := ⟨by decide +kernel, by decide, Int.le_trans (by decide) hN⟩
theorem za_41 {Z : Zt} (hN : 143 ≤ Z.2.2.2.1) : Zin Z 41 0 10 := ⟨by decide +kernel, by decide, Int.le_trans (by decide) hN⟩
theorem za_42 {Z : Zt} (hN : 143 ≤ Z.2.2.2.1) : Zin Z 42 0 10 := ⟨by decide +kernel, by decide, Int.le_trans (by decide) hN⟩
theorem za_43 {Z : Zt} (hN : 143 ≤ Z.2.2.2.1) : Zin Z 43 0 10 := ⟨by decide +kernel, by decide, Int.le_trans (by decide) hN⟩
theorem za_44 {Z : Zt} (hN : 143 ≤ Z.2.2.2.1) : Zin Z 44 1 10 := ⟨by decide +kernel, by decide, Int.le_trans (by decide) hN⟩
theorem za_45 {Z : Zt} (hN : 143 ≤ Z.2.2.2.1) : Zin Z 45 0 6 := ⟨by decide +kernel, by decide, Int.le_trans (by decide) hN⟩
theorem za_46 {Z : Zt} (hN : 143 ≤ Z.2.2.2.1) : Zin Z 46 0 6 := ⟨by decide +kernel, by decide, Int.le_trans (by decide) hN⟩
theorem za_47 {Z : Zt} (hN : 143 ≤ Z.2.2.2.1) : Zin Z 47 0 6 := ⟨by decide +kernel, by decide, Int.le_trans (by decide) hN⟩
theorem za_48 {Z : Zt} (hN : 143 ≤ Z.2.2.2.1) : Zin Z 48 0 6 := ⟨by decide +kernel, by decide, Int.le_trans (by decide) hN⟩
theorem za_49 {Z : Zt} (hN : 143 ≤ Z.2.2.2.1) : Zin Z 49 0 6 := ⟨by decide +kernel, by decide, Int.le_trans (by decide) hN⟩
theorem za_50 {Z : Zt} (hN : 143 ≤ Z.2.2.2.1) : Zin Z 50 0 6 := ⟨by decide +kernel, by decide, Int.le_trans (by decide) hN⟩
theorem za_51 {Z : Zt} (hN : 143 ≤ Z.2.2.2.1) : Zin Z 51 0 6 := ⟨by decide +kernel, by decide, Int.le_trans (by decide) hN⟩
theorem za_52 {Z : Zt} (hN : 143 ≤ Z.2.2.2.1) : Zin Z 52 0 6 := ⟨by decide +kernel, by decide, Int.le_trans (by decide) hN⟩
theorem za_53 {Z : Zt} (hN : 143 ≤ Z.2.2.2.1) : Zin Z 53 0 6 := ⟨by decide +kernel, by decide, Int.le_trans (by decide) hN⟩
theorem za_54 {Z : Zt} (hN : 143 ≤ Z.2.2.2.1) : Zin Z 54 0 6 := ⟨by decide +kernel, by decide, Int.le_trans (by decide) hN⟩
theorem za_55 {Z : Zt} (hN : 143 ≤ Z.2.2.2.1) : Zin Z 55 1 4 := ⟨by decide +kernel, by decide, Int.le_trans (by decide) hN⟩
theorem za_56 {Z : Zt} (hN : 143 ≤ Z.2.2.2.1) : Zin Z 56 0 6 := ⟨by decide +kernel, by decide, Int.le_trans (by decide) hN⟩
theorem za_57 {Z : Zt} (hN : 143 ≤ Z.2.2.2.1) : Zin Z 57 0 6 := ⟨by decide +kernel, by decide, Int.le_trans (by decide) hN⟩
theorem za_58 {Z : Zt} (hN : 143 ≤ Z.2.2.2.1) : Zin Z 58 0 6 := ⟨by decide +kernel, by decide, Int.le_trans (by decide) hN⟩
theorem za_59 {Z : Zt} (hN : 143 ≤ Z.2.2.2.1) : Zin Z 59 0 6 := ⟨by decide +kernel, by decide, Int.le_trans (by decide) hN⟩
theorem za_60 {Z : Zt} (hN : 143 ≤ Z.2.2.2.1) : Zin Z 60 0 4 := ⟨by decide +kernel, by decide, Int.le_trans (by decide) hN⟩
theorem za_61 {Z : Zt} (hN : 143 ≤ Z.2.2.2.1) : Zin Z 61 0 4 := ⟨by decide +kernel, by decide, Int.le_trans (by decide) hN⟩
theorem za_62 {Z : Zt} (hN : 143 ≤ Z.2.2.2.1) : Zin Z 62 1 6 := ⟨by decide +kernel, by decide, Int.le_trans (by decide) hN⟩
theorem za_63 {Z : Zt} (hN : 143 ≤ Z.2.2.2.1) : Zin Z 63 0 6 := ⟨by decide +kernel, by decide, Int.le_trans (by decide) hN⟩
theorem za_64 {Z : Zt} (hN : 143 ≤ Z.2.2.2.1) : Zin Z 64 0 6 := ⟨by decide +kernel, by decide, Int.le_trans (by decide) hN⟩
theorem za_65 {Z : Zt} (hN : 143 ≤ Z.2.2.2.1) : Zin Z 65 0 6 := ⟨by decide +kernel, by decide, Int.le_trans (by decide) hN⟩
theorem za_66 {Z : Zt} (hN : 143 ≤ Z.2.2.2.1) : Zin Z 66 0 6 := ⟨by decide +kernel, by decide, Int.le_trans (by decide) hN⟩
theorem za_67 {Z : Zt} (hN : 143 ≤ Z.2.2.2.1) : Zin Z 67 0 6 := ⟨by decide +kernel, by decide, Int.le_trans (by decide) hN⟩
theorem za_68 {Z : Zt} (hN : 143 ≤ Z.2.2.2.1) : Zin Z 68 0 6 := ⟨by decide +kernel, by decide, Int.le_trans (by decide) hN⟩
theorem za_69 {Z : Zt} (hN : 143 ≤ Z.2.2.2.1) : Zin Z 69 15 13 := ⟨by decide +kernel, by decide, Int.le_trans (by decide) hN⟩
theorem za_70 {Z : Zt} (hN : 143 ≤ Z.2.2.2.1) : Zin Z 70 1 6 := ⟨by decide +kernel, by decide, Int.le_trans (by decide) hN⟩
theorem za_71 {Z : Zt} (hN : 143 ≤ Z.2.2.2.1) : Zin Z 71 0 4 := ⟨by decide +kernel, by decide, Int.le_trans (by decide) hN⟩
theorem za_72 {Z : Zt} (hN : 143 ≤ Z.2.2.2.1) : Zin Z 72 0 4 := ⟨by decide +kernel, by decide, Int.le_trans (by decide) hN⟩
theorem za_73 {Z : Zt} (hN : 143 ≤ Z.2.2.2.1) : Zin Z 73 0 4 := ⟨by decide +kernel, by decide, Int.le_trans (by decide) hN⟩
theorem za_74 {Z : Zt} (hN : 143 ≤ Z.2.2.2.1) : Zin Z 74 0 4 := ⟨by decide +kernel, by decide, Int.le_trans (by decide) hN⟩
theorem za_75 {Z : Zt} (hN : 143 ≤ Z.2.2.2.1) : Zin Z 75 0 4 := ⟨by decide +kernel, by decide, Int.le_trans (by decide) hN⟩
theorem za_76 {Z : Zt} (hN : 143 ≤ Z.2.2.2.1) : Zin Z 76 0 4 := ⟨by decide +kernel, by decide, Int.le_trans (by decide) hN⟩
theorem za_77 {Z : Zt} (hN : 143 ≤ Z.2.2.2.1) : Zin Z 77 0 10 := ⟨by decide +kernel, by decide, Int.le_trans (by decide) hN⟩
theorem za_78 {Z : Zt} (hN : 143 ≤ Z.2.2.2.1) : Zin Z 78 0 10 := ⟨by decide +kernel, by decide, Int.le_trans (by decide) hN⟩
theorem za_79 {Z : Zt} (hN : 143 ≤ Z.2.2.2.1) : Zin Z 79 0 10 := ⟨by decide +kernel, by decide, Int.le_trans (by decide) hN⟩
theorem za_80 {Z : Zt} (hN : 143 ≤ Z.2.2.2.1) : Zin Z 80 0 10 := ⟨by decide +kernel, by decide, Int.le_trans (by decide) hN⟩
theorem za_81 {Z : Zt} (hN : 143 ≤ Z.2.2.2.1) : Zin Z 81 1 10 := ⟨by decide +kernel, by decide, Int.le_trans (by decide) hN⟩
theorem za_82 {Z : Zt} (hN : 143 ≤ Z.2.2.2.1) : Zin Z 82 0 6 := ⟨by decide +kernel, by decide, Int.le_trans (by decide) hN⟩
theorem za_83 {Z : Zt} (hN : 143 ≤ Z.2.2.2.1) : Zin Z 83 0 6 := ⟨by decide +kernel, by decide, Int.le_trans (by decide) hN⟩
theorem za_84 {Z : Zt} (hN : 143 ≤ Z.2.2.2.1) : Zin Z 84 0 6 := ⟨by decide +kernel, by decide, Int.le_trans (by decide) hN⟩
theorem za_85 {Z : Zt} (hN : 143 ≤ Z.2.2.2.1) : Zin Z 85 0 6 := ⟨by decide +kernel, by decide, Int.le_trans (by decide) hN⟩
theorem za_86 {Z : Zt} (hN : 143 ≤ Z.2.2.2.1) : Zin Z 86 0 6 := ⟨by decide +kernel, by decide, Int.le_trans (by decide) hN⟩
theorem za_87 {Z : Zt} (hN : 143 ≤ Z.2.2.2.1) : Zin Z 87 0 6 := ⟨by decide +kernel, by decide, Int.le_trans (by decide) hN⟩
theorem za_88 {Z : Zt} (hN : 143 ≤ Z.2.2.2.1) : Zin Z 88 0 6 := ⟨by decide +kernel, by decide, Int.le_trans (by decide) hN⟩
theorem za_89 {Z : Zt} (hN : 143 ≤ Z.2.2.2.1) : Zin Z 89 0 6 := ⟨by decide +kernel, by decide, Int.le_trans (by decide) hN⟩
theorem za_90 {Z : Zt} (hN : 143 ≤ Z.2.2.2.1) : Zin Z 90 0 6 := ⟨by decide +kernel, by decide, Int.le_trans (by decide) hN⟩
theorem za_91 {Z : Zt} (hN : 143 ≤ Z.2.2.2.1) : Zin Z 91 0 6 := ⟨by decide +kernel, by decide, Int.le_trans (by decide) hN⟩
theorem za_92 {Z : Zt} (hN : 143 ≤ Z.2.2.2.1) : Zin Z 92 1 4 := ⟨by decide +kernel, by decide, Int.le_trans (by decide) hN⟩
theorem za_93 {Z : Zt} (hN : 143 ≤ Z.2.2.2.1) : Zin Z 93 0 6 := ⟨by decide +kernel, by decide, Int.le_trans (by decide) hN⟩
theorem za_94 {Z : Zt} (hN : 143 ≤ Z.2.2.2.1) : Zin Z 94 0 6 := ⟨by decide +kernel, by decide, Int.le_trans (by decide) hN⟩
theorem za_95 {Z : Zt} (hN : 143 ≤ Z.2.2.2.1) : Zin Z 95 0 6 := ⟨by decide +kernel, by decide, Int.le_trans (by decide) hN⟩
theorem za_96 {Z : Zt} (hN : 143 ≤ Z.2.2.2.1) : Zin Z 96 0 6 := ⟨by decide +kernel, by decide, Int.le_trans (by decide) hN⟩
theorem za_97 {Z : Zt} (hN : 143 ≤ Z.2.2.2.1) : Zin Z 97 0 4 := ⟨by decide +kernel, by decide, Int.le_trans (by decide) hN⟩
theorem za_98 {Z : Zt} (hN : 143 ≤ Z.2.2.2.1) : Zin Z 98 0 4 := ⟨by decide +kernel, by decide, Int.le_trans (by decide) hN⟩
theorem za_99 {Z : Zt} (hN : 143 ≤ Z.2.2.2.1) : Zin Z 99 1 6 := ⟨by decide +kernel, by decide, Int.le_trans (by decide) hN⟩
theorem za_100 {Z : Zt} (hN : 143 ≤ Z.2.2.2.1) : Zin Z 100 0 6 := ⟨by decide +kernel, by decide, Int.le_trans (by decide) hN⟩
theorem za_101 {Z : Zt} (hN : 143 ≤ Z.2.2.2.1) : Zin Z 101 0 6 := ⟨by decide +kernel, by decide, Int.le_trans (by decide) hN⟩
theorem za_102 {Z : Zt} (hN : 143 ≤ Z.2.2.2.1) : Zin Z 102 0 6 := ⟨by decide +kernel, by decide, Int.le_trans (by decide) hN⟩
theorem za_103 {Z : Zt} (hN : 143 ≤ Z.2.2.2.1) : Zin Z 103 0 6 := ⟨by decide +kernel, by decide, Int.le_trans (by decide) hN⟩
theorem za_104 {Z : Zt} (hN : 143 ≤ Z.2.2.2.1) : Zin Z 104 0 6 := ⟨by decide +kernel, by decide, Int.le_trans (by decide) hN⟩
theorem za_105 {Z : Zt} (hN : 143 ≤ Z.2.2.2.1) : Zin Z 105 0 6 := ⟨by decide +kernel, by decide, Int.le_trans (by decide) hN⟩
theorem za_106 {Z : Zt} (hN : 143 ≤ Z.2.2.2.1) : Zin Z 106 14 5 := ⟨by decide +kernel, by decide, Int.le_trans (by decide) hN⟩
theorem za_107 {Z : Zt} (hN : 143 ≤ Z.2.2.2.1) : Zin Z 107 1 10 := ⟨by decide +kernel, by decide, Int.le_trans (by decide) hN⟩
theorem za_108 {Z : Zt} (hN : 143 ≤ Z.2.2.2.1) : Zin Z 108 0 6 := ⟨by decide +kernel, by decide, Int.le_trans (by decide) hN⟩
theorem za_109 {Z : Zt} (hN : 143 ≤ Z.2.2.2.1) : Zin Z 109 0 6 := ⟨by decide +kernel, by decide, Int.le_trans (by decide) hN⟩
theorem za_110 {Z : Zt} (hN : 143 ≤ Z.2.2.2.1) : Zin Z 110 0 6 := ⟨by decide +kernel, by decide, Int.le_trans (by decide) hN⟩
theorem za_111 {Z : Zt} (hN : 143 ≤ Z.2.2.2.1) : Zin Z 111 0 6 := ⟨by decide +kernel, by decide, Int.le_trans (by decide) hN⟩
theorem za_112 {Z : Zt} (hN : 143 ≤ Z.2.2.2.1) : Zin Z 112 0 6 := ⟨by decide +kernel, by decide, Int.le_trans (by decide) hN⟩
theorem za_113 {Z : Zt} (hN : 143 ≤ Z.2.2.2.1) : Zin Z 113 0 6 := ⟨by decide +kernel, by decide, Int.le_trans (by decide) hN⟩
theorem za_114 {Z : Zt} (hN : 143 ≤ Z.2.2.2.1) : Zin Z 114 0 6 := ⟨by decide +kernel, by decide, Int.le_trans (by decide) hN⟩
theorem za_115 {Z : Zt} (hN : 143 ≤ Z.2.2.2.1) : Zin Z 115 0 6 := ⟨by decide +kernel, by decide, Int.le_trans (by decide) hN⟩
theorem za_116 {Z : Zt} (hN : 143 ≤ Z.2.2.2.1) : Zin Z 116 0 6 := ⟨by decide +kernel, by decide, Int.le_trans (by decide) hN⟩
theorem za_117 {Z : Zt} (hN : 143 ≤ Z.2.2.2.1) : Zin Z 117 0 6 := ⟨by decide +kernel, by decide, Int.le_trans (by decide) hN⟩
theorem za_118 {Z : Zt} (hN : 143 ≤ Z.2.2.2.1) : Zin Z 118 1 6 := ⟨by decide +kernel, by decide, Int.le_trans (by decide) hN⟩
theorem za_119 {Z : Zt} (hN : 143 ≤ Z.2.2.2.1) : Zin Z 119 0 6 := ⟨by decide +kernel, by decide, Int.le_trans (by decide) hN⟩
theorem za_120 {Z : Zt} (hN : 143 ≤ Z.2.2.2.1) : Zin Z 120 0 6 := ⟨by decide +kernel, by decide, Int.le_trans (by decide) hN⟩
theorem za_121 {Z : Zt} (hN : 143 ≤ Z.2.2.2.1) : Zin Z 121 0 6 := ⟨by decide +kernel, by decide, Int.le_trans (by decide) hN⟩
theorem za_122 {Z : Zt} (hN : 143 ≤ Z.2.2.2.1) : Zin Z 122 0 6 := ⟨by decide +kernel, by decide, Int.le_trans (by decide) hN⟩
theorem za_123 {Z : Zt} (hN : 143 ≤ Z.2.2.2.1) : Zin Z 123 0 6 := ⟨by decide +kernel, by decide, Int.le_trans (by decide) hN⟩
theorem za_124 {Z : Zt} (hN : 143 ≤ Z.2.2.2.1) : Zin Z 124 0 6 := ⟨by decide +kernel, by decide, Int.le_trans (by decide) hN⟩
theorem za_125 {Z : Zt} (hN : 143 ≤ Z.2.2.2.1) : Zin Z 125 14 5 := ⟨by decide +kernel, by decide, Int.le_trans (by decide) hN⟩
theorem za_126 {Z : Zt} (hN : 143 ≤ Z.2.2.2.1) : Zin Z 126 1 10 := ⟨by decide +kernel, by decide, Int.le_trans (by decide) hN⟩
theorem za_127 {Z : Zt} (hN : 143 ≤ Z.2.2.2.1) : Zin Z 127 0 6 := ⟨by decide +kernel, by decide, Int.le_trans (by decide) hN⟩
theorem za_128 {Z : Zt} (hN : 143 ≤ Z.2.2.2.1) : Zin Z 128 0 6 := ⟨by decide +kernel, by decide, Int.le_trans (by decide) hN⟩
theorem za_129 {Z : Zt} (hN : 143 ≤ Z.2.2.2.1) : Zin Z 129 0 6 := ⟨by decide +kernel, by decide, Int.le_trans (by decide) hN⟩
theorem za_130 {Z : Zt} (hN : 143 ≤ Z.2.2.2.1) : Zin Z 130 0 6 := ⟨by decide +kernel, by decide, Int.le_trans (by decide) hN⟩
theorem za_131 {Z : Zt} (hN : 143 ≤ Z.2.2.2.1) : Zin Z 131 0 6 := ⟨by decide +kernel, by decide, Int.le_trans (by decide) hN⟩
theorem za_132 {Z : Zt} (hN : 143 ≤ Z.2.2.2.1) : Zin Z 132 0 6 := ⟨by decide +kernel, by decide, Int.le_trans (by decide) hN⟩
theorem za_133 {Z : Zt} (hN : 143 ≤ Z.2.2.2.1) : Zin Z 133 0 6 := ⟨by decide +kernel, by decide, Int.le_trans (by decide) hN⟩
theorem za_134 {Z : Zt} (hN : 143 ≤ Z.2.2.2.1) : Zin Z 134 0 6 := ⟨by decide +kernel, by decide, Int.le_trans (by decide) hN⟩
theorem za_135 {Z : Zt} (hN : 143 ≤ Z.2.2.2.1) : Zin Z 135 0 6 := ⟨by decide +kernel, by decide, Int.le_trans (by decide) hN⟩
theorem za_136 {Z : Zt} (hN : 143 ≤ Z.2.2.2.1) : Zin Z 136 0 6 := ⟨by decide +kernel, by decide, Int.le_trans (by decide) hN⟩
theorem za_137 {Z : Zt} (hN : 143 ≤ Z.2.2.2.1) : Zin Z 137 1 6 := ⟨by decide +kernel, by decide, Int.le_trans (by decide) hN⟩
theorem za_138 {Z : Zt} (hN : 143 ≤ Z.2.2.2.1) : Zin Z 138 0 6 := ⟨by decide +kernel, by decide, Int.le_trans (by decide) hN⟩
theorem za_139 {Z : Zt} (hN : 143 ≤ Z.2.2.2.1) : Zin Z 139 0 6 := ⟨by decide +kernel, by decide, Int.le_trans (by decide) hN⟩
theorem za_140 {Z : Zt} (hN : 143 ≤ Z.2.2.2.1) : Zin Z 140 0 6 := ⟨by decide +kernel, by decide, Int.le_trans (by decide) hN⟩
theorem za_141 {Z : Zt} (hN : 143 ≤ Z.2.2.2.1) : Zin Z 141 0 6 := ⟨by decide +kernel, by decide, Int.le_trans (by decide) hN⟩
theorem za_142 {Z : Zt} (hN : 143 ≤ Z.2.2.2.1) : Zin Z 142 0 6 := ⟨by decide +kernel, by decide, Int.le_trans (by decide) hN⟩
theorem za_143 {Z : Zt} (hN : 143 ≤ Z.2.2.2.1) : Zin Z 143 0 6 := ⟨by decide +kernel, by decide, Int.le_trans (by decide) hN⟩
theorem za_144 {Z : Zt} (hN : 166 ≤ Z.2.2.2.1) : Zin Z 144 17 25 := ⟨by decide +kernel, by decide, Int.le_trans (by decide) hN⟩
theorem za_145 {Z : Zt} (hN : 166 ≤ Z.2.2.2.1) : Zin Z 145 0 500 := ⟨by decide +kernel, by decide, Int.le_trans (by decide) hN⟩
theorem za_146 {Z : Zt} (hN : 166 ≤ Z.2.2.2.1) : Zin Z 146 0 2 := ⟨by decide +kernel, by decide, Int.le_trans (by decide) hN⟩
theorem za_147 {Z : Zt} (hN : 166 ≤ Z.2.2.2.1) : Zin Z 147 0 48 := ⟨by decide +kernel, by decide, Int.le_trans (by decide) hN⟩
theorem za_148 {Z : Zt} (hN : 166 ≤ Z.2.2.2.1) : Zin Z 148 0 2 := ⟨by decide +kernel, by decide, Int.le_trans (by decide) hN⟩
theorem za_149 {Z : Zt} (hN : 166 ≤ Z.2.2.2.1) : Zin Z 149 0 20 := ⟨by decide +kernel, by decide, Int.le_trans (by decide) hN⟩
theorem za_150 {Z : Zt} (hN : 166 ≤ Z.2.2.2.1) : Zin Z 150 0 20 := ⟨by decide +kernel, by decide, Int.le_trans (by decide) hN⟩
theorem za_151 {Z : Zt} (hN : 166 ≤ Z.2.2.2.1) : Zin Z 151 0 20 := ⟨by decide +kernel, by decide, Int.le_trans (by decide) hN⟩
theorem za_152 {Z : Zt} (hN : 166 ≤ Z.2.2.2.1) : Zin Z 152 0 20 := ⟨by decide +kernel, by decide, Int.le_trans (by decide) hN⟩
theorem za_153 {Z : Zt} (hN : 166 ≤ Z.2.2.2.1) : Zin Z 153 0 120 := ⟨by decide +kernel, by decide, Int.le_trans (by decide) hN⟩
theorem za_154 {Z : Zt} (hN : 166 ≤ Z.2.2.2.1) : Zin Z 154 0 48 := ⟨by decide +kernel, by decide, Int.le_trans (by decide) hN⟩
theorem za_155 {Z : Zt} (hN : 166 ≤ Z.2.2.2.1) : Zin Z 155 0 8 := ⟨by decide +kernel, by decide, Int.le_trans (by decide) hN⟩
theorem za_156 {Z : Zt} (hN : 166 ≤ Z.2.2.2.1) : Zin Z 156 0 8 := ⟨by decide +kernel, by decide, Int.le_trans (by decide) hN⟩
theorem za_157 {Z : Zt} (hN : 166 ≤ Z.2.2.2.1) : Zin Z 157 0 8 := ⟨by decide +kernel, by decide, Int.le_trans (by decide) hN⟩
theorem za_158 {Z : Zt} (hN : 166 ≤ Z.2.2.2.1) : Zin Z 158 0 72 := ⟨by decide +kernel, by decide, Int.le_trans (by decide) hN⟩
theorem za_159 {Z : Zt} (hN : 166 ≤ Z.2.2.2.1) : Zin Z 159 0 180 := ⟨by decide +kernel, by decide, Int.le_trans (by decide) hN⟩
theorem za_160 {Z : Zt} (hN : 166 ≤ Z.2.2.2.1) : Zin Z 160 0 30 := ⟨by decide +kernel, by decide, Int.le_trans (by decide) hN⟩
theorem za_161 {Z : Zt} (hN : 166 ≤ Z.2.2.2.1) : Zin Z 161 0 108 := ⟨by decide +kernel, by decide, Int.le_trans (by decide) hN⟩
theorem za_162 {Z : Zt} (hN : 166 ≤ Z.2.2.2.1) : Zin Z 162 0 3 := ⟨by decide +kernel, by decide, Int.le_trans (by decide) hN⟩
theorem za_163 {Z : Zt} (hN : 166 ≤ Z.2.2.2.1) : Zin Z 163 0 4 := ⟨by decide +kernel, by decide, Int.le_trans (by decide) hN⟩
theorem za_164 {Z : Zt} (hN : 166 ≤ Z.2.2.2.1) : Zin Z 164 0 4 := ⟨by decide +kernel, by decide, Int.le_trans (by decide) hN⟩
theorem za_165 {Z : Zt} (hN : 166 ≤ Z.2.2.2.1) : Zin Z 165 0 6 := ⟨by decide +kernel, by decide, Int.le_trans (by decide) hN⟩
theorem za_166 {Z : Zt} (hN : 166 ≤ Z.2.2.2.1) : Zin Z 166 0 4 := ⟨by decide +kernel, by decide, Int.le_trans (by decide) hN⟩
theorem zq_0 {Z : Zt} (hN : 143 ≤ Z.2.2.2.1) {q : Int} (h : isQ q) : Zin Z (q) 15 13 := by
  rcases h with rfl | rfl <;> exact ⟨by decide +kernel, by decide, Int.le_trans (by decide) hN⟩
theorem zq_1 {Z : Zt} (hN : 143 ≤ Z.2.2.2.1) {q : Int} (h : isQ q) : Zin Z (q + 1) 1 6 := by
  rcases h with rfl | rfl <;> exact ⟨by decide +kernel, by decide, Int.le_trans (by decide) hN⟩
theorem zq_1r {Z : Zt} (hN : 143 ≤ Z.2.2.2.1) {q : Int} (h : isQ q) {i : Int} (h1 : 0 ≤ i) (h2 : i < 6) : Zin Z (q + 2 + i) 0 4 := by
  rcases h with rfl | rfl <;> rcases (show i = 0 ∨ i = 1 ∨ i = 2 ∨ i = 3 ∨ i = 4 ∨ i = 5 by omega) with rfl | rfl | rfl | rfl | rfl | rfl <;> exact ⟨by decide +kernel, by decide, Int.le_trans (by decide) hN⟩
theorem zq_2 {Z : Zt} (hN : 143 ≤ Z.2.2.2.1) {q : Int} (h : isQ q) : Zin Z (q + 2) 0 4 := by
  rcases h with rfl | rfl <;> exact ⟨by decide +kernel, by decide, Int.le_trans (by decide) hN⟩
theorem zq_3 {Z : Zt} (hN : 143 ≤ Z.2.2.2.1) {q : Int} (h : isQ q) : Zin Z (q + 3) 0 4 := by
  rcases h with rfl | rfl <;> exact ⟨by decide +kernel, by decide, Int.le_trans (by decide) hN⟩
theorem zq_4 {Z : Zt} (hN : 143 ≤ Z.2.2.2.1) {q : Int} (h : isQ q) : Zin Z (q + 4) 0 4 := by
  rcases h with rfl | rfl <;> exact ⟨by decide +kernel, by decide, Int.le_trans (by decide) hN⟩
theorem zq_5 {Z : Zt} (hN : 143 ≤ Z.2.2.2.1) {q : Int} (h : isQ q) : Zin Z (q + 5) 0 4 := by
  rcases h with rfl | rfl <;> exact ⟨by decide +kernel, by decide, Int.le_trans (by decide) hN⟩
theorem zq_6 {Z : Zt} (hN : 143 ≤ Z.2.2.2.1) {q : Int} (h : isQ q) : Zin Z (q + 6) 0 4 := by
  rcases h with rfl | rfl <;> exact ⟨by decide +kernel, by decide, Int.le_trans (by decide) hN⟩
theorem zq_7 {Z : Zt} (hN : 143 ≤ Z.2.2.2.1) {q : Int} (h : isQ q) : Zin Z (q + 7) 0 4 := by
  rcases h with rfl | rfl <;> exact ⟨by decide +kernel, by decide, Int.le_trans (by decide) hN⟩
theorem zq_8 {Z : Zt} (hN : 143 ≤ Z.2.2.2.1) {q : Int} (h : isQ q) : Zin Z (q + 8) 0 10 := by
  rcases h with rfl | rfl <;> exact ⟨by decide +kernel, by decide, Int.le_trans (by decide) hN⟩
theorem zq_9 {Z : Zt} (hN : 143 ≤ Z.2.2.2.1) {q : Int} (h : isQ q) : Zin Z (q + 9) 0 10 := by
  rcases h with rfl | rfl <;> exact ⟨by decide +kernel, by decide, Int.le_trans (by decide) hN⟩
theorem zq_10 {Z : Zt} (hN : 143 ≤ Z.2.2.2.1) {q : Int} (h : isQ q) : Zin Z (q + 10) 0 10 := by
  rcases h with rfl | rfl <;> exact ⟨by decide +kernel, by decide, Int.le_trans (by decide) hN⟩
theorem zq_11 {Z : Zt} (hN : 143 ≤ Z.2.2.2.1) {q : Int} (h : isQ q) : Zin Z (q + 11) 0 10 := by
  rcases h with rfl | rfl <;> exact ⟨by decide +kernel, by decide, Int.le_trans (by decide) hN⟩
theorem zq_12 {Z : Zt} (hN : 143 ≤ Z.2.2.2.1) {q : Int} (h : isQ q) : Zin Z (q + 12) 1 10 := by
  rcases h with rfl | rfl <;> exact ⟨by decide +kernel, by decide, Int.le_trans (by decide) hN⟩
theorem zq_12r {Z : Zt} (hN : 143 ≤ Z.2.2.2.1) {q : Int} (h : isQ q) {i : Int} (h1 : 0 ≤ i) (h2 : i < 10) : Zin Z (q + 13 + i) 0 6 := by
  rcases h with rfl | rfl <;> rcases (show i = 0 ∨ i = 1 ∨ i = 2 ∨ i = 3 ∨ i = 4 ∨ i = 5 ∨ i = 6 ∨ i = 7 ∨ i = 8 ∨ i = 9 by omega) with rfl | rfl | rfl | rfl | rfl | rfl | rfl | rfl | rfl | rfl <;> exact ⟨by decide +kernel, by decide, Int.le_trans (by decide) hN⟩
theorem zq_13 {Z : Zt} (hN : 143 ≤ Z.2.2.2.1) {q : Int} (h : isQ q) : Zin Z (q + 13) 0 6 := by
  rcases h with rfl | rfl <;> exact ⟨by decide +kernel, by decide, Int.le_trans (by decide) hN⟩
theorem zq_14 {Z : Zt} (hN : 143 ≤ Z.2.2.2.1) {q : Int} (h : isQ q) : Zin Z (q + 14) 0 6 := by
  rcases h with rfl | rfl <;> exact ⟨by decide +kernel, by decide, Int.le_trans (by decide) hN⟩
theorem zq_15 {Z : Zt} (hN : 143 ≤ Z.2.2.2.1) {q : Int} (h : isQ q) : Zin Z (q + 15) 0 6 := by
  rcases h with rfl | rfl <;> exact ⟨by decide +kernel, by decide, Int.le_trans (by decide) hN⟩
theorem zq_16 {Z : Zt} (hN : 143 ≤ Z.2.2.2.1) {q : Int} (h : isQ q) : Zin Z (q + 16) 0 6 := by
  rcases h with rfl | rfl <;> exact ⟨by decide +kernel, by decide, Int.le_trans (by decide) hN⟩
theorem zq_17 {Z : Zt} (hN : 143 ≤ Z.2.2.2.1) {q : Int} (h : isQ q) : Zin Z (q + 17) 0 6 := by
  rcases h with rfl | rfl <;> exact ⟨by decide +kernel, by decide, Int.le_trans (by decide) hN⟩
theorem zq_18 {Z : Zt} (hN : 143 ≤ Z.2.2.2.1) {q : Int} (h : isQ q) : Zin Z (q + 18) 0 6 := by
  rcases h with rfl | rfl <;> exact ⟨by decide +kernel, by decide, Int.le_trans (by decide) hN⟩
theorem zq_19 {Z : Zt} (hN : 143 ≤ Z.2.2.2.1) {q : Int} (h : isQ q) : Zin Z (q + 19) 0 6 := by
  rcases h with rfl | rfl <;> exact ⟨by decide +kernel, by decide, Int.le_trans (by decide) hN⟩
theorem zq_20 {Z : Zt} (hN : 143 ≤ Z.2.2.2.1) {q : Int} (h : isQ q) : Zin Z (q + 20) 0 6 := by
  rcases h with rfl | rfl <;> exact ⟨by decide +kernel, by decide, Int.le_trans (by decide) hN⟩
theorem zq_21 {Z : Zt} (hN : 143 ≤ Z.2.2.2.1) {q : Int} (h : isQ q) : Zin Z (q + 21) 0 6 := by
  rcases h with rfl | rfl <;> exact ⟨by decide +kernel, by decide, Int.le_trans (by decide) hN⟩
theorem zq_22 {Z : Zt} (hN : 143 ≤ Z.2.2.2.1) {q : Int} (h : isQ q) : Zin Z (q + 22) 0 6 := by
  rcases h with rfl | rfl <;> exact ⟨by decide +kernel, by decide, Int.le_trans (by decide) hN⟩
theorem zq_23 {Z : Zt} (hN : 143 ≤ Z.2.2.2.1) {q : Int} (h : isQ q) : Zin Z (q + 23) 1 4 := by
  rcases h with rfl | rfl <;> exact ⟨by decide +kernel, by decide, Int.le_trans (by decide) hN⟩
theorem zq_23r {Z : Zt} (hN : 143 ≤ Z.2.2.2.1) {q : Int} (h : isQ q) {i : Int} (h1 : 0 ≤ i) (h2 : i < 4) : Zin Z (q + 24 + i) 0 6 := by
  rcases h with rfl | rfl <;> rcases (show i = 0 ∨ i = 1 ∨ i = 2 ∨ i = 3 by omega) with rfl | rfl | rfl | rfl <;> exact ⟨by decide +kernel, by decide, Int.le_trans (by decide) hN⟩
theorem zq_24 {Z : Zt} (hN : 143 ≤ Z.2.2.2.1) {q : Int} (h : isQ q) : Zin Z (q + 24) 0 6 := by
  rcases h with rfl | rfl <;> exact ⟨by decide +kernel, by decide, Int.le_trans (by decide) hN⟩
theorem zq_25 {Z : Zt} (hN : 143 ≤ Z.2.2.2.1) {q : Int} (h : isQ q) : Zin Z (q + 25) 0 6 := by
  rcases h with rfl | rfl <;> exact ⟨by decide +kernel, by decide, Int.le_trans (by decide) hN⟩
theorem zq_26 {Z : Zt} (hN : 143 ≤ Z.2.2.2.1) {q : Int} (h : isQ q) : Zin Z (q + 26) 0 6 := by
  rcases h with rfl | rfl <;> exact ⟨by decide +kernel, by decide, Int.le_trans (by decide) hN⟩
theorem zq_27 {Z : Zt} (hN : 143 ≤ Z.2.2.2.1) {q : Int} (h : isQ q) : Zin Z (q + 27) 0 6 := by
  rcases h with rfl | rfl <;> exact ⟨by decide +kernel, by decide, Int.le_trans (by decide) hN⟩
theorem zq_28 {Z : Zt} (hN : 143 ≤ Z.2.2.2.1) {q : Int} (h : isQ q) : Zin Z (q + 28) 0 4 := by
  rcases h with rfl | rfl <;> exact ⟨by decide +kernel, by decide, Int.le_trans (by decide) hN⟩
theorem zq_29 {Z : Zt} (hN : 143 ≤ Z.2.2.2.1) {q : Int} (h : isQ q) : Zin Z (q + 29) 0 4 := by
  rcases h with rfl | rfl <;> exact ⟨by decide +kernel, by decide, Int.le_trans (by decide) hN⟩
theorem zq_30 {Z : Zt} (hN : 143 ≤ Z.2.2.2.1) {q : Int} (h : isQ q) : Zin Z (q + 30) 1 6 := by
  rcases h with rfl | rfl <;> exact ⟨by decide +kernel, by decide, Int.le_trans (by decide) hN⟩
theorem zq_30r {Z : Zt} (hN : 143 ≤ Z.2.2.2.1) {q : Int} (h : isQ q) {i : Int} (h1 : 0 ≤ i) (h2 : i < 6) : Zin Z (q + 31 + i) 0 6 := by
  rcases h with rfl | rfl <;> rcases (show i = 0 ∨ i = 1 ∨ i = 2 ∨ i = 3 ∨ i = 4 ∨ i = 5 by omega) with rfl | rfl | rfl | rfl | rfl | rfl <;> exact ⟨by decide +kernel, by decide, Int.le_trans (by decide) hN⟩
theorem zq_31 {Z : Zt} (hN : 143 ≤ Z.2.2.2.1) {q : Int} (h : isQ q) : Zin Z (q + 31) 0 6 := by
  rcases h with rfl | rfl <;> exact ⟨by decide +kernel, by decide, Int.le_trans (by decide) hN⟩
theorem zq_32 {Z : Zt} (hN : 143 ≤ Z.2.2.2.1) {q : Int} (h : isQ q) : Zin Z (q + 32) 0 6 := by
  rcases h with rfl | rfl <;> exact ⟨by decide +kernel, by decide, Int.le_trans (by decide) hN⟩
theorem zq_33 {Z : Zt} (hN : 143 ≤ Z.2.2.2.1) {q : Int} (h : isQ q) : Zin Z (q + 33) 0 6 := by
  rcases h with rfl | rfl <;> exact ⟨by decide +kernel, by decide, Int.le_trans (by decide) hN⟩
theorem zq_34 {Z : Zt} (hN : 143 ≤ Z.2.2.2.1) {q : Int} (h : isQ q) : Zin Z (q + 34) 0 6 := by
  rcases h with rfl | rfl <;> exact ⟨by decide +kernel, by decide, Int.le_trans (by decide) hN⟩
theorem zq_35 {Z : Zt} (hN : 143 ≤ Z.2.2.2.1) {q : Int} (h : isQ q) : Zin Z (q + 35) 0 6 := by
  rcases h with rfl | rfl <;> exact ⟨by decide +kernel, by decide, Int.le_trans (by decide) hN⟩
theorem zq_36 {Z : Zt} (hN : 143 ≤ Z.2.2.2.1) {q : Int} (h : isQ q) : Zin Z (q + 36) 0 6 := by
  rcases h with rfl | rfl <;> exact ⟨by decide +kernel, by decide, Int.le_trans (by decide) hN⟩
theorem zf_0 {Z : Zt} (hN : 143 ≤ Z.2.2.2.1) {q : Int} (h : isF q) : Zin Z (q) 14 5 := by
  rcases h with rfl | rfl | rfl <;> exact ⟨by decide +kernel, by decide, Int.le_trans (by decide) hN⟩
theorem zf_1 {Z : Zt} (hN : 143 ≤ Z.2.2.2.1) {q : Int} (h : isF q) : Zin Z (q + 1) 1 10 := by
  rcases h with rfl | rfl | rfl <;> exact ⟨by decide +kernel, by decide, Int.le_trans (by decide) hN⟩
theorem zf_1r {Z : Zt} (hN : 143 ≤ Z.2.2.2.1) {q : Int} (h : isF q) {i : Int} (h1 : 0 ≤ i) (h2 : i < 10) : Zin Z (q + 2 + i) 0 6 := by
  rcases h with rfl | rfl | rfl <;> rcases (show i = 0 ∨ i = 1 ∨ i = 2 ∨ i = 3 ∨ i = 4 ∨ i = 5 ∨ i = 6 ∨ i = 7 ∨ i = 8 ∨ i = 9 by omega) with rfl | rfl | rfl | rfl | rfl | rfl | rfl | rfl | rfl | rfl <;> exact ⟨by decide +kernel, by decide, Int.le_trans (by decide) hN⟩
theorem zf_2 {Z : Zt} (hN : 143 ≤ Z.2.2.2.1) {q : Int} (h : isF q) : Zin Z (q + 2) 0 6 := by
  rcases h with rfl | rfl | rfl <;> exact ⟨by decide +kernel, by decide, Int.le_trans (by decide) hN⟩
theorem zf_3 {Z : Zt} (hN : 143 ≤ Z.2.2.2.1) {q : Int} (h : isF q) : Zin Z (q + 3) 0 6 := by
  rcases h with rfl | rfl | rfl <;> exact ⟨by decide +kernel, by decide, Int.le_trans (by decide) hN⟩
theorem zf_4 {Z : Zt} (hN : 143 ≤ Z.2.2.2.1) {q : Int} (h : isF q) : Zin Z (q + 4) 0 6 := by
  rcases h with rfl | rfl | rfl <;> exact ⟨by decide +kernel, by decide, Int.le_trans (by decide) hN⟩
theorem zf_5 {Z : Zt} (hN : 143 ≤ Z.2.2.2.1) {q : Int} (h : isF q) : Zin Z (q + 5) 0 6 := by
  rcases h with rfl | rfl | rfl <;> exact ⟨by decide +kernel, by decide, Int.le_trans (by decide) hN⟩
theorem zf_6 {Z : Zt} (hN : 143 ≤ Z.2.2.2.1) {q : Int} (h : isF q) : Zin Z (q + 6) 0 6 := by
  rcases h with rfl | rfl | rfl <;> exact ⟨by decide +kernel, by decide, Int.le_trans (by decide) hN⟩
theorem zf_7 {Z : Zt} (hN : 143 ≤ Z.2.2.2.1) {q : Int} (h : isF q) : Zin Z (q + 7) 0 6 := by
  rcases h with rfl | rfl | rfl <;> exact ⟨by decide +kernel, by decide, Int.le_trans (by decide) hN⟩
theorem zf_8 {Z : Zt} (hN : 143 ≤ Z.2.2.2.1) {q : Int} (h : isF q) : Zin Z (q + 8) 0 6 := by
  rcases h with rfl | rfl | rfl <;> exact ⟨by decide +kernel, by decide, Int.le_trans (by decide) hN⟩
theorem zf_9 {Z : Zt} (hN : 143 ≤ Z.2.2.2.1) {q : Int} (h : isF q) : Zin Z (q + 9) 0 6 := by
  rcases h with rfl | rfl | rfl <;> exact ⟨by decide +kernel, by decide, Int.le_trans (by decide) hN⟩
theorem zf_10 {Z : Zt} (hN : 143 ≤ Z.2.2.2.1) {q : Int} (h : isF q) : Zin Z (q + 10) 0 6 := by
  rcases h with rfl | rfl | rfl <;> exact ⟨by decide +kernel, by decide, Int.le_trans (by decide) hN⟩
theorem zf_11 {Z : Zt} (hN : 143 ≤ Z.2.2.2.1) {q : Int} (h : isF q) : Zin Z (q + 11) 0 6 := by
  rcases h with rfl | rfl | rfl <;> exact ⟨by decide +kernel, by decide, Int.le_trans (by decide) hN⟩
theorem zf_12 {Z : Zt} (hN : 143 ≤ Z.2.2.2.1) {q : Int} (h : isF q) : Zin Z (q + 12) 1 6 := by
  rcases h with rfl | rfl | rfl <;> exact ⟨by decide +kernel, by decide, Int.le_trans (by decide) hN⟩
theorem zf_12r {Z : Zt} (hN : 143 ≤ Z.2.2.2.1) {q : Int} (h : isF q) {i : Int} (h1 : 0 ≤ i) (h2 : i < 6) : Zin Z (q + 13 + i) 0 6 := by
  rcases h with rfl | rfl | rfl <;> rcases (show i = 0 ∨ i = 1 ∨ i = 2 ∨ i = 3 ∨ i = 4 ∨ i = 5 by omega) with rfl | rfl | rfl | rfl | rfl | rfl <;> exact ⟨by decide +kernel, by decide, Int.le_trans (by decide) hN⟩
theorem zf_13 {Z : Zt} (hN : 143 ≤ Z.2.2.2.1) {q : Int} (h : isF q) : Zin Z (q + 13) 0 6 := by
  rcases h with rfl | rfl | rfl <;> exact ⟨by decide +kernel, by decide, Int.le_trans (by decide) hN⟩
theorem zf_14 {Z : Zt} (hN : 143 ≤ Z.2.2.2.1) {q : Int} (h : isF q) : Zin Z (q + 14) 0 6 := by
  rcases h with rfl | rfl | rfl <;> exact ⟨by decide +kernel, by decide, Int.le_trans (by decide) hN⟩
theorem zf_15 {Z : Zt} (hN : 143 ≤ Z.2.2.2.1) {q : Int} (h : isF q) : Zin Z (q + 15) 0 6 := by
  rcases h with rfl | rfl | rfl <;> exact ⟨by decide +kernel, by decide, Int.le_trans (by decide) hN⟩
theorem zf_16 {Z : Zt} (hN : 143 ≤ Z.2.2.2.1) {q : Int} (h : isF q) : Zin Z (q + 16) 0 6 := by
  rcases h with rfl | rfl | rfl <;> exact ⟨by decide +kernel, by decide, Int.le_trans (by decide) hN⟩
theorem zf_17 {Z : Zt} (hN : 143 ≤ Z.2.2.2.1) {q : Int} (h : isF q) : Zin Z (q + 17) 0 6 := by
  rcases h with rfl | rfl | rfl <;> exact ⟨by decide +kernel, by decide, Int.le_trans (by decide) hN⟩
theorem zf_18 {Z : Zt} (hN : 143 ≤ Z.2.2.2.1) {q : Int} (h : isF q) : Zin Z (q + 18) 0 6 := by
  rcases h with rfl | rfl | rfl <;> exact ⟨by decide +kernel, by decide, Int.le_trans (by decide) hN⟩
theorem zk_F {i : Int} (h1 : 0 ≤ i) (h2 : i < 2) : isF (106 + 19 * i) := by
  rcases (show i = 0 ∨ i = 1 by omega) with rfl | rfl
  · exact Or.inr (Or.inl rfl)
  · exact Or.inr (Or.inr rfl)
theorem ps_0_1 (Z : Zt) (D : Mm) (a x : Int) : fl 0 Z (stm D a 1 x) a = (fl 0 Z D a).set 1 (zi x) := by
  simp [fl, stm]
theorem ps_2_3 (Z : Zt) (D : Mm) (a x : Int) : fl 2 Z (stm D a 3 x) a = (fl 2 Z D a).set 3 (zi x) := by
  simp [fl, stm]
theorem ps_2_4 (Z : Zt) (D : Mm) (a x : Int) : fl 2 Z (stm D a 4 x) a = (fl 2 Z D a).set 4 (zi x) := by
  simp [fl, stm]
theorem ps_2_5 (Z : Zt) (D : Mm) (a x : Int) : fl 2 Z (stm D a 5 x) a = (fl 2 Z D a).set 5 (zi x) := by
  simp [fl, stm]
theorem ps_2_6 (Z : Zt) (D : Mm) (a x : Int) : fl 2 Z (stm D a 6 x) a = (fl 2 Z D a).set 6 (zi x) := by
  simp [fl, stm]
theorem ps_4_2 (Z : Zt) (D : Mm) (a x : Int) : fl 4 Z (stm D a 2 x) a = (fl 4 Z D a).set 2 (zi x) := by
  simp [fl, stm]
theorem ps_4_3 (Z : Zt) (D : Mm) (a x : Int) : fl 4 Z (stm D a 3 x) a = (fl 4 Z D a).set 3 (zi x) := by
  simp [fl, stm]
theorem ps_4_4 (Z : Zt) (D : Mm) (a x : Int) : fl 4 Z (stm D a 4 x) a = (fl 4 Z D a).set 4 (zi x) := by
  simp [fl, stm]
theorem ps_5_0 (Z : Zt) (D : Mm) (a x : Int) : fl 5 Z (stm D a 0 x) a = (fl 5 Z D a).set 0 (zi x) := by
  simp [fl, stm]
theorem ps_5_1 (Z : Zt) (D : Mm) (a x : Int) : fl 5 Z (stm D a 1 x) a = (fl 5 Z D a).set 1 (zi x) := by
  simp [fl, stm]
theorem ps_5_11 (Z : Zt) (D : Mm) (a x : Int) : fl 5 Z (stm D a 11 x) a = (fl 5 Z D a).set 11 (zi x) := by
  simp [fl, stm]
theorem ps_6_6 (Z : Zt) (D : Mm) (a x : Int) : fl 6 Z (stm D a 6 x) a = (fl 6 Z D a).set 6 (zi x) := by
  simp [fl, stm]
theorem ps_6_7 (Z : Zt) (D : Mm) (a x : Int) : fl 6 Z (stm D a 7 x) a = (fl 6 Z D a).set 7 (zr Z x) := by
  simp [fl, stm]
theorem ps_6_8 (Z : Zt) (D : Mm) (a x : Int) : fl 6 Z (stm D a 8 x) a = (fl 6 Z D a).set 8 (zr Z x) := by
  simp [fl, stm]
theorem ps_7_0 (Z : Zt) (D : Mm) (a x : Int) : fl 7 Z (stm D a 0 x) a = (fl 7 Z D a).set 0 (zi x) := by
  simp [fl, stm]
theorem ps_7_19 (Z : Zt) (D : Mm) (a x : Int) : fl 7 Z (stm D a 19 x) a = (fl 7 Z D a).set 19 (zi x) := by
  simp [fl, stm]
theorem ps_7_20 (Z : Zt) (D : Mm) (a x : Int) : fl 7 Z (stm D a 20 x) a = (fl 7 Z D a).set 20 (zi x) := by
  simp [fl, stm]

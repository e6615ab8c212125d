set_option maxRecDepth 100000 in
theorem v_Model_sortItem_57 {Γ : Gt} {Z : Zt} (X : Cx Γ Z prog_10_method_9_code R_Model 3 (some .boolean) rm_Model_sortItem) (hN : 166 ≤ Z.2.2.2.1) (v1 : Int)    : ∀ (n : Nat) (v2 : Int) (D : Mm), Zv Γ Z 3 (QfM Γ Z 1) (f_Model_sortItem_57 v1 n v2 D) D 57 [(0, zr Z 144), (1, zi v1), (2, zi v2)] [] := by
  intro n
  induction n with
  | zero =>
    intro v2 D
    exact zv_none
  | succ n ih =>
    intro v2 D
    rw [f_Model_sortItem_57]
    refine zv_iload_n X d_Model_sortItem_57 rfl 2 rfl ?_
    refine zv_iconst X d_Model_sortItem_58 ?_
    refine zv_icmp_ge X (tgt := 87) d_Model_sortItem_59 (by decide) (fun h59 => ?_) (fun h59 => ?_)
    · refine zv_aload_n X d_Model_sortItem_87 rfl 0 rfl ?_
      refine zv_get X (ci := 7) rfl i_Model (za_144 hN) 2 (by decide) lk_Model_13 rfl rfl d_Model_sortItem_88 ?_
      refine zv_iconst X d_Model_sortItem_91 ?_
      refine zv_dup2 X d_Model_sortItem_92 rfl rfl ?_
      refine zv_ialdK X (za_146 hN) (by decide) (by decide) d_Model_sortItem_93 ?_
      refine zv_iconst X d_Model_sortItem_94 ?_
      refine zv_iadd X d_Model_sortItem_95 ?_
      refine zv_iastK X (za_146 hN) (by decide) (by decide) d_Model_sortItem_96 (fun D1 => ?_)
      refine zv_iconst X d_Model_sortItem_97 ?_
      exact zv_zretMK X (Or.inr rfl) d_Model_sortItem_98
    · refine zv_aload_n X d_Model_sortItem_62 rfl 0 rfl ?_
      refine zv_get X (ci := 7) rfl i_Model (za_144 hN) 3 (by decide) lk_Model_16 rfl rfl d_Model_sortItem_63 ?_
      refine zv_bipush X d_Model_sortItem_66 (by decide +kernel) ?_
      refine zv_iconst X d_Model_sortItem_68 ?_
      refine zv_iload_n X d_Model_sortItem_69 rfl 1 rfl ?_
      refine zv_imul X d_Model_sortItem_70 ?_
      refine zv_iadd X d_Model_sortItem_71 ?_
      refine zv_iload_n X d_Model_sortItem_72 rfl 2 rfl ?_
      refine zv_iadd X d_Model_sortItem_73 ?_
      refine zv_aload_n X d_Model_sortItem_74 rfl 0 rfl ?_
      refine zv_get X (ci := 7) rfl i_Model (za_144 hN) 21 (by decide) lk_Model_64 rfl rfl d_Model_sortItem_75 ?_
      refine zv_iload_n X d_Model_sortItem_78 rfl 2 rfl ?_
      refine zv_iald X (za_163 hN) d_Model_sortItem_79 (fun ha79 hb79 => ?_)
      refine zv_iastC X (za_147 hN) d_Model_sortItem_80 (fun ha80 hb80 D2 => ?_)
      refine zv_iinc X (lv2 := [(2, zi (v2 + 1)), (0, zr Z 144), (1, zi v1)]) d_Model_sortItem_81 2 rfl (by decide) rfl ?_
      refine zv_goto X (tgt := 57) d_Model_sortItem_84 (by decide) ?_
      refine zv_sub X [1, 2, 0] rfl ?_
      exact ih (v2 + 1) D2
set_option maxRecDepth 100000 in
theorem c_Model_sortItem (l : Launch) {Z : Zt} (hZ : Zok Z) (hN : 166 ≤ Z.2.2.2.1)  (D : Mm) : CtM l Z y_Model_sortItem prog_10_method_9_code 3 (some .boolean) rm_Model_sortItem 1 [zr Z 144] D (f_Model_sortItem D) := by
  refine zm_M (lv := [(0, zr Z 144)]) hZ (by decide +kernel) rfl (Nat.le_of_ble_eq_true rfl) rfl (fun Γ hl X => ?_)
  subst hl
  unfold f_Model_sortItem
  refine zv_aload_n X d_Model_sortItem_0 rfl 0 rfl ?_
  refine zv_get X (ci := 7) rfl i_Model (za_144 hN) 2 (by decide) lk_Model_13 rfl rfl d_Model_sortItem_1 ?_
  refine zv_iconst X d_Model_sortItem_4 ?_
  refine zv_ialdK X (za_146 hN) (by decide) (by decide) d_Model_sortItem_5 ?_
  refine zv_istore_n X (lv2 := [(1, zi (D 146 1)), (0, zr Z 144)]) d_Model_sortItem_6 rfl (by decide) rfl ?_
  refine zv_aload_n X d_Model_sortItem_7 rfl 1 rfl ?_
  refine zv_iconst X d_Model_sortItem_8 ?_
  refine zv_cVM1 X (av := [zi 4]) (st := []) (ci := 7) (c_Model_figures Γ.2.1 X.2.2.2.2.2.2.2.1 hN 4 D) mk_Model_105 rfl (za_144 hN) ⟨rfl, rfl, Nat.le_of_ble_eq_true rfl, Nat.le_of_ble_eq_true rfl⟩ rfl (Nat.le_of_ble_eq_true rfl) d_Model_sortItem_9 (fun r1 D2 hr1 => ?_)
  refine zv_if_eq X (y := 0) (tgt := 53) d_Model_sortItem_12 (by decide) (fun h12 => ?_) (fun h12 => ?_)
  · refine zv_iconst X d_Model_sortItem_53 ?_
    exact zv_zretMK X (Or.inl rfl) d_Model_sortItem_54
  · refine zv_iload_n X d_Model_sortItem_15 rfl 0 rfl ?_
    refine zv_bipush X d_Model_sortItem_16 (by decide +kernel) ?_
    refine zv_icmp_eq X (tgt := 53) d_Model_sortItem_18 (by decide) (fun h18 => ?_) (fun h18 => ?_)
    · refine zv_iconst X d_Model_sortItem_53 ?_
      exact zv_zretMK X (Or.inl rfl) d_Model_sortItem_54
    · refine zv_aload_n X d_Model_sortItem_21 rfl 1 rfl ?_
      refine zv_get X (ci := 7) rfl i_Model (za_144 hN) 21 (by decide) lk_Model_64 rfl rfl d_Model_sortItem_22 ?_
      refine zv_iconst X d_Model_sortItem_25 ?_
      refine zv_ialdK X (za_163 hN) (by decide) (by decide) d_Model_sortItem_26 ?_
      refine zv_aload_n X d_Model_sortItem_27 rfl 1 rfl ?_
      refine zv_get X (ci := 7) rfl i_Model (za_144 hN) 21 (by decide) lk_Model_64 rfl rfl d_Model_sortItem_28 ?_
      refine zv_iconst X d_Model_sortItem_31 ?_
      refine zv_ialdK X (za_163 hN) (by decide) (by decide) d_Model_sortItem_32 ?_
      refine zv_iadd X d_Model_sortItem_33 ?_
      refine zv_aload_n X d_Model_sortItem_34 rfl 1 rfl ?_
      refine zv_get X (ci := 7) rfl i_Model (za_144 hN) 21 (by decide) lk_Model_64 rfl rfl d_Model_sortItem_35 ?_
      refine zv_iconst X d_Model_sortItem_38 ?_
      refine zv_ialdK X (za_163 hN) (by decide) (by decide) d_Model_sortItem_39 ?_
      refine zv_iadd X d_Model_sortItem_40 ?_
      refine zv_aload_n X d_Model_sortItem_41 rfl 1 rfl ?_
      refine zv_get X (ci := 7) rfl i_Model (za_144 hN) 21 (by decide) lk_Model_64 rfl rfl d_Model_sortItem_42 ?_
      refine zv_iconst X d_Model_sortItem_45 ?_
      refine zv_ialdK X (za_163 hN) (by decide) (by decide) d_Model_sortItem_46 ?_
      refine zv_iadd X d_Model_sortItem_47 ?_
      refine zv_bipush X d_Model_sortItem_48 (by decide +kernel) ?_
      refine zv_icmp_eq X (tgt := 55) d_Model_sortItem_50 (by decide) (fun h50 => ?_) (fun h50 => ?_)
      · refine zv_iconst X d_Model_sortItem_55 ?_
        refine zv_istore_n X (lv2 := [(2, zi 0), (1, zi (D 146 1)), (0, zr Z 144)]) d_Model_sortItem_56 rfl (by decide) rfl ?_
        refine zv_sub X [2, 1, 0] rfl ?_
        exact v_Model_sortItem_57 X hN (D 146 1) zF 0 D2
      · refine zv_iconst X d_Model_sortItem_53 ?_
        exact zv_zretMK X (Or.inl rfl) d_Model_sortItem_54
set_option maxRecDepth 100000 in
theorem c_Model_faceItem (l : Launch) {Z : Zt} (hZ : Zok Z) (hN : 166 ≤ Z.2.2.2.1)  (D : Mm) : CtM l Z y_Model_faceItem prog_10_method_10_code 2 (some .boolean) rm_Model_faceItem 1 [zr Z 144] D (f_Model_faceItem D) := by
  refine zm_M (lv := [(0, zr Z 144)]) hZ (by decide +kernel) rfl (Nat.le_of_ble_eq_true rfl) rfl (fun Γ hl X => ?_)
  subst hl
  unfold f_Model_faceItem
  refine zv_aload_n X d_Model_faceItem_0 rfl 0 rfl ?_
  refine zv_get X (ci := 7) rfl i_Model (za_144 hN) 4 (by decide) lk_Model_19 rfl rfl d_Model_faceItem_1 ?_
  refine zv_iconst X d_Model_faceItem_4 ?_
  refine zv_ialdK X (za_148 hN) (by decide) (by decide) d_Model_faceItem_5 ?_
  refine zv_istore_n X (lv2 := [(1, zi (D 148 1)), (0, zr Z 144)]) d_Model_faceItem_6 rfl (by decide) rfl ?_
  refine zv_aload_n X d_Model_faceItem_7 rfl 1 rfl ?_
  refine zv_iconst X d_Model_faceItem_8 ?_
  refine zv_cVM1 X (av := [zi 4]) (st := []) (ci := 7) (c_Model_figures Γ.2.1 X.2.2.2.2.2.2.2.1 hN 4 D) mk_Model_105 rfl (za_144 hN) ⟨rfl, rfl, Nat.le_of_ble_eq_true rfl, Nat.le_of_ble_eq_true rfl⟩ rfl (Nat.le_of_ble_eq_true rfl) d_Model_faceItem_9 (fun r1 D2 hr1 => ?_)
  refine zv_if_eq X (y := 0) (tgt := 70) d_Model_faceItem_12 (by decide) (fun h12 => ?_) (fun h12 => ?_)
  · refine zv_iconst X d_Model_faceItem_70 ?_
    exact zv_zretMK X (Or.inl rfl) d_Model_faceItem_71
  · refine zv_iload_n X d_Model_faceItem_15 rfl 0 rfl ?_
    refine zv_bipush X d_Model_faceItem_16 (by decide +kernel) ?_
    refine zv_icmp_eq X (tgt := 70) d_Model_faceItem_18 (by decide) (fun h18 => ?_) (fun h18 => ?_)
    · refine zv_iconst X d_Model_faceItem_70 ?_
      exact zv_zretMK X (Or.inl rfl) d_Model_faceItem_71
    · refine zv_aload_n X d_Model_faceItem_21 rfl 1 rfl ?_
      refine zv_get X (ci := 7) rfl i_Model (za_144 hN) 21 (by decide) lk_Model_64 rfl rfl d_Model_faceItem_22 ?_
      refine zv_iconst X d_Model_faceItem_25 ?_
      refine zv_ialdK X (za_163 hN) (by decide) (by decide) d_Model_faceItem_26 ?_
      refine zv_bipush X d_Model_faceItem_27 (by decide +kernel) ?_
      refine zv_icmp_gt X (tgt := 70) d_Model_faceItem_29 (by decide) (fun h29 => ?_) (fun h29 => ?_)
      · refine zv_iconst X d_Model_faceItem_70 ?_
        exact zv_zretMK X (Or.inl rfl) d_Model_faceItem_71
      · refine zv_aload_n X d_Model_faceItem_32 rfl 1 rfl ?_
        refine zv_get X (ci := 7) rfl i_Model (za_144 hN) 21 (by decide) lk_Model_64 rfl rfl d_Model_faceItem_33 ?_
        refine zv_iconst X d_Model_faceItem_36 ?_
        refine zv_ialdK X (za_163 hN) (by decide) (by decide) d_Model_faceItem_37 ?_
        refine zv_iconst X d_Model_faceItem_38 ?_
        refine zv_icmp_gt X (tgt := 70) d_Model_faceItem_39 (by decide) (fun h39 => ?_) (fun h39 => ?_)
        · refine zv_iconst X d_Model_faceItem_70 ?_
          exact zv_zretMK X (Or.inl rfl) d_Model_faceItem_71
        · refine zv_aload_n X d_Model_faceItem_42 rfl 1 rfl ?_
          refine zv_get X (ci := 7) rfl i_Model (za_144 hN) 21 (by decide) lk_Model_64 rfl rfl d_Model_faceItem_43 ?_
          refine zv_iconst X d_Model_faceItem_46 ?_
          refine zv_ialdK X (za_163 hN) (by decide) (by decide) d_Model_faceItem_47 ?_
          refine zv_i2l X d_Model_faceItem_48 ?_
          refine zv_lconst X (x := 1) d_Model_faceItem_49 (by decide +kernel) ?_
          refine zv_ldc2 X 9 kc_Model_109 (by decide +kernel) d_Model_faceItem_50 ?_
          refine zv_cSP1 X (av := [zl (wI (D2 163 2)), zl 1, zl 9]) (st := []) (c_Model_in Γ.2.1 X.2.2.2.2.2.2.2.1 hN (wI (D2 163 2)) 1 9 D2) mk_Model_82 ⟨rfl, rfl, Nat.le_of_ble_eq_true rfl, Nat.le_of_ble_eq_true rfl⟩ rfl (Nat.le_of_ble_eq_true rfl) d_Model_faceItem_53 (fun r3 hr3 => ?_)
          refine zv_if_eq X (y := 0) (tgt := 70) d_Model_faceItem_56 (by decide) (fun h56 => ?_) (fun h56 => ?_)
          · refine zv_iconst X d_Model_faceItem_70 ?_
            exact zv_zretMK X (Or.inl rfl) d_Model_faceItem_71
          · refine zv_aload_n X d_Model_faceItem_59 rfl 1 rfl ?_
            refine zv_get X (ci := 7) rfl i_Model (za_144 hN) 21 (by decide) lk_Model_64 rfl rfl d_Model_faceItem_60 ?_
            refine zv_iconst X d_Model_faceItem_63 ?_
            refine zv_ialdK X (za_163 hN) (by decide) (by decide) d_Model_faceItem_64 ?_
            refine zv_bipush X d_Model_faceItem_65 (by decide +kernel) ?_
            refine zv_icmp_le X (tgt := 72) d_Model_faceItem_67 (by decide) (fun h67 => ?_) (fun h67 => ?_)
            · refine zv_aload_n X d_Model_faceItem_72 rfl 1 rfl ?_
              refine zv_get X (ci := 7) rfl i_Model (za_144 hN) 5 (by decide) lk_Model_22 rfl rfl d_Model_faceItem_73 ?_
              refine zv_bipush X d_Model_faceItem_76 (by decide +kernel) ?_
              refine zv_iload_n X d_Model_faceItem_78 rfl 0 rfl ?_
              refine zv_iadd X d_Model_faceItem_79 ?_
              refine zv_aload_n X d_Model_faceItem_80 rfl 1 rfl ?_
              refine zv_get X (ci := 7) rfl i_Model (za_144 hN) 21 (by decide) lk_Model_64 rfl rfl d_Model_faceItem_81 ?_
              refine zv_iconst X d_Model_faceItem_84 ?_
              refine zv_ialdK X (za_163 hN) (by decide) (by decide) d_Model_faceItem_85 ?_
              refine zv_iastC X (za_149 hN) d_Model_faceItem_86 (fun ha86 hb86 D4 => ?_)
              refine zv_aload_n X d_Model_faceItem_87 rfl 1 rfl ?_
              refine zv_get X (ci := 7) rfl i_Model (za_144 hN) 6 (by decide) lk_Model_25 rfl rfl d_Model_faceItem_88 ?_
              refine zv_bipush X d_Model_faceItem_91 (by decide +kernel) ?_
              refine zv_iload_n X d_Model_faceItem_93 rfl 0 rfl ?_
              refine zv_iadd X d_Model_faceItem_94 ?_
              refine zv_aload_n X d_Model_faceItem_95 rfl 1 rfl ?_
              refine zv_get X (ci := 7) rfl i_Model (za_144 hN) 21 (by decide) lk_Model_64 rfl rfl d_Model_faceItem_96 ?_
              refine zv_iconst X d_Model_faceItem_99 ?_
              refine zv_ialdK X (za_163 hN) (by decide) (by decide) d_Model_faceItem_100 ?_
              refine zv_iastC X (za_150 hN) d_Model_faceItem_101 (fun ha101 hb101 D5 => ?_)
              refine zv_aload_n X d_Model_faceItem_102 rfl 1 rfl ?_
              refine zv_get X (ci := 7) rfl i_Model (za_144 hN) 7 (by decide) lk_Model_28 rfl rfl d_Model_faceItem_103 ?_
              refine zv_bipush X d_Model_faceItem_106 (by decide +kernel) ?_
              refine zv_iload_n X d_Model_faceItem_108 rfl 0 rfl ?_
              refine zv_iadd X d_Model_faceItem_109 ?_
              refine zv_aload_n X d_Model_faceItem_110 rfl 1 rfl ?_
              refine zv_get X (ci := 7) rfl i_Model (za_144 hN) 21 (by decide) lk_Model_64 rfl rfl d_Model_faceItem_111 ?_
              refine zv_iconst X d_Model_faceItem_114 ?_
              refine zv_ialdK X (za_163 hN) (by decide) (by decide) d_Model_faceItem_115 ?_
              refine zv_iastC X (za_151 hN) d_Model_faceItem_116 (fun ha116 hb116 D6 => ?_)
              refine zv_aload_n X d_Model_faceItem_117 rfl 1 rfl ?_
              refine zv_get X (ci := 7) rfl i_Model (za_144 hN) 8 (by decide) lk_Model_31 rfl rfl d_Model_faceItem_118 ?_
              refine zv_bipush X d_Model_faceItem_121 (by decide +kernel) ?_
              refine zv_iload_n X d_Model_faceItem_123 rfl 0 rfl ?_
              refine zv_iadd X d_Model_faceItem_124 ?_
              refine zv_aload_n X d_Model_faceItem_125 rfl 1 rfl ?_
              refine zv_get X (ci := 7) rfl i_Model (za_144 hN) 21 (by decide) lk_Model_64 rfl rfl d_Model_faceItem_126 ?_
              refine zv_iconst X d_Model_faceItem_129 ?_
              refine zv_ialdK X (za_163 hN) (by decide) (by decide) d_Model_faceItem_130 ?_
              refine zv_iastC X (za_152 hN) d_Model_faceItem_131 (fun ha131 hb131 D7 => ?_)
              refine zv_aload_n X d_Model_faceItem_132 rfl 1 rfl ?_
              refine zv_get X (ci := 7) rfl i_Model (za_144 hN) 4 (by decide) lk_Model_19 rfl rfl d_Model_faceItem_133 ?_
              refine zv_iconst X d_Model_faceItem_136 ?_
              refine zv_dup2 X d_Model_faceItem_137 rfl rfl ?_
              refine zv_ialdK X (za_148 hN) (by decide) (by decide) d_Model_faceItem_138 ?_
              refine zv_iconst X d_Model_faceItem_139 ?_
              refine zv_iadd X d_Model_faceItem_140 ?_
              refine zv_iastK X (za_148 hN) (by decide) (by decide) d_Model_faceItem_141 (fun D8 => ?_)
              refine zv_iconst X d_Model_faceItem_142 ?_
              exact zv_zretMK X (Or.inr rfl) d_Model_faceItem_143
            · refine zv_iconst X d_Model_faceItem_70 ?_
              exact zv_zretMK X (Or.inl rfl) d_Model_faceItem_71
set_option maxRecDepth 100000 in
theorem v_Model_callItem_100 {Γ : Gt} {Z : Zt} (X : Cx Γ Z prog_10_method_11_code R_Model 3 (some .boolean) rm_Model_callItem) (hN : 166 ≤ Z.2.2.2.1)   (D : Mm)  : ∀ (n : Nat) (v1 v2 : Int) , Zv Γ Z 3 (QfM Γ Z 1) (f_Model_callItem_100 D n v1 v2) D 100 [(0, zr Z 144), (1, zi v1), (2, zi v2)] [] := by
  intro n
  induction n with
  | zero =>
    intro v1 v2
    exact zv_none
  | succ n ih =>
    intro v1 v2
    rw [f_Model_callItem_100]
    refine zv_iload_n X d_Model_callItem_100 rfl 2 rfl ?_
    refine zv_bipush X d_Model_callItem_101 (by decide +kernel) ?_
    refine zv_icmp_ge X (tgt := 134) d_Model_callItem_103 (by decide) (fun h103 => ?_) (fun h103 => ?_)
    · refine zv_iload_n X d_Model_callItem_134 rfl 1 rfl ?_
      refine zv_bipush X d_Model_callItem_135 (by decide +kernel) ?_
      refine zv_icmp_gt X (tgt := 144) d_Model_callItem_137 (by decide) (fun h137 => ?_) (fun h137 => ?_)
      · refine zv_iconst X d_Model_callItem_144 ?_
        exact zv_zretMK X (Or.inl rfl) d_Model_callItem_145
      · refine zv_iconst X d_Model_callItem_140 ?_
        refine zv_goto X (tgt := 145) d_Model_callItem_141 (by decide) ?_
        exact zv_zretMK X (Or.inr rfl) d_Model_callItem_145
    · refine zv_iload_n X d_Model_callItem_106 rfl 1 rfl ?_
      refine zv_aload_n X d_Model_callItem_107 rfl 0 rfl ?_
      refine zv_get X (ci := 7) rfl i_Model (za_144 hN) 14 (by decide) lk_Model_49 rfl rfl d_Model_callItem_108 ?_
      refine zv_bipush X d_Model_callItem_111 (by decide +kernel) ?_
      refine zv_bipush X d_Model_callItem_113 (by decide +kernel) ?_
      refine zv_aload_n X d_Model_callItem_115 rfl 0 rfl ?_
      refine zv_get X (ci := 7) rfl i_Model (za_144 hN) 21 (by decide) lk_Model_64 rfl rfl d_Model_callItem_116 ?_
      refine zv_iconst X d_Model_callItem_119 ?_
      refine zv_ialdK X (za_163 hN) (by decide) (by decide) d_Model_callItem_120 ?_
      refine zv_imul X d_Model_callItem_121 ?_
      refine zv_iadd X d_Model_callItem_122 ?_
      refine zv_iload_n X d_Model_callItem_123 rfl 2 rfl ?_
      refine zv_iadd X d_Model_callItem_124 ?_
      refine zv_iald X (za_158 hN) d_Model_callItem_125 (fun ha125 hb125 => ?_)
      refine zv_iadd X d_Model_callItem_126 ?_
      refine zv_istore_n X (lv2 := [(1, zi (v1 + (D 158 ((36 + (6 * (D 163 0))) + v2)))), (0, zr Z 144), (2, zi v2)]) d_Model_callItem_127 rfl (by decide) rfl ?_
      refine zv_iinc X (lv2 := [(2, zi (v2 + 1)), (1, zi (v1 + (D 158 ((36 + (6 * (D 163 0))) + v2)))), (0, zr Z 144)]) d_Model_callItem_128 2 rfl (by decide) rfl ?_
      refine zv_goto X (tgt := 100) d_Model_callItem_131 (by decide) ?_
      refine zv_sub X [2, 1, 0] rfl ?_
      exact ih (v1 + (D 158 ((36 + (6 * (D 163 0))) + v2))) (v2 + 1)
set_option maxRecDepth 100000 in
theorem c_Model_callItem (l : Launch) {Z : Zt} (hZ : Zok Z) (hN : 166 ≤ Z.2.2.2.1)  (D : Mm) : CtM l Z y_Model_callItem prog_10_method_11_code 3 (some .boolean) rm_Model_callItem 1 [zr Z 144] D (f_Model_callItem D) := by
  refine zm_M (lv := [(0, zr Z 144)]) hZ (by decide +kernel) rfl (Nat.le_of_ble_eq_true rfl) rfl (fun Γ hl X => ?_)
  subst hl
  unfold f_Model_callItem
  refine zv_aload_n X d_Model_callItem_0 rfl 0 rfl ?_
  refine zv_iconst X d_Model_callItem_1 ?_
  refine zv_cVM1 X (av := [zi 3]) (st := []) (ci := 7) (c_Model_figures Γ.2.1 X.2.2.2.2.2.2.2.1 hN 3 D) mk_Model_105 rfl (za_144 hN) ⟨rfl, rfl, Nat.le_of_ble_eq_true rfl, Nat.le_of_ble_eq_true rfl⟩ rfl (Nat.le_of_ble_eq_true rfl) d_Model_callItem_2 (fun r1 D2 hr1 => ?_)
  refine zv_if_eq X (y := 0) (tgt := 64) d_Model_callItem_5 (by decide) (fun h5 => ?_) (fun h5 => ?_)
  · refine zv_iconst X d_Model_callItem_64 ?_
    exact zv_zretMK X (Or.inl rfl) d_Model_callItem_65
  · refine zv_aload_n X d_Model_callItem_8 rfl 0 rfl ?_
    refine zv_get X (ci := 7) rfl i_Model (za_144 hN) 21 (by decide) lk_Model_64 rfl rfl d_Model_callItem_9 ?_
    refine zv_iconst X d_Model_callItem_12 ?_
    refine zv_ialdK X (za_163 hN) (by decide) (by decide) d_Model_callItem_13 ?_
    refine zv_aload_n X d_Model_callItem_14 rfl 0 rfl ?_
    refine zv_get X (ci := 7) rfl i_Model (za_144 hN) 2 (by decide) lk_Model_13 rfl rfl d_Model_callItem_15 ?_
    refine zv_iconst X d_Model_callItem_18 ?_
    refine zv_ialdK X (za_146 hN) (by decide) (by decide) d_Model_callItem_19 ?_
    refine zv_icmp_ge X (tgt := 64) d_Model_callItem_20 (by decide) (fun h20 => ?_) (fun h20 => ?_)
    · refine zv_iconst X d_Model_callItem_64 ?_
      exact zv_zretMK X (Or.inl rfl) d_Model_callItem_65
    · refine zv_aload_n X d_Model_callItem_23 rfl 0 rfl ?_
      refine zv_get X (ci := 7) rfl i_Model (za_144 hN) 21 (by decide) lk_Model_64 rfl rfl d_Model_callItem_24 ?_
      refine zv_iconst X d_Model_callItem_27 ?_
      refine zv_ialdK X (za_163 hN) (by decide) (by decide) d_Model_callItem_28 ?_
      refine zv_aload_n X d_Model_callItem_29 rfl 0 rfl ?_
      refine zv_get X (ci := 7) rfl i_Model (za_144 hN) 2 (by decide) lk_Model_13 rfl rfl d_Model_callItem_30 ?_
      refine zv_iconst X d_Model_callItem_33 ?_
      refine zv_ialdK X (za_146 hN) (by decide) (by decide) d_Model_callItem_34 ?_
      refine zv_icmp_ge X (tgt := 64) d_Model_callItem_35 (by decide) (fun h35 => ?_) (fun h35 => ?_)
      · refine zv_iconst X d_Model_callItem_64 ?_
        exact zv_zretMK X (Or.inl rfl) d_Model_callItem_65
      · refine zv_aload_n X d_Model_callItem_38 rfl 0 rfl ?_
        refine zv_get X (ci := 7) rfl i_Model (za_144 hN) 21 (by decide) lk_Model_64 rfl rfl d_Model_callItem_39 ?_
        refine zv_iconst X d_Model_callItem_42 ?_
        refine zv_ialdK X (za_163 hN) (by decide) (by decide) d_Model_callItem_43 ?_
        refine zv_aload_n X d_Model_callItem_44 rfl 0 rfl ?_
        refine zv_get X (ci := 7) rfl i_Model (za_144 hN) 21 (by decide) lk_Model_64 rfl rfl d_Model_callItem_45 ?_
        refine zv_iconst X d_Model_callItem_48 ?_
        refine zv_ialdK X (za_163 hN) (by decide) (by decide) d_Model_callItem_49 ?_
        refine zv_icmp_eq X (tgt := 64) d_Model_callItem_50 (by decide) (fun h50 => ?_) (fun h50 => ?_)
        · refine zv_iconst X d_Model_callItem_64 ?_
          exact zv_zretMK X (Or.inl rfl) d_Model_callItem_65
        · refine zv_aload_n X d_Model_callItem_53 rfl 0 rfl ?_
          refine zv_get X (ci := 7) rfl i_Model (za_144 hN) 21 (by decide) lk_Model_64 rfl rfl d_Model_callItem_54 ?_
          refine zv_iconst X d_Model_callItem_57 ?_
          refine zv_ialdK X (za_163 hN) (by decide) (by decide) d_Model_callItem_58 ?_
          refine zv_bipush X d_Model_callItem_59 (by decide +kernel) ?_
          refine zv_icmp_le X (tgt := 66) d_Model_callItem_61 (by decide) (fun h61 => ?_) (fun h61 => ?_)
          · refine zv_aload_n X d_Model_callItem_66 rfl 0 rfl ?_
            refine zv_get X (ci := 7) rfl i_Model (za_144 hN) 14 (by decide) lk_Model_49 rfl rfl d_Model_callItem_67 ?_
            refine zv_bipush X d_Model_callItem_70 (by decide +kernel) ?_
            refine zv_bipush X d_Model_callItem_72 (by decide +kernel) ?_
            refine zv_aload_n X d_Model_callItem_74 rfl 0 rfl ?_
            refine zv_get X (ci := 7) rfl i_Model (za_144 hN) 21 (by decide) lk_Model_64 rfl rfl d_Model_callItem_75 ?_
            refine zv_iconst X d_Model_callItem_78 ?_
            refine zv_ialdK X (za_163 hN) (by decide) (by decide) d_Model_callItem_79 ?_
            refine zv_imul X d_Model_callItem_80 ?_
            refine zv_iadd X d_Model_callItem_81 ?_
            refine zv_aload_n X d_Model_callItem_82 rfl 0 rfl ?_
            refine zv_get X (ci := 7) rfl i_Model (za_144 hN) 21 (by decide) lk_Model_64 rfl rfl d_Model_callItem_83 ?_
            refine zv_iconst X d_Model_callItem_86 ?_
            refine zv_ialdK X (za_163 hN) (by decide) (by decide) d_Model_callItem_87 ?_
            refine zv_iadd X d_Model_callItem_88 ?_
            refine zv_aload_n X d_Model_callItem_89 rfl 0 rfl ?_
            refine zv_get X (ci := 7) rfl i_Model (za_144 hN) 21 (by decide) lk_Model_64 rfl rfl d_Model_callItem_90 ?_
            refine zv_iconst X d_Model_callItem_93 ?_
            refine zv_ialdK X (za_163 hN) (by decide) (by decide) d_Model_callItem_94 ?_
            refine zv_iastC X (za_158 hN) d_Model_callItem_95 (fun ha95 hb95 D3 => ?_)
            refine zv_iconst X d_Model_callItem_96 ?_
            refine zv_istore_n X (lv2 := [(1, zi 0), (0, zr Z 144)]) d_Model_callItem_97 rfl (by decide) rfl ?_
            refine zv_iconst X d_Model_callItem_98 ?_
            refine zv_istore_n X (lv2 := [(2, zi 0), (1, zi 0), (0, zr Z 144)]) d_Model_callItem_99 rfl (by decide) rfl ?_
            refine zv_sub X [2, 1, 0] rfl ?_
            exact v_Model_callItem_100 X hN D3 zF 0 0
          · refine zv_iconst X d_Model_callItem_64 ?_
            exact zv_zretMK X (Or.inl rfl) d_Model_callItem_65
set_option maxRecDepth 100000 in
theorem c_Model_item (l : Launch) {Z : Zt} (hZ : Zok Z) (hN : 166 ≤ Z.2.2.2.1)  (D : Mm) : CtM l Z y_Model_item prog_10_method_12_code 2 (some .boolean) rm_Model_item 1 [zr Z 144] D (f_Model_item D) := by
  refine zm_M (lv := [(0, zr Z 144)]) hZ (by decide +kernel) rfl (Nat.le_of_ble_eq_true rfl) rfl (fun Γ hl X => ?_)
  subst hl
  unfold f_Model_item
  refine zv_aload_n X d_Model_item_0 rfl 0 rfl ?_
  refine zv_aload_n X d_Model_item_1 rfl 0 rfl ?_
  refine zv_get X (ci := 7) rfl i_Model (za_144 hN) 20 (by decide) lk_Model_92 rfl rfl d_Model_item_2 ?_
  refine zv_cVP1 X (av := [zi (D 144 20)]) (st := []) (ci := 7) (c_Model_byteAt Γ.2.1 X.2.2.2.2.2.2.2.1 hN (D 144 20) D) mk_Model_95 rfl (za_144 hN) ⟨rfl, rfl, Nat.le_of_ble_eq_true rfl, Nat.le_of_ble_eq_true rfl⟩ rfl (Nat.le_of_ble_eq_true rfl) d_Model_item_5 (fun r1 hr1 => ?_)
  refine zv_istore_n X (lv2 := [(1, zi r1), (0, zr Z 144)]) d_Model_item_8 rfl (by decide) rfl ?_
  refine zv_aload_n X d_Model_item_9 rfl 1 rfl ?_
  refine zv_dup X d_Model_item_10 rfl ?_
  refine zv_get X (ci := 7) rfl i_Model (za_144 hN) 20 (by decide) lk_Model_92 rfl rfl d_Model_item_11 ?_
  refine zv_iconst X d_Model_item_14 ?_
  refine zv_iadd X d_Model_item_15 ?_
  refine zv_putC X (ci := 7) rfl i_Model t_Model t_Model_ok n_Model (za_144 hN) 20 rfl (by decide) lk_Model_92 rfl rfl (ps_7_20 ..) (Nat.le_of_ble_eq_true rfl) rfl rfl d_Model_item_16 (fun D2 => ?_)
  refine zv_iload_n X d_Model_item_19 rfl 0 rfl ?_
  refine zv_split (fun h20_98 => ?_) (fun h20_98 => ?_)
  · refine zv_tin X (tgt := 221) (off := 201) d_Model_item_20 h20_98 (by decide +kernel) (by decide) ?_
    refine zv_aload_n X d_Model_item_221 rfl 1 rfl ?_
    refine zv_iconst X d_Model_item_222 ?_
    refine zv_cVM1 X (av := [zi 3]) (st := []) (ci := 7) (c_Model_figures Γ.2.1 X.2.2.2.2.2.2.2.1 hN 3 D2) mk_Model_105 rfl (za_144 hN) ⟨rfl, rfl, Nat.le_of_ble_eq_true rfl, Nat.le_of_ble_eq_true rfl⟩ rfl (Nat.le_of_ble_eq_true rfl) d_Model_item_223 (fun r3 D4 hr3 => ?_)
    refine zv_if_eq X (y := 0) (tgt := 265) d_Model_item_226 (by decide) (fun h226 => ?_) (fun h226 => ?_)
    · refine zv_iconst X d_Model_item_265 ?_
      exact zv_zretMK X (Or.inl rfl) d_Model_item_266
    · refine zv_aload_n X d_Model_item_229 rfl 1 rfl ?_
      refine zv_get X (ci := 7) rfl i_Model (za_144 hN) 21 (by decide) lk_Model_64 rfl rfl d_Model_item_230 ?_
      refine zv_iconst X d_Model_item_233 ?_
      refine zv_ialdK X (za_163 hN) (by decide) (by decide) d_Model_item_234 ?_
      refine zv_iconst X d_Model_item_235 ?_
      refine zv_icmp_gt X (tgt := 265) d_Model_item_236 (by decide) (fun h236 => ?_) (fun h236 => ?_)
      · refine zv_iconst X d_Model_item_265 ?_
        exact zv_zretMK X (Or.inl rfl) d_Model_item_266
      · refine zv_aload_n X d_Model_item_239 rfl 1 rfl ?_
        refine zv_get X (ci := 7) rfl i_Model (za_144 hN) 21 (by decide) lk_Model_64 rfl rfl d_Model_item_240 ?_
        refine zv_iconst X d_Model_item_243 ?_
        refine zv_ialdK X (za_163 hN) (by decide) (by decide) d_Model_item_244 ?_
        refine zv_aload_n X d_Model_item_245 rfl 1 rfl ?_
        refine zv_get X (ci := 7) rfl i_Model (za_144 hN) 2 (by decide) lk_Model_13 rfl rfl d_Model_item_246 ?_
        refine zv_iconst X d_Model_item_249 ?_
        refine zv_ialdK X (za_146 hN) (by decide) (by decide) d_Model_item_250 ?_
        refine zv_icmp_ge X (tgt := 265) d_Model_item_251 (by decide) (fun h251 => ?_) (fun h251 => ?_)
        · refine zv_iconst X d_Model_item_265 ?_
          exact zv_zretMK X (Or.inl rfl) d_Model_item_266
        · refine zv_aload_n X d_Model_item_254 rfl 1 rfl ?_
          refine zv_get X (ci := 7) rfl i_Model (za_144 hN) 21 (by decide) lk_Model_64 rfl rfl d_Model_item_255 ?_
          refine zv_iconst X d_Model_item_258 ?_
          refine zv_ialdK X (za_163 hN) (by decide) (by decide) d_Model_item_259 ?_
          refine zv_bipush X d_Model_item_260 (by decide +kernel) ?_
          refine zv_icmp_le X (tgt := 267) d_Model_item_262 (by decide) (fun h262 => ?_) (fun h262 => ?_)
          · refine zv_aload_n X d_Model_item_267 rfl 1 rfl ?_
            refine zv_get X (ci := 7) rfl i_Model (za_144 hN) 10 (by decide) lk_Model_37 rfl rfl d_Model_item_268 ?_
            refine zv_bipush X d_Model_item_271 (by decide +kernel) ?_
            refine zv_bipush X d_Model_item_273 (by decide +kernel) ?_
            refine zv_aload_n X d_Model_item_275 rfl 1 rfl ?_
            refine zv_get X (ci := 7) rfl i_Model (za_144 hN) 21 (by decide) lk_Model_64 rfl rfl d_Model_item_276 ?_
            refine zv_iconst X d_Model_item_279 ?_
            refine zv_ialdK X (za_163 hN) (by decide) (by decide) d_Model_item_280 ?_
            refine zv_imul X d_Model_item_281 ?_
            refine zv_iadd X d_Model_item_282 ?_
            refine zv_aload_n X d_Model_item_283 rfl 1 rfl ?_
            refine zv_get X (ci := 7) rfl i_Model (za_144 hN) 21 (by decide) lk_Model_64 rfl rfl d_Model_item_284 ?_
            refine zv_iconst X d_Model_item_287 ?_
            refine zv_ialdK X (za_163 hN) (by decide) (by decide) d_Model_item_288 ?_
            refine zv_iadd X d_Model_item_289 ?_
            refine zv_aload_n X d_Model_item_290 rfl 1 rfl ?_
            refine zv_get X (ci := 7) rfl i_Model (za_144 hN) 21 (by decide) lk_Model_64 rfl rfl d_Model_item_291 ?_
            refine zv_iconst X d_Model_item_294 ?_
            refine zv_ialdK X (za_163 hN) (by decide) (by decide) d_Model_item_295 ?_
            refine zv_iastC X (za_154 hN) d_Model_item_296 (fun ha296 hb296 D5 => ?_)
            refine zv_iconst X d_Model_item_297 ?_
            exact zv_zretMK X (Or.inr rfl) d_Model_item_298
          · refine zv_iconst X d_Model_item_265 ?_
            exact zv_zretMK X (Or.inl rfl) d_Model_item_266
  refine zv_split (fun h20_102 => ?_) (fun h20_102 => ?_)
  · refine zv_tin X (tgt := 133) (off := 113) d_Model_item_20 h20_102 (by decide +kernel) (by decide) ?_
    refine zv_aload_n X d_Model_item_133 rfl 1 rfl ?_
    refine zv_cVM1 X (av := []) (st := []) (ci := 7) (c_Model_faceItem Γ.2.1 X.2.2.2.2.2.2.2.1 hN D2) mk_Model_115 rfl (za_144 hN) ⟨rfl, rfl, Nat.le_of_ble_eq_true rfl, Nat.le_of_ble_eq_true rfl⟩ rfl (Nat.le_of_ble_eq_true rfl) d_Model_item_134 (fun r6 D7 hr6 => ?_)
    exact zv_zretM X d_Model_item_137
  refine zv_split (fun h20_103 => ?_) (fun h20_103 => ?_)
  · refine zv_tin X (tgt := 128) (off := 108) d_Model_item_20 h20_103 (by decide +kernel) (by decide) ?_
    refine zv_aload_n X d_Model_item_128 rfl 1 rfl ?_
    refine zv_cVM1 X (av := []) (st := []) (ci := 7) (c_Model_sortItem Γ.2.1 X.2.2.2.2.2.2.2.1 hN D2) mk_Model_111 rfl (za_144 hN) ⟨rfl, rfl, Nat.le_of_ble_eq_true rfl, Nat.le_of_ble_eq_true rfl⟩ rfl (Nat.le_of_ble_eq_true rfl) d_Model_item_129 (fun r8 D9 hr8 => ?_)
    exact zv_zretM X d_Model_item_132
  refine zv_split (fun h20_116 => ?_) (fun h20_116 => ?_)
  · refine zv_tin X (tgt := 351) (off := 331) d_Model_item_20 h20_116 (by decide +kernel) (by decide) ?_
    refine zv_aload_n X d_Model_item_351 rfl 1 rfl ?_
    refine zv_iconst X d_Model_item_352 ?_
    refine zv_cVM1 X (av := [zi 3]) (st := []) (ci := 7) (c_Model_figures Γ.2.1 X.2.2.2.2.2.2.2.1 hN 3 D2) mk_Model_105 rfl (za_144 hN) ⟨rfl, rfl, Nat.le_of_ble_eq_true rfl, Nat.le_of_ble_eq_true rfl⟩ rfl (Nat.le_of_ble_eq_true rfl) d_Model_item_353 (fun r10 D11 hr10 => ?_)
    refine zv_if_eq X (y := 0) (tgt := 390) d_Model_item_356 (by decide) (fun h356 => ?_) (fun h356 => ?_)
    · refine zv_iconst X d_Model_item_390 ?_
      exact zv_zretMK X (Or.inl rfl) d_Model_item_391
    · refine zv_aload_n X d_Model_item_359 rfl 1 rfl ?_
      refine zv_get X (ci := 7) rfl i_Model (za_144 hN) 21 (by decide) lk_Model_64 rfl rfl d_Model_item_360 ?_
      refine zv_iconst X d_Model_item_363 ?_
      refine zv_ialdK X (za_163 hN) (by decide) (by decide) d_Model_item_364 ?_
      refine zv_iconst X d_Model_item_365 ?_
      refine zv_icmp_gt X (tgt := 390) d_Model_item_366 (by decide) (fun h366 => ?_) (fun h366 => ?_)
      · refine zv_iconst X d_Model_item_390 ?_
        exact zv_zretMK X (Or.inl rfl) d_Model_item_391
      · refine zv_aload_n X d_Model_item_369 rfl 1 rfl ?_
        refine zv_get X (ci := 7) rfl i_Model (za_144 hN) 21 (by decide) lk_Model_64 rfl rfl d_Model_item_370 ?_
        refine zv_iconst X d_Model_item_373 ?_
        refine zv_ialdK X (za_163 hN) (by decide) (by decide) d_Model_item_374 ?_
        refine zv_bipush X d_Model_item_375 (by decide +kernel) ?_
        refine zv_icmp_gt X (tgt := 390) d_Model_item_377 (by decide) (fun h377 => ?_) (fun h377 => ?_)
        · refine zv_iconst X d_Model_item_390 ?_
          exact zv_zretMK X (Or.inl rfl) d_Model_item_391
        · refine zv_aload_n X d_Model_item_380 rfl 1 rfl ?_
          refine zv_get X (ci := 7) rfl i_Model (za_144 hN) 21 (by decide) lk_Model_64 rfl rfl d_Model_item_381 ?_
          refine zv_iconst X d_Model_item_384 ?_
          refine zv_ialdK X (za_163 hN) (by decide) (by decide) d_Model_item_385 ?_
          refine zv_iconst X d_Model_item_386 ?_
          refine zv_icmp_le X (tgt := 392) d_Model_item_387 (by decide) (fun h387 => ?_) (fun h387 => ?_)
          · refine zv_aload_n X d_Model_item_392 rfl 1 rfl ?_
            refine zv_get X (ci := 7) rfl i_Model (za_144 hN) 12 (by decide) lk_Model_43 rfl rfl d_Model_item_393 ?_
            refine zv_iconst X d_Model_item_396 ?_
            refine zv_aload_n X d_Model_item_397 rfl 1 rfl ?_
            refine zv_get X (ci := 7) rfl i_Model (za_144 hN) 21 (by decide) lk_Model_64 rfl rfl d_Model_item_398 ?_
            refine zv_iconst X d_Model_item_401 ?_
            refine zv_ialdK X (za_163 hN) (by decide) (by decide) d_Model_item_402 ?_
            refine zv_iadd X d_Model_item_403 ?_
            refine zv_aload_n X d_Model_item_404 rfl 1 rfl ?_
            refine zv_get X (ci := 7) rfl i_Model (za_144 hN) 21 (by decide) lk_Model_64 rfl rfl d_Model_item_405 ?_
            refine zv_iconst X d_Model_item_408 ?_
            refine zv_ialdK X (za_163 hN) (by decide) (by decide) d_Model_item_409 ?_
            refine zv_iastC X (za_156 hN) d_Model_item_410 (fun ha410 hb410 D12 => ?_)
            refine zv_aload_n X d_Model_item_411 rfl 1 rfl ?_
            refine zv_get X (ci := 7) rfl i_Model (za_144 hN) 13 (by decide) lk_Model_46 rfl rfl d_Model_item_412 ?_
            refine zv_iconst X d_Model_item_415 ?_
            refine zv_aload_n X d_Model_item_416 rfl 1 rfl ?_
            refine zv_get X (ci := 7) rfl i_Model (za_144 hN) 21 (by decide) lk_Model_64 rfl rfl d_Model_item_417 ?_
            refine zv_iconst X d_Model_item_420 ?_
            refine zv_ialdK X (za_163 hN) (by decide) (by decide) d_Model_item_421 ?_
            refine zv_iadd X d_Model_item_422 ?_
            refine zv_aload_n X d_Model_item_423 rfl 1 rfl ?_
            refine zv_get X (ci := 7) rfl i_Model (za_144 hN) 21 (by decide) lk_Model_64 rfl rfl d_Model_item_424 ?_
            refine zv_iconst X d_Model_item_427 ?_
            refine zv_ialdK X (za_163 hN) (by decide) (by decide) d_Model_item_428 ?_
            refine zv_iastC X (za_157 hN) d_Model_item_429 (fun ha429 hb429 D13 => ?_)
            refine zv_iconst X d_Model_item_430 ?_
            exact zv_zretMK X (Or.inr rfl) d_Model_item_431
          · refine zv_iconst X d_Model_item_390 ?_
            exact zv_zretMK X (Or.inl rfl) d_Model_item_391
  refine zv_split (fun h20_117 => ?_) (fun h20_117 => ?_)
  · refine zv_tin X (tgt := 138) (off := 118) d_Model_item_20 h20_117 (by decide +kernel) (by decide) ?_
    refine zv_aload_n X d_Model_item_138 rfl 1 rfl ?_
    refine zv_iconst X d_Model_item_139 ?_
    refine zv_cVM1 X (av := [zi 3]) (st := []) (ci := 7) (c_Model_figures Γ.2.1 X.2.2.2.2.2.2.2.1 hN 3 D2) mk_Model_105 rfl (za_144 hN) ⟨rfl, rfl, Nat.le_of_ble_eq_true rfl, Nat.le_of_ble_eq_true rfl⟩ rfl (Nat.le_of_ble_eq_true rfl) d_Model_item_140 (fun r14 D15 hr14 => ?_)
    refine zv_if_eq X (y := 0) (tgt := 187) d_Model_item_143 (by decide) (fun h143 => ?_) (fun h143 => ?_)
    · refine zv_iconst X d_Model_item_187 ?_
      exact zv_zretMK X (Or.inl rfl) d_Model_item_188
    · refine zv_aload_n X d_Model_item_146 rfl 1 rfl ?_
      refine zv_get X (ci := 7) rfl i_Model (za_144 hN) 21 (by decide) lk_Model_64 rfl rfl d_Model_item_147 ?_
      refine zv_iconst X d_Model_item_150 ?_
      refine zv_ialdK X (za_163 hN) (by decide) (by decide) d_Model_item_151 ?_
      refine zv_aload_n X d_Model_item_152 rfl 1 rfl ?_
      refine zv_get X (ci := 7) rfl i_Model (za_144 hN) 4 (by decide) lk_Model_19 rfl rfl d_Model_item_153 ?_
      refine zv_iconst X d_Model_item_156 ?_
      refine zv_ialdK X (za_148 hN) (by decide) (by decide) d_Model_item_157 ?_
      refine zv_icmp_ge X (tgt := 187) d_Model_item_158 (by decide) (fun h158 => ?_) (fun h158 => ?_)
      · refine zv_iconst X d_Model_item_187 ?_
        exact zv_zretMK X (Or.inl rfl) d_Model_item_188
      · refine zv_aload_n X d_Model_item_161 rfl 1 rfl ?_
        refine zv_get X (ci := 7) rfl i_Model (za_144 hN) 21 (by decide) lk_Model_64 rfl rfl d_Model_item_162 ?_
        refine zv_iconst X d_Model_item_165 ?_
        refine zv_ialdK X (za_163 hN) (by decide) (by decide) d_Model_item_166 ?_
        refine zv_aload_n X d_Model_item_167 rfl 1 rfl ?_
        refine zv_get X (ci := 7) rfl i_Model (za_144 hN) 2 (by decide) lk_Model_13 rfl rfl d_Model_item_168 ?_
        refine zv_iconst X d_Model_item_171 ?_
        refine zv_ialdK X (za_146 hN) (by decide) (by decide) d_Model_item_172 ?_
        refine zv_icmp_ge X (tgt := 187) d_Model_item_173 (by decide) (fun h173 => ?_) (fun h173 => ?_)
        · refine zv_iconst X d_Model_item_187 ?_
          exact zv_zretMK X (Or.inl rfl) d_Model_item_188
        · refine zv_aload_n X d_Model_item_176 rfl 1 rfl ?_
          refine zv_get X (ci := 7) rfl i_Model (za_144 hN) 21 (by decide) lk_Model_64 rfl rfl d_Model_item_177 ?_
          refine zv_iconst X d_Model_item_180 ?_
          refine zv_ialdK X (za_163 hN) (by decide) (by decide) d_Model_item_181 ?_
          refine zv_bipush X d_Model_item_182 (by decide +kernel) ?_
          refine zv_icmp_le X (tgt := 189) d_Model_item_184 (by decide) (fun h184 => ?_) (fun h184 => ?_)
          · refine zv_aload_n X d_Model_item_189 rfl 1 rfl ?_
            refine zv_get X (ci := 7) rfl i_Model (za_144 hN) 9 (by decide) lk_Model_34 rfl rfl d_Model_item_190 ?_
            refine zv_bipush X d_Model_item_193 (by decide +kernel) ?_
            refine zv_bipush X d_Model_item_195 (by decide +kernel) ?_
            refine zv_aload_n X d_Model_item_197 rfl 1 rfl ?_
            refine zv_get X (ci := 7) rfl i_Model (za_144 hN) 21 (by decide) lk_Model_64 rfl rfl d_Model_item_198 ?_
            refine zv_iconst X d_Model_item_201 ?_
            refine zv_ialdK X (za_163 hN) (by decide) (by decide) d_Model_item_202 ?_
            refine zv_imul X d_Model_item_203 ?_
            refine zv_iadd X d_Model_item_204 ?_
            refine zv_aload_n X d_Model_item_205 rfl 1 rfl ?_
            refine zv_get X (ci := 7) rfl i_Model (za_144 hN) 21 (by decide) lk_Model_64 rfl rfl d_Model_item_206 ?_
            refine zv_iconst X d_Model_item_209 ?_
            refine zv_ialdK X (za_163 hN) (by decide) (by decide) d_Model_item_210 ?_
            refine zv_iadd X d_Model_item_211 ?_
            refine zv_aload_n X d_Model_item_212 rfl 1 rfl ?_
            refine zv_get X (ci := 7) rfl i_Model (za_144 hN) 21 (by decide) lk_Model_64 rfl rfl d_Model_item_213 ?_
            refine zv_iconst X d_Model_item_216 ?_
            refine zv_ialdK X (za_163 hN) (by decide) (by decide) d_Model_item_217 ?_
            refine zv_iastC X (za_153 hN) d_Model_item_218 (fun ha218 hb218 D16 => ?_)
            refine zv_iconst X d_Model_item_219 ?_
            exact zv_zretMK X (Or.inr rfl) d_Model_item_220
          · refine zv_iconst X d_Model_item_187 ?_
            exact zv_zretMK X (Or.inl rfl) d_Model_item_188
  refine zv_split (fun h20_119 => ?_) (fun h20_119 => ?_)
  · refine zv_tin X (tgt := 299) (off := 279) d_Model_item_20 h20_119 (by decide +kernel) (by decide) ?_
    refine zv_aload_n X d_Model_item_299 rfl 1 rfl ?_
    refine zv_iconst X d_Model_item_300 ?_
    refine zv_cVM1 X (av := [zi 2]) (st := []) (ci := 7) (c_Model_figures Γ.2.1 X.2.2.2.2.2.2.2.1 hN 2 D2) mk_Model_105 rfl (za_144 hN) ⟨rfl, rfl, Nat.le_of_ble_eq_true rfl, Nat.le_of_ble_eq_true rfl⟩ rfl (Nat.le_of_ble_eq_true rfl) d_Model_item_301 (fun r17 D18 hr17 => ?_)
    refine zv_if_eq X (y := 0) (tgt := 328) d_Model_item_304 (by decide) (fun h304 => ?_) (fun h304 => ?_)
    · refine zv_iconst X d_Model_item_328 ?_
      exact zv_zretMK X (Or.inl rfl) d_Model_item_329
    · refine zv_aload_n X d_Model_item_307 rfl 1 rfl ?_
      refine zv_get X (ci := 7) rfl i_Model (za_144 hN) 21 (by decide) lk_Model_64 rfl rfl d_Model_item_308 ?_
      refine zv_iconst X d_Model_item_311 ?_
      refine zv_ialdK X (za_163 hN) (by decide) (by decide) d_Model_item_312 ?_
      refine zv_iconst X d_Model_item_313 ?_
      refine zv_icmp_gt X (tgt := 328) d_Model_item_314 (by decide) (fun h314 => ?_) (fun h314 => ?_)
      · refine zv_iconst X d_Model_item_328 ?_
        exact zv_zretMK X (Or.inl rfl) d_Model_item_329
      · refine zv_aload_n X d_Model_item_317 rfl 1 rfl ?_
        refine zv_get X (ci := 7) rfl i_Model (za_144 hN) 21 (by decide) lk_Model_64 rfl rfl d_Model_item_318 ?_
        refine zv_iconst X d_Model_item_321 ?_
        refine zv_ialdK X (za_163 hN) (by decide) (by decide) d_Model_item_322 ?_
        refine zv_bipush X d_Model_item_323 (by decide +kernel) ?_
        refine zv_icmp_le X (tgt := 330) d_Model_item_325 (by decide) (fun h325 => ?_) (fun h325 => ?_)
        · refine zv_aload_n X d_Model_item_330 rfl 1 rfl ?_
          refine zv_get X (ci := 7) rfl i_Model (za_144 hN) 11 (by decide) lk_Model_40 rfl rfl d_Model_item_331 ?_
          refine zv_iconst X d_Model_item_334 ?_
          refine zv_aload_n X d_Model_item_335 rfl 1 rfl ?_
          refine zv_get X (ci := 7) rfl i_Model (za_144 hN) 21 (by decide) lk_Model_64 rfl rfl d_Model_item_336 ?_
          refine zv_iconst X d_Model_item_339 ?_
          refine zv_ialdK X (za_163 hN) (by decide) (by decide) d_Model_item_340 ?_
          refine zv_iadd X d_Model_item_341 ?_
          refine zv_aload_n X d_Model_item_342 rfl 1 rfl ?_
          refine zv_get X (ci := 7) rfl i_Model (za_144 hN) 21 (by decide) lk_Model_64 rfl rfl d_Model_item_343 ?_
          refine zv_iconst X d_Model_item_346 ?_
          refine zv_ialdK X (za_163 hN) (by decide) (by decide) d_Model_item_347 ?_
          refine zv_iastC X (za_155 hN) d_Model_item_348 (fun ha348 hb348 D19 => ?_)
          refine zv_iconst X d_Model_item_349 ?_
          exact zv_zretMK X (Or.inr rfl) d_Model_item_350
        · refine zv_iconst X d_Model_item_328 ?_
          exact zv_zretMK X (Or.inl rfl) d_Model_item_329
  refine zv_split (fun h20_120 => ?_) (fun h20_120 => ?_)
  · refine zv_tin X (tgt := 432) (off := 412) d_Model_item_20 h20_120 (by decide +kernel) (by decide) ?_
    refine zv_aload_n X d_Model_item_432 rfl 1 rfl ?_
    refine zv_cVM1 X (av := []) (st := []) (ci := 7) (c_Model_callItem Γ.2.1 X.2.2.2.2.2.2.2.1 hN D2) mk_Model_118 rfl (za_144 hN) ⟨rfl, rfl, Nat.le_of_ble_eq_true rfl, Nat.le_of_ble_eq_true rfl⟩ rfl (Nat.le_of_ble_eq_true rfl) d_Model_item_433 (fun r20 D21 hr20 => ?_)
    exact zv_zretM X d_Model_item_436
  refine zv_tdef X (tgt := 437) d_Model_item_20 (zt_def (cs := [98, 102, 103, 116, 117, 119, 120]) (by decide +kernel) (by decide) (List.forall_mem_cons.mpr ⟨zI_nek h20_98 (by decide +kernel), List.forall_mem_cons.mpr ⟨zI_nek h20_102 (by decide +kernel), List.forall_mem_cons.mpr ⟨zI_nek h20_103 (by decide +kernel), List.forall_mem_cons.mpr ⟨zI_nek h20_116 (by decide +kernel), List.forall_mem_cons.mpr ⟨zI_nek h20_117 (by decide +kernel), List.forall_mem_cons.mpr ⟨zI_nek h20_119 (by decide +kernel), List.forall_mem_cons.mpr ⟨zI_nek h20_120 (by decide +kernel), List.forall_mem_nil _⟩⟩⟩⟩⟩⟩⟩)) (by decide) ?_
  refine zv_iconst X d_Model_item_437 ?_
  exact zv_zretMK X (Or.inl rfl) d_Model_item_438
set_option maxRecDepth 100000 in
theorem v_Model_readAll_10 {Γ : Gt} {Z : Zt} (X : Cx Γ Z prog_10_method_13_code R_Model 2 (some .int) rm_Model_readAll) (hN : 166 ≤ Z.2.2.2.1)    : ∀ (n : Nat) (D : Mm), Zv Γ Z 2 (QfM Γ Z 1) (f_Model_readAll_10 n D) D 10 [(0, zr Z 144)] [] := by
  intro n
  induction n with
  | zero =>
    intro D
    exact zv_none
  | succ n ih =>
    intro D
    rw [f_Model_readAll_10]
    refine zv_aload_n X d_Model_readAll_10 rfl 0 rfl ?_
    refine zv_get X (ci := 7) rfl i_Model (za_144 hN) 20 (by decide) lk_Model_92 rfl rfl d_Model_readAll_11 ?_
    refine zv_aload_n X d_Model_readAll_14 rfl 0 rfl ?_
    refine zv_get X (ci := 7) rfl i_Model (za_144 hN) 0 (by decide) lk_Model_86 rfl rfl d_Model_readAll_15 ?_
    refine zv_icmp_ge X (tgt := 38) d_Model_readAll_18 (by decide) (fun h18 => ?_) (fun h18 => ?_)
    · refine zv_bipush X d_Model_readAll_38 (by decide +kernel) ?_
      exact zv_iretM X d_Model_readAll_40
    · refine zv_aload_n X d_Model_readAll_21 rfl 0 rfl ?_
      refine zv_get X (ci := 7) rfl i_Model (za_144 hN) 20 (by decide) lk_Model_92 rfl rfl d_Model_readAll_22 ?_
      refine zv_istore_n X (lv2 := [(1, zi (D 144 20)), (0, zr Z 144)]) d_Model_readAll_25 rfl (by decide) rfl ?_
      refine zv_aload_n X d_Model_readAll_26 rfl 1 rfl ?_
      refine zv_cVM1 X (av := []) (st := []) (ci := 7) (c_Model_item Γ.2.1 X.2.2.2.2.2.2.2.1 hN D) mk_Model_121 rfl (za_144 hN) ⟨rfl, rfl, Nat.le_of_ble_eq_true rfl, Nat.le_of_ble_eq_true rfl⟩ rfl (Nat.le_of_ble_eq_true rfl) d_Model_readAll_27 (fun r1 D2 hr1 => ?_)
      refine zv_if_ne X (y := 0) (tgt := 35) d_Model_readAll_30 (by decide) (fun h30 => ?_) (fun h30 => ?_)
      · refine zv_goto X (tgt := 10) d_Model_readAll_35 (by decide) ?_
        refine zv_sub X [1] rfl ?_
        exact ih D2
      · refine zv_iload_n X d_Model_readAll_33 rfl 0 rfl ?_
        exact zv_iretM X d_Model_readAll_34
set_option maxRecDepth 100000 in
theorem c_Model_readAll (l : Launch) {Z : Zt} (hZ : Zok Z) (hN : 166 ≤ Z.2.2.2.1)  (D : Mm) : CtM l Z y_Model_readAll prog_10_method_13_code 2 (some .int) rm_Model_readAll 1 [zr Z 144] D (f_Model_readAll D) := by
  refine zm_M (lv := [(0, zr Z 144)]) hZ (by decide +kernel) rfl (Nat.le_of_ble_eq_true rfl) rfl (fun Γ hl X => ?_)
  subst hl
  unfold f_Model_readAll
  refine zv_aload_n X d_Model_readAll_0 rfl 0 rfl ?_
  refine zv_iconst X d_Model_readAll_1 ?_
  refine zv_cVM0 X (av := [zi 1]) (st := []) (ci := 7) (c_Model_noStones Γ.2.1 X.2.2.2.2.2.2.2.1 hN 1 D) mk_Model_76 rfl (za_144 hN) ⟨rfl, rfl, Nat.le_of_ble_eq_true rfl, Nat.le_of_ble_eq_true rfl⟩ rfl (Nat.le_of_ble_eq_true rfl) d_Model_readAll_2 (fun _ D2 hr1 => ?_)
  refine zv_aload_n X d_Model_readAll_5 rfl 0 rfl ?_
  refine zv_iconst X d_Model_readAll_6 ?_
  refine zv_putC X (ci := 7) rfl i_Model t_Model t_Model_ok n_Model (za_144 hN) 20 rfl (by decide) lk_Model_92 rfl rfl (ps_7_20 ..) (Nat.le_of_ble_eq_true rfl) rfl rfl d_Model_readAll_7 (fun D3 => ?_)
  exact v_Model_readAll_10 X hN zF D3
set_option maxRecDepth 100000 in
theorem c_Model_fault (l : Launch) {Z : Zt} (hZ : Zok Z) (hN : 166 ≤ Z.2.2.2.1)  (D : Mm) : CtM l Z y_Model_fault prog_10_method_14_code 1 (some .int) rm_Model_fault 1 [zr Z 144] D (f_Model_fault D) := by
  refine zm_M (lv := [(0, zr Z 144)]) hZ (by decide +kernel) rfl (Nat.le_of_ble_eq_true rfl) rfl (fun Γ hl X => ?_)
  subst hl
  unfold f_Model_fault
  refine zv_aload_n X d_Model_fault_0 rfl 0 rfl ?_
  refine zv_cVM1 X (av := []) (st := []) (ci := 7) (c_Model_readAll Γ.2.1 X.2.2.2.2.2.2.2.1 hN D) mk_Model_124 rfl (za_144 hN) ⟨rfl, rfl, Nat.le_of_ble_eq_true rfl, Nat.le_of_ble_eq_true rfl⟩ rfl (Nat.le_of_ble_eq_true rfl) d_Model_fault_1 (fun r1 D2 hr1 => ?_)
  exact zv_iretM X d_Model_fault_4
set_option maxRecDepth 100000 in
theorem v_Model_lay_272 {Γ : Gt} {Z : Zt} (X : Cx Γ Z prog_10_method_15_code R_Model 2 (some .int) rm_Model_lay) (hN : 166 ≤ Z.2.2.2.1)    : ∀ (n : Nat) (v1 : Int) (D : Mm), Zv Γ Z 2 (QfM Γ Z 1) (f_Model_lay_272 n v1 D) D 272 [(0, zr Z 144), (1, zi v1)] [] := by
  intro n
  induction n with
  | zero =>
    intro v1 D
    exact zv_none
  | succ n ih =>
    intro v1 D
    rw [f_Model_lay_272]
    refine zv_iload_n X d_Model_lay_272 rfl 1 rfl ?_
    refine zv_bipush X d_Model_lay_273 (by decide +kernel) ?_
    refine zv_icmp_ge X (tgt := 306) d_Model_lay_275 (by decide) (fun h275 => ?_) (fun h275 => ?_)
    · refine zv_aload_n X d_Model_lay_306 rfl 0 rfl ?_
      refine zv_get X (ci := 7) rfl i_Model (za_144 hN) 18 (by decide) lk_Model_61 rfl rfl d_Model_lay_307 ?_
      refine zv_iconst X d_Model_lay_310 ?_
      refine zv_iconst X d_Model_lay_311 ?_
      refine zv_iastK X (za_162 hN) (by decide) (by decide) d_Model_lay_312 (fun D1 => ?_)
      refine zv_aload_n X d_Model_lay_313 rfl 0 rfl ?_
      refine zv_iconst X d_Model_lay_314 ?_
      refine zv_putC X (ci := 7) rfl i_Model t_Model t_Model_ok n_Model (za_144 hN) 19 rfl (by decide) lk_Model_128 rfl rfl (ps_7_19 ..) (Nat.le_of_ble_eq_true rfl) rfl rfl d_Model_lay_315 (fun D2 => ?_)
      refine zv_aload_n X d_Model_lay_318 rfl 0 rfl ?_
      refine zv_get X (ci := 7) rfl i_Model (za_144 hN) 4 (by decide) lk_Model_19 rfl rfl d_Model_lay_319 ?_
      refine zv_iconst X d_Model_lay_322 ?_
      refine zv_ialdK X (za_148 hN) (by decide) (by decide) d_Model_lay_323 ?_
      exact zv_iretM X d_Model_lay_324
    · refine zv_aload_n X d_Model_lay_278 rfl 0 rfl ?_
      refine zv_get X (ci := 7) rfl i_Model (za_144 hN) 14 (by decide) lk_Model_49 rfl rfl d_Model_lay_279 ?_
      refine zv_iload_n X d_Model_lay_282 rfl 1 rfl ?_
      refine zv_aload_n X d_Model_lay_283 rfl 0 rfl ?_
      refine zv_get X (ci := 7) rfl i_Model (za_144 hN) 14 (by decide) lk_Model_49 rfl rfl d_Model_lay_284 ?_
      refine zv_bipush X d_Model_lay_287 (by decide +kernel) ?_
      refine zv_iload_n X d_Model_lay_289 rfl 1 rfl ?_
      refine zv_iadd X d_Model_lay_290 ?_
      refine zv_iald X (za_158 hN) d_Model_lay_291 (fun ha291 hb291 => ?_)
      refine zv_iastC X (za_158 hN) d_Model_lay_292 (fun ha292 hb292 D3 => ?_)
      refine zv_aload_n X d_Model_lay_293 rfl 0 rfl ?_
      refine zv_get X (ci := 7) rfl i_Model (za_144 hN) 17 (by decide) lk_Model_58 rfl rfl d_Model_lay_294 ?_
      refine zv_iload_n X d_Model_lay_297 rfl 1 rfl ?_
      refine zv_iconst X d_Model_lay_298 ?_
      refine zv_iastC X (za_161 hN) d_Model_lay_299 (fun ha299 hb299 D4 => ?_)
      refine zv_iinc X (lv2 := [(1, zi (v1 + 1)), (0, zr Z 144)]) d_Model_lay_300 1 rfl (by decide) rfl ?_
      refine zv_goto X (tgt := 272) d_Model_lay_303 (by decide) ?_
      refine zv_sub X [1, 0] rfl ?_
      exact ih (v1 + 1) D4
set_option maxRecDepth 100000 in
theorem v_Model_lay_217 {Γ : Gt} {Z : Zt} (X : Cx Γ Z prog_10_method_15_code R_Model 2 (some .int) rm_Model_lay) (hN : 166 ≤ Z.2.2.2.1)    : ∀ (n : Nat) (v1 : Int) (D : Mm), Zv Γ Z 2 (QfM Γ Z 1) (f_Model_lay_217 n v1 D) D 217 [(0, zr Z 144), (1, zi v1)] [] := by
  intro n
  induction n with
  | zero =>
    intro v1 D
    exact zv_none
  | succ n ih =>
    intro v1 D
    rw [f_Model_lay_217]
    refine zv_iload_n X d_Model_lay_217 rfl 1 rfl ?_
    refine zv_iconst X d_Model_lay_218 ?_
    refine zv_icmp_ge X (tgt := 270) d_Model_lay_219 (by decide) (fun h219 => ?_) (fun h219 => ?_)
    · refine zv_iconst X d_Model_lay_270 ?_
      refine zv_istore_n X (lv2 := [(1, zi 0), (0, zr Z 144)]) d_Model_lay_271 rfl (by decide) rfl ?_
      refine zv_sub X [1, 0] rfl ?_
      exact v_Model_lay_272 X hN zF 0 D
    · refine zv_aload_n X d_Model_lay_222 rfl 0 rfl ?_
      refine zv_get X (ci := 7) rfl i_Model (za_144 hN) 11 (by decide) lk_Model_40 rfl rfl d_Model_lay_223 ?_
      refine zv_iload_n X d_Model_lay_226 rfl 1 rfl ?_
      refine zv_aload_n X d_Model_lay_227 rfl 0 rfl ?_
      refine zv_get X (ci := 7) rfl i_Model (za_144 hN) 11 (by decide) lk_Model_40 rfl rfl d_Model_lay_228 ?_
      refine zv_iconst X d_Model_lay_231 ?_
      refine zv_iload_n X d_Model_lay_232 rfl 1 rfl ?_
      refine zv_iadd X d_Model_lay_233 ?_
      refine zv_iald X (za_155 hN) d_Model_lay_234 (fun ha234 hb234 => ?_)
      refine zv_iastC X (za_155 hN) d_Model_lay_235 (fun ha235 hb235 D1 => ?_)
      refine zv_aload_n X d_Model_lay_236 rfl 0 rfl ?_
      refine zv_get X (ci := 7) rfl i_Model (za_144 hN) 12 (by decide) lk_Model_43 rfl rfl d_Model_lay_237 ?_
      refine zv_iload_n X d_Model_lay_240 rfl 1 rfl ?_
      refine zv_aload_n X d_Model_lay_241 rfl 0 rfl ?_
      refine zv_get X (ci := 7) rfl i_Model (za_144 hN) 12 (by decide) lk_Model_43 rfl rfl d_Model_lay_242 ?_
      refine zv_iconst X d_Model_lay_245 ?_
      refine zv_iload_n X d_Model_lay_246 rfl 1 rfl ?_
      refine zv_iadd X d_Model_lay_247 ?_
      refine zv_iald X (za_156 hN) d_Model_lay_248 (fun ha248 hb248 => ?_)
      refine zv_iastC X (za_156 hN) d_Model_lay_249 (fun ha249 hb249 D2 => ?_)
      refine zv_aload_n X d_Model_lay_250 rfl 0 rfl ?_
      refine zv_get X (ci := 7) rfl i_Model (za_144 hN) 13 (by decide) lk_Model_46 rfl rfl d_Model_lay_251 ?_
      refine zv_iload_n X d_Model_lay_254 rfl 1 rfl ?_
      refine zv_aload_n X d_Model_lay_255 rfl 0 rfl ?_
      refine zv_get X (ci := 7) rfl i_Model (za_144 hN) 13 (by decide) lk_Model_46 rfl rfl d_Model_lay_256 ?_
      refine zv_iconst X d_Model_lay_259 ?_
      refine zv_iload_n X d_Model_lay_260 rfl 1 rfl ?_
      refine zv_iadd X d_Model_lay_261 ?_
      refine zv_iald X (za_157 hN) d_Model_lay_262 (fun ha262 hb262 => ?_)
      refine zv_iastC X (za_157 hN) d_Model_lay_263 (fun ha263 hb263 D3 => ?_)
      refine zv_iinc X (lv2 := [(1, zi (v1 + 1)), (0, zr Z 144)]) d_Model_lay_264 1 rfl (by decide) rfl ?_
      refine zv_goto X (tgt := 217) d_Model_lay_267 (by decide) ?_
      refine zv_sub X [1, 0] rfl ?_
      exact ih (v1 + 1) D3
set_option maxRecDepth 100000 in
theorem v_Model_lay_181 {Γ : Gt} {Z : Zt} (X : Cx Γ Z prog_10_method_15_code R_Model 2 (some .int) rm_Model_lay) (hN : 166 ≤ Z.2.2.2.1)    : ∀ (n : Nat) (v1 : Int) (D : Mm), Zv Γ Z 2 (QfM Γ Z 1) (f_Model_lay_181 n v1 D) D 181 [(0, zr Z 144), (1, zi v1)] [] := by
  intro n
  induction n with
  | zero =>
    intro v1 D
    exact zv_none
  | succ n ih =>
    intro v1 D
    rw [f_Model_lay_181]
    refine zv_iload_n X d_Model_lay_181 rfl 1 rfl ?_
    refine zv_bipush X d_Model_lay_182 (by decide +kernel) ?_
    refine zv_icmp_ge X (tgt := 215) d_Model_lay_184 (by decide) (fun h184 => ?_) (fun h184 => ?_)
    · refine zv_iconst X d_Model_lay_215 ?_
      refine zv_istore_n X (lv2 := [(1, zi 0), (0, zr Z 144)]) d_Model_lay_216 rfl (by decide) rfl ?_
      refine zv_sub X [1, 0] rfl ?_
      exact v_Model_lay_217 X hN zF 0 D
    · refine zv_aload_n X d_Model_lay_187 rfl 0 rfl ?_
      refine zv_get X (ci := 7) rfl i_Model (za_144 hN) 9 (by decide) lk_Model_34 rfl rfl d_Model_lay_188 ?_
      refine zv_iload_n X d_Model_lay_191 rfl 1 rfl ?_
      refine zv_aload_n X d_Model_lay_192 rfl 0 rfl ?_
      refine zv_get X (ci := 7) rfl i_Model (za_144 hN) 9 (by decide) lk_Model_34 rfl rfl d_Model_lay_193 ?_
      refine zv_bipush X d_Model_lay_196 (by decide +kernel) ?_
      refine zv_iload_n X d_Model_lay_198 rfl 1 rfl ?_
      refine zv_iadd X d_Model_lay_199 ?_
      refine zv_iald X (za_153 hN) d_Model_lay_200 (fun ha200 hb200 => ?_)
      refine zv_iastC X (za_153 hN) d_Model_lay_201 (fun ha201 hb201 D1 => ?_)
      refine zv_aload_n X d_Model_lay_202 rfl 0 rfl ?_
      refine zv_get X (ci := 7) rfl i_Model (za_144 hN) 15 (by decide) lk_Model_52 rfl rfl d_Model_lay_203 ?_
      refine zv_iload_n X d_Model_lay_206 rfl 1 rfl ?_
      refine zv_iconst X d_Model_lay_207 ?_
      refine zv_iastC X (za_159 hN) d_Model_lay_208 (fun ha208 hb208 D2 => ?_)
      refine zv_iinc X (lv2 := [(1, zi (v1 + 1)), (0, zr Z 144)]) d_Model_lay_209 1 rfl (by decide) rfl ?_
      refine zv_goto X (tgt := 181) d_Model_lay_212 (by decide) ?_
      refine zv_sub X [1, 0] rfl ?_
      exact ih (v1 + 1) D2
set_option maxRecDepth 100000 in
theorem v_Model_lay_100 {Γ : Gt} {Z : Zt} (X : Cx Γ Z prog_10_method_15_code R_Model 2 (some .int) rm_Model_lay) (hN : 166 ≤ Z.2.2.2.1)    : ∀ (n : Nat) (v1 : Int) (D : Mm), Zv Γ Z 2 (QfM Γ Z 1) (f_Model_lay_100 n v1 D) D 100 [(0, zr Z 144), (1, zi v1)] [] := by
  intro n
  induction n with
  | zero =>
    intro v1 D
    exact zv_none
  | succ n ih =>
    intro v1 D
    rw [f_Model_lay_100]
    refine zv_iload_n X d_Model_lay_100 rfl 1 rfl ?_
    refine zv_bipush X d_Model_lay_101 (by decide +kernel) ?_
    refine zv_icmp_ge X (tgt := 179) d_Model_lay_103 (by decide) (fun h103 => ?_) (fun h103 => ?_)
    · refine zv_iconst X d_Model_lay_179 ?_
      refine zv_istore_n X (lv2 := [(1, zi 0), (0, zr Z 144)]) d_Model_lay_180 rfl (by decide) rfl ?_
      refine zv_sub X [1, 0] rfl ?_
      exact v_Model_lay_181 X hN zF 0 D
    · refine zv_aload_n X d_Model_lay_106 rfl 0 rfl ?_
      refine zv_get X (ci := 7) rfl i_Model (za_144 hN) 5 (by decide) lk_Model_22 rfl rfl d_Model_lay_107 ?_
      refine zv_iload_n X d_Model_lay_110 rfl 1 rfl ?_
      refine zv_aload_n X d_Model_lay_111 rfl 0 rfl ?_
      refine zv_get X (ci := 7) rfl i_Model (za_144 hN) 5 (by decide) lk_Model_22 rfl rfl d_Model_lay_112 ?_
      refine zv_bipush X d_Model_lay_115 (by decide +kernel) ?_
      refine zv_iload_n X d_Model_lay_117 rfl 1 rfl ?_
      refine zv_iadd X d_Model_lay_118 ?_
      refine zv_iald X (za_149 hN) d_Model_lay_119 (fun ha119 hb119 => ?_)
      refine zv_iastC X (za_149 hN) d_Model_lay_120 (fun ha120 hb120 D1 => ?_)
      refine zv_aload_n X d_Model_lay_121 rfl 0 rfl ?_
      refine zv_get X (ci := 7) rfl i_Model (za_144 hN) 6 (by decide) lk_Model_25 rfl rfl d_Model_lay_122 ?_
      refine zv_iload_n X d_Model_lay_125 rfl 1 rfl ?_
      refine zv_aload_n X d_Model_lay_126 rfl 0 rfl ?_
      refine zv_get X (ci := 7) rfl i_Model (za_144 hN) 6 (by decide) lk_Model_25 rfl rfl d_Model_lay_127 ?_
      refine zv_bipush X d_Model_lay_130 (by decide +kernel) ?_
      refine zv_iload_n X d_Model_lay_132 rfl 1 rfl ?_
      refine zv_iadd X d_Model_lay_133 ?_
      refine zv_iald X (za_150 hN) d_Model_lay_134 (fun ha134 hb134 => ?_)
      refine zv_iastC X (za_150 hN) d_Model_lay_135 (fun ha135 hb135 D2 => ?_)
      refine zv_aload_n X d_Model_lay_136 rfl 0 rfl ?_
      refine zv_get X (ci := 7) rfl i_Model (za_144 hN) 7 (by decide) lk_Model_28 rfl rfl d_Model_lay_137 ?_
      refine zv_iload_n X d_Model_lay_140 rfl 1 rfl ?_
      refine zv_aload_n X d_Model_lay_141 rfl 0 rfl ?_
      refine zv_get X (ci := 7) rfl i_Model (za_144 hN) 7 (by decide) lk_Model_28 rfl rfl d_Model_lay_142 ?_
      refine zv_bipush X d_Model_lay_145 (by decide +kernel) ?_
      refine zv_iload_n X d_Model_lay_147 rfl 1 rfl ?_
      refine zv_iadd X d_Model_lay_148 ?_
      refine zv_iald X (za_151 hN) d_Model_lay_149 (fun ha149 hb149 => ?_)
      refine zv_iastC X (za_151 hN) d_Model_lay_150 (fun ha150 hb150 D3 => ?_)
      refine zv_aload_n X d_Model_lay_151 rfl 0 rfl ?_
      refine zv_get X (ci := 7) rfl i_Model (za_144 hN) 8 (by decide) lk_Model_31 rfl rfl d_Model_lay_152 ?_
      refine zv_iload_n X d_Model_lay_155 rfl 1 rfl ?_
      refine zv_aload_n X d_Model_lay_156 rfl 0 rfl ?_
      refine zv_get X (ci := 7) rfl i_Model (za_144 hN) 8 (by decide) lk_Model_31 rfl rfl d_Model_lay_157 ?_
      refine zv_bipush X d_Model_lay_160 (by decide +kernel) ?_
      refine zv_iload_n X d_Model_lay_162 rfl 1 rfl ?_
      refine zv_iadd X d_Model_lay_163 ?_
      refine zv_iald X (za_152 hN) d_Model_lay_164 (fun ha164 hb164 => ?_)
      refine zv_iastC X (za_152 hN) d_Model_lay_165 (fun ha165 hb165 D4 => ?_)
      refine zv_aload_n X d_Model_lay_166 rfl 0 rfl ?_
      refine zv_get X (ci := 7) rfl i_Model (za_144 hN) 16 (by decide) lk_Model_55 rfl rfl d_Model_lay_167 ?_
      refine zv_iload_n X d_Model_lay_170 rfl 1 rfl ?_
      refine zv_iconst X d_Model_lay_171 ?_
      refine zv_iastC X (za_160 hN) d_Model_lay_172 (fun ha172 hb172 D5 => ?_)
      refine zv_iinc X (lv2 := [(1, zi (v1 + 1)), (0, zr Z 144)]) d_Model_lay_173 1 rfl (by decide) rfl ?_
      refine zv_goto X (tgt := 100) d_Model_lay_176 (by decide) ?_
      refine zv_sub X [1, 0] rfl ?_
      exact ih (v1 + 1) D5
set_option maxRecDepth 100000 in
theorem v_Model_lay_56 {Γ : Gt} {Z : Zt} (X : Cx Γ Z prog_10_method_15_code R_Model 2 (some .int) rm_Model_lay) (hN : 166 ≤ Z.2.2.2.1)    : ∀ (n : Nat) (v1 : Int) (D : Mm), Zv Γ Z 2 (QfM Γ Z 1) (f_Model_lay_56 n v1 D) D 56 [(0, zr Z 144), (1, zi v1)] [] := by
  intro n
  induction n with
  | zero =>
    intro v1 D
    exact zv_none
  | succ n ih =>
    intro v1 D
    rw [f_Model_lay_56]
    refine zv_iload_n X d_Model_lay_56 rfl 1 rfl ?_
    refine zv_bipush X d_Model_lay_57 (by decide +kernel) ?_
    refine zv_icmp_ge X (tgt := 98) d_Model_lay_59 (by decide) (fun h59 => ?_) (fun h59 => ?_)
    · refine zv_iconst X d_Model_lay_98 ?_
      refine zv_istore_n X (lv2 := [(1, zi 0), (0, zr Z 144)]) d_Model_lay_99 rfl (by decide) rfl ?_
      refine zv_sub X [1, 0] rfl ?_
      exact v_Model_lay_100 X hN zF 0 D
    · refine zv_aload_n X d_Model_lay_62 rfl 0 rfl ?_
      refine zv_get X (ci := 7) rfl i_Model (za_144 hN) 3 (by decide) lk_Model_16 rfl rfl d_Model_lay_63 ?_
      refine zv_iload_n X d_Model_lay_66 rfl 1 rfl ?_
      refine zv_aload_n X d_Model_lay_67 rfl 0 rfl ?_
      refine zv_get X (ci := 7) rfl i_Model (za_144 hN) 3 (by decide) lk_Model_16 rfl rfl d_Model_lay_68 ?_
      refine zv_bipush X d_Model_lay_71 (by decide +kernel) ?_
      refine zv_iload_n X d_Model_lay_73 rfl 1 rfl ?_
      refine zv_iadd X d_Model_lay_74 ?_
      refine zv_iald X (za_147 hN) d_Model_lay_75 (fun ha75 hb75 => ?_)
      refine zv_iastC X (za_147 hN) d_Model_lay_76 (fun ha76 hb76 D1 => ?_)
      refine zv_aload_n X d_Model_lay_77 rfl 0 rfl ?_
      refine zv_get X (ci := 7) rfl i_Model (za_144 hN) 10 (by decide) lk_Model_37 rfl rfl d_Model_lay_78 ?_
      refine zv_iload_n X d_Model_lay_81 rfl 1 rfl ?_
      refine zv_aload_n X d_Model_lay_82 rfl 0 rfl ?_
      refine zv_get X (ci := 7) rfl i_Model (za_144 hN) 10 (by decide) lk_Model_37 rfl rfl d_Model_lay_83 ?_
      refine zv_bipush X d_Model_lay_86 (by decide +kernel) ?_
      refine zv_iload_n X d_Model_lay_88 rfl 1 rfl ?_
      refine zv_iadd X d_Model_lay_89 ?_
      refine zv_iald X (za_154 hN) d_Model_lay_90 (fun ha90 hb90 => ?_)
      refine zv_iastC X (za_154 hN) d_Model_lay_91 (fun ha91 hb91 D2 => ?_)
      refine zv_iinc X (lv2 := [(1, zi (v1 + 1)), (0, zr Z 144)]) d_Model_lay_92 1 rfl (by decide) rfl ?_
      refine zv_goto X (tgt := 56) d_Model_lay_95 (by decide) ?_
      refine zv_sub X [1, 0] rfl ?_
      exact ih (v1 + 1) D2
set_option maxRecDepth 100000 in
theorem c_Model_lay (l : Launch) {Z : Zt} (hZ : Zok Z) (hN : 166 ≤ Z.2.2.2.1)  (D : Mm) : CtM l Z y_Model_lay prog_10_method_15_code 2 (some .int) rm_Model_lay 1 [zr Z 144] D (f_Model_lay D) := by
  refine zm_M (lv := [(0, zr Z 144)]) hZ (by decide +kernel) rfl (Nat.le_of_ble_eq_true rfl) rfl (fun Γ hl X => ?_)
  subst hl
  unfold f_Model_lay
  refine zv_aload_n X d_Model_lay_0 rfl 0 rfl ?_
  refine zv_cVM1 X (av := []) (st := []) (ci := 7) (c_Model_readAll Γ.2.1 X.2.2.2.2.2.2.2.1 hN D) mk_Model_124 rfl (za_144 hN) ⟨rfl, rfl, Nat.le_of_ble_eq_true rfl, Nat.le_of_ble_eq_true rfl⟩ rfl (Nat.le_of_ble_eq_true rfl) d_Model_lay_1 (fun r1 D2 hr1 => ?_)
  refine zv_bipush X d_Model_lay_4 (by decide +kernel) ?_
  refine zv_icmp_ne X (tgt := 27) d_Model_lay_6 (by decide) (fun h6 => ?_) (fun h6 => ?_)
  · refine zv_bipush X d_Model_lay_27 (by decide +kernel) ?_
    exact zv_iretM X d_Model_lay_29
  · refine zv_aload_n X d_Model_lay_9 rfl 0 rfl ?_
    refine zv_get X (ci := 7) rfl i_Model (za_144 hN) 2 (by decide) lk_Model_13 rfl rfl d_Model_lay_10 ?_
    refine zv_iconst X d_Model_lay_13 ?_
    refine zv_ialdK X (za_146 hN) (by decide) (by decide) d_Model_lay_14 ?_
    refine zv_if_eq X (y := 0) (tgt := 27) d_Model_lay_15 (by decide) (fun h15 => ?_) (fun h15 => ?_)
    · refine zv_bipush X d_Model_lay_27 (by decide +kernel) ?_
      exact zv_iretM X d_Model_lay_29
    · refine zv_aload_n X d_Model_lay_18 rfl 0 rfl ?_
      refine zv_get X (ci := 7) rfl i_Model (za_144 hN) 4 (by decide) lk_Model_19 rfl rfl d_Model_lay_19 ?_
      refine zv_iconst X d_Model_lay_22 ?_
      refine zv_ialdK X (za_148 hN) (by decide) (by decide) d_Model_lay_23 ?_
      refine zv_if_ne X (y := 0) (tgt := 30) d_Model_lay_24 (by decide) (fun h24 => ?_) (fun h24 => ?_)
      · refine zv_aload_n X d_Model_lay_30 rfl 0 rfl ?_
        refine zv_get X (ci := 7) rfl i_Model (za_144 hN) 2 (by decide) lk_Model_13 rfl rfl d_Model_lay_31 ?_
        refine zv_iconst X d_Model_lay_34 ?_
        refine zv_aload_n X d_Model_lay_35 rfl 0 rfl ?_
        refine zv_get X (ci := 7) rfl i_Model (za_144 hN) 2 (by decide) lk_Model_13 rfl rfl d_Model_lay_36 ?_
        refine zv_iconst X d_Model_lay_39 ?_
        refine zv_ialdK X (za_146 hN) (by decide) (by decide) d_Model_lay_40 ?_
        refine zv_iastK X (za_146 hN) (by decide) (by decide) d_Model_lay_41 (fun D3 => ?_)
        refine zv_aload_n X d_Model_lay_42 rfl 0 rfl ?_
        refine zv_get X (ci := 7) rfl i_Model (za_144 hN) 4 (by decide) lk_Model_19 rfl rfl d_Model_lay_43 ?_
        refine zv_iconst X d_Model_lay_46 ?_
        refine zv_aload_n X d_Model_lay_47 rfl 0 rfl ?_
        refine zv_get X (ci := 7) rfl i_Model (za_144 hN) 4 (by decide) lk_Model_19 rfl rfl d_Model_lay_48 ?_
        refine zv_iconst X d_Model_lay_51 ?_
        refine zv_ialdK X (za_148 hN) (by decide) (by decide) d_Model_lay_52 ?_
        refine zv_iastK X (za_148 hN) (by decide) (by decide) d_Model_lay_53 (fun D4 => ?_)
        refine zv_iconst X d_Model_lay_54 ?_
        refine zv_istore_n X (lv2 := [(1, zi 0), (0, zr Z 144)]) d_Model_lay_55 rfl (by decide) rfl ?_
        refine zv_sub X [1, 0] rfl ?_
        exact v_Model_lay_56 X hN zF 0 D4
      · refine zv_bipush X d_Model_lay_27 (by decide +kernel) ?_
        exact zv_iretM X d_Model_lay_29

set_option maxRecDepth 100000 in
theorem v_Model_copy_74 {Γ : Gt} {Z : Zt} (X : Cx Γ Z prog_10_method_61_code R_Model 4 none rm_Model_copy) (hN : 166 ≤ Z.2.2.2.1) (v1 v2 : Int)    : ∀ (n : Nat) (v3 : Int) (D : Mm), Zv Γ Z 4 (QfM Γ Z 0) (f_Model_copy_74 v1 v2 n v3 D) D 74 [(0, zr Z 144), (1, zi v1), (2, zi v2), (3, zi v3)] [] := by
  intro n
  induction n with
  | zero =>
    intro v3 D
    exact zv_none
  | succ n ih =>
    intro v3 D
    rw [f_Model_copy_74]
    refine zv_iload_n X d_Model_copy_74 rfl 3 rfl ?_
    refine zv_bipush X d_Model_copy_75 (by decide +kernel) ?_
    refine zv_icmp_ge X (tgt := 108) d_Model_copy_77 (by decide) (fun h77 => ?_) (fun h77 => ?_)
    · refine zv_aload_n X d_Model_copy_108 rfl 0 rfl ?_
      refine zv_get X (ci := 7) rfl i_Model (za_144 hN) 18 (by decide) lk_Model_61 rfl rfl d_Model_copy_109 ?_
      refine zv_iload_n X d_Model_copy_112 rfl 2 rfl ?_
      refine zv_aload_n X d_Model_copy_113 rfl 0 rfl ?_
      refine zv_get X (ci := 7) rfl i_Model (za_144 hN) 18 (by decide) lk_Model_61 rfl rfl d_Model_copy_114 ?_
      refine zv_iload_n X d_Model_copy_117 rfl 1 rfl ?_
      refine zv_iald X (za_162 hN) d_Model_copy_118 (fun ha118 hb118 => ?_)
      refine zv_iastC X (za_162 hN) d_Model_copy_119 (fun ha119 hb119 D1 => ?_)
      exact zv_vretM X d_Model_copy_120
    · refine zv_aload_n X d_Model_copy_80 rfl 0 rfl ?_
      refine zv_get X (ci := 7) rfl i_Model (za_144 hN) 17 (by decide) lk_Model_58 rfl rfl d_Model_copy_81 ?_
      refine zv_bipush X d_Model_copy_84 (by decide +kernel) ?_
      refine zv_iload_n X d_Model_copy_86 rfl 2 rfl ?_
      refine zv_imul X d_Model_copy_87 ?_
      refine zv_iload_n X d_Model_copy_88 rfl 3 rfl ?_
      refine zv_iadd X d_Model_copy_89 ?_
      refine zv_aload_n X d_Model_copy_90 rfl 0 rfl ?_
      refine zv_get X (ci := 7) rfl i_Model (za_144 hN) 17 (by decide) lk_Model_58 rfl rfl d_Model_copy_91 ?_
      refine zv_bipush X d_Model_copy_94 (by decide +kernel) ?_
      refine zv_iload_n X d_Model_copy_96 rfl 1 rfl ?_
      refine zv_imul X d_Model_copy_97 ?_
      refine zv_iload_n X d_Model_copy_98 rfl 3 rfl ?_
      refine zv_iadd X d_Model_copy_99 ?_
      refine zv_iald X (za_161 hN) d_Model_copy_100 (fun ha100 hb100 => ?_)
      refine zv_iastC X (za_161 hN) d_Model_copy_101 (fun ha101 hb101 D2 => ?_)
      refine zv_iinc X (lv2 := [(3, zi (v3 + 1)), (0, zr Z 144), (1, zi v1), (2, zi v2)]) d_Model_copy_102 3 rfl (by decide) rfl ?_
      refine zv_goto X (tgt := 74) d_Model_copy_105 (by decide) ?_
      refine zv_sub X [1, 2, 3, 0] rfl ?_
      exact ih (v3 + 1) D2
set_option maxRecDepth 100000 in
theorem v_Model_copy_38 {Γ : Gt} {Z : Zt} (X : Cx Γ Z prog_10_method_61_code R_Model 4 none rm_Model_copy) (hN : 166 ≤ Z.2.2.2.1) (v1 v2 : Int)    : ∀ (n : Nat) (v3 : Int) (D : Mm), Zv Γ Z 4 (QfM Γ Z 0) (f_Model_copy_38 v1 v2 n v3 D) D 38 [(0, zr Z 144), (1, zi v1), (2, zi v2), (3, zi v3)] [] := by
  intro n
  induction n with
  | zero =>
    intro v3 D
    exact zv_none
  | succ n ih =>
    intro v3 D
    rw [f_Model_copy_38]
    refine zv_iload_n X d_Model_copy_38 rfl 3 rfl ?_
    refine zv_bipush X d_Model_copy_39 (by decide +kernel) ?_
    refine zv_icmp_ge X (tgt := 72) d_Model_copy_41 (by decide) (fun h41 => ?_) (fun h41 => ?_)
    · refine zv_iconst X d_Model_copy_72 ?_
      refine zv_istore_n X (lv2 := [(3, zi 0), (0, zr Z 144), (1, zi v1), (2, zi v2)]) d_Model_copy_73 rfl (by decide) rfl ?_
      refine zv_sub X [1, 2, 3, 0] rfl ?_
      exact v_Model_copy_74 X hN v1 v2 zF 0 D
    · refine zv_aload_n X d_Model_copy_44 rfl 0 rfl ?_
      refine zv_get X (ci := 7) rfl i_Model (za_144 hN) 16 (by decide) lk_Model_55 rfl rfl d_Model_copy_45 ?_
      refine zv_bipush X d_Model_copy_48 (by decide +kernel) ?_
      refine zv_iload_n X d_Model_copy_50 rfl 2 rfl ?_
      refine zv_imul X d_Model_copy_51 ?_
      refine zv_iload_n X d_Model_copy_52 rfl 3 rfl ?_
      refine zv_iadd X d_Model_copy_53 ?_
      refine zv_aload_n X d_Model_copy_54 rfl 0 rfl ?_
      refine zv_get X (ci := 7) rfl i_Model (za_144 hN) 16 (by decide) lk_Model_55 rfl rfl d_Model_copy_55 ?_
      refine zv_bipush X d_Model_copy_58 (by decide +kernel) ?_
      refine zv_iload_n X d_Model_copy_60 rfl 1 rfl ?_
      refine zv_imul X d_Model_copy_61 ?_
      refine zv_iload_n X d_Model_copy_62 rfl 3 rfl ?_
      refine zv_iadd X d_Model_copy_63 ?_
      refine zv_iald X (za_160 hN) d_Model_copy_64 (fun ha64 hb64 => ?_)
      refine zv_iastC X (za_160 hN) d_Model_copy_65 (fun ha65 hb65 D1 => ?_)
      refine zv_iinc X (lv2 := [(3, zi (v3 + 1)), (0, zr Z 144), (1, zi v1), (2, zi v2)]) d_Model_copy_66 3 rfl (by decide) rfl ?_
      refine zv_goto X (tgt := 38) d_Model_copy_69 (by decide) ?_
      refine zv_sub X [1, 2, 3, 0] rfl ?_
      exact ih (v3 + 1) D1
set_option maxRecDepth 100000 in
theorem v_Model_copy_2 {Γ : Gt} {Z : Zt} (X : Cx Γ Z prog_10_method_61_code R_Model 4 none rm_Model_copy) (hN : 166 ≤ Z.2.2.2.1) (v1 v2 : Int)    : ∀ (n : Nat) (v3 : Int) (D : Mm), Zv Γ Z 4 (QfM Γ Z 0) (f_Model_copy_2 v1 v2 n v3 D) D 2 [(0, zr Z 144), (1, zi v1), (2, zi v2), (3, zi v3)] [] := by
  intro n
  induction n with
  | zero =>
    intro v3 D
    exact zv_none
  | succ n ih =>
    intro v3 D
    rw [f_Model_copy_2]
    refine zv_iload_n X d_Model_copy_2 rfl 3 rfl ?_
    refine zv_bipush X d_Model_copy_3 (by decide +kernel) ?_
    refine zv_icmp_ge X (tgt := 36) d_Model_copy_5 (by decide) (fun h5 => ?_) (fun h5 => ?_)
    · refine zv_iconst X d_Model_copy_36 ?_
      refine zv_istore_n X (lv2 := [(3, zi 0), (0, zr Z 144), (1, zi v1), (2, zi v2)]) d_Model_copy_37 rfl (by decide) rfl ?_
      refine zv_sub X [1, 2, 3, 0] rfl ?_
      exact v_Model_copy_38 X hN v1 v2 zF 0 D
    · refine zv_aload_n X d_Model_copy_8 rfl 0 rfl ?_
      refine zv_get X (ci := 7) rfl i_Model (za_144 hN) 15 (by decide) lk_Model_52 rfl rfl d_Model_copy_9 ?_
      refine zv_bipush X d_Model_copy_12 (by decide +kernel) ?_
      refine zv_iload_n X d_Model_copy_14 rfl 2 rfl ?_
      refine zv_imul X d_Model_copy_15 ?_
      refine zv_iload_n X d_Model_copy_16 rfl 3 rfl ?_
      refine zv_iadd X d_Model_copy_17 ?_
      refine zv_aload_n X d_Model_copy_18 rfl 0 rfl ?_
      refine zv_get X (ci := 7) rfl i_Model (za_144 hN) 15 (by decide) lk_Model_52 rfl rfl d_Model_copy_19 ?_
      refine zv_bipush X d_Model_copy_22 (by decide +kernel) ?_
      refine zv_iload_n X d_Model_copy_24 rfl 1 rfl ?_
      refine zv_imul X d_Model_copy_25 ?_
      refine zv_iload_n X d_Model_copy_26 rfl 3 rfl ?_
      refine zv_iadd X d_Model_copy_27 ?_
      refine zv_iald X (za_159 hN) d_Model_copy_28 (fun ha28 hb28 => ?_)
      refine zv_iastC X (za_159 hN) d_Model_copy_29 (fun ha29 hb29 D1 => ?_)
      refine zv_iinc X (lv2 := [(3, zi (v3 + 1)), (0, zr Z 144), (1, zi v1), (2, zi v2)]) d_Model_copy_30 3 rfl (by decide) rfl ?_
      refine zv_goto X (tgt := 2) d_Model_copy_33 (by decide) ?_
      refine zv_sub X [1, 2, 3, 0] rfl ?_
      exact ih (v3 + 1) D1
set_option maxRecDepth 100000 in
theorem c_Model_copy (l : Launch) {Z : Zt} (hZ : Zok Z) (hN : 166 ≤ Z.2.2.2.1) (v1 v2 : Int)  (D : Mm) : CtM l Z y_Model_copy prog_10_method_61_code 4 none rm_Model_copy 0 [zr Z 144, zi v1, zi v2] D (f_Model_copy v1 v2 D) := by
  refine zm_M (lv := [(0, zr Z 144), (1, zi v1), (2, zi v2)]) hZ (by decide +kernel) rfl (Nat.le_of_ble_eq_true rfl) rfl (fun Γ hl X => ?_)
  subst hl
  unfold f_Model_copy
  refine zv_iconst X d_Model_copy_0 ?_
  refine zv_istore_n X (lv2 := [(3, zi 0), (0, zr Z 144), (1, zi v1), (2, zi v2)]) d_Model_copy_1 rfl (by decide) rfl ?_
  refine zv_sub X [1, 2, 3, 0] rfl ?_
  exact v_Model_copy_2 X hN v1 v2 zF 0 D
set_option maxRecDepth 100000 in
theorem c_Model_keep (l : Launch) {Z : Zt} (hZ : Zok Z) (hN : 166 ≤ Z.2.2.2.1)  (D : Mm) : CtM l Z y_Model_keep prog_10_method_62_code 1 (some .int) rm_Model_keep 1 [zr Z 144] D (f_Model_keep D) := by
  refine zm_M (lv := [(0, zr Z 144)]) hZ (by decide +kernel) rfl (Nat.le_of_ble_eq_true rfl) rfl (fun Γ hl X => ?_)
  subst hl
  unfold f_Model_keep
  refine zv_aload_n X d_Model_keep_0 rfl 0 rfl ?_
  refine zv_get X (ci := 7) rfl i_Model (za_144 hN) 19 (by decide) lk_Model_128 rfl rfl d_Model_keep_1 ?_
  refine zv_iconst X d_Model_keep_4 ?_
  refine zv_icmp_ne X (tgt := 11) d_Model_keep_5 (by decide) (fun h5 => ?_) (fun h5 => ?_)
  · refine zv_aload_n X d_Model_keep_11 rfl 0 rfl ?_
    refine zv_dup X d_Model_keep_12 rfl ?_
    refine zv_get X (ci := 7) rfl i_Model (za_144 hN) 19 (by decide) lk_Model_128 rfl rfl d_Model_keep_13 ?_
    refine zv_iconst X d_Model_keep_16 ?_
    refine zv_iadd X d_Model_keep_17 ?_
    refine zv_putC X (ci := 7) rfl i_Model t_Model t_Model_ok n_Model (za_144 hN) 19 rfl (by decide) lk_Model_128 rfl rfl (ps_7_19 ..) (Nat.le_of_ble_eq_true rfl) rfl rfl d_Model_keep_18 (fun D1 => ?_)
    refine zv_aload_n X d_Model_keep_21 rfl 0 rfl ?_
    refine zv_iconst X d_Model_keep_22 ?_
    refine zv_aload_n X d_Model_keep_23 rfl 0 rfl ?_
    refine zv_get X (ci := 7) rfl i_Model (za_144 hN) 19 (by decide) lk_Model_128 rfl rfl d_Model_keep_24 ?_
    refine zv_cVM0 X (av := [zi 0, zi (D1 144 19)]) (st := []) (ci := 7) (c_Model_copy Γ.2.1 X.2.2.2.2.2.2.2.1 hN 0 (D1 144 19) D1) mk_Model_242 rfl (za_144 hN) ⟨rfl, rfl, Nat.le_of_ble_eq_true rfl, Nat.le_of_ble_eq_true rfl⟩ rfl (Nat.le_of_ble_eq_true rfl) d_Model_keep_27 (fun _ D3 hr2 => ?_)
    refine zv_aload_n X d_Model_keep_30 rfl 0 rfl ?_
    refine zv_get X (ci := 7) rfl i_Model (za_144 hN) 19 (by decide) lk_Model_128 rfl rfl d_Model_keep_31 ?_
    exact zv_iretM X d_Model_keep_34
  · refine zv_bipush X d_Model_keep_8 (by decide +kernel) ?_
    exact zv_iretM X d_Model_keep_10
set_option maxRecDepth 100000 in
theorem c_Model_back (l : Launch) {Z : Zt} (hZ : Zok Z) (hN : 166 ≤ Z.2.2.2.1)  (D : Mm) : CtM l Z y_Model_back prog_10_method_63_code 1 (some .int) rm_Model_back 1 [zr Z 144] D (f_Model_back D) := by
  refine zm_M (lv := [(0, zr Z 144)]) hZ (by decide +kernel) rfl (Nat.le_of_ble_eq_true rfl) rfl (fun Γ hl X => ?_)
  subst hl
  unfold f_Model_back
  refine zv_aload_n X d_Model_back_0 rfl 0 rfl ?_
  refine zv_get X (ci := 7) rfl i_Model (za_144 hN) 19 (by decide) lk_Model_128 rfl rfl d_Model_back_1 ?_
  refine zv_if_ne X (y := 0) (tgt := 10) d_Model_back_4 (by decide) (fun h4 => ?_) (fun h4 => ?_)
  · refine zv_aload_n X d_Model_back_10 rfl 0 rfl ?_
    refine zv_aload_n X d_Model_back_11 rfl 0 rfl ?_
    refine zv_get X (ci := 7) rfl i_Model (za_144 hN) 19 (by decide) lk_Model_128 rfl rfl d_Model_back_12 ?_
    refine zv_iconst X d_Model_back_15 ?_
    refine zv_cVM0 X (av := [zi (D 144 19), zi 0]) (st := []) (ci := 7) (c_Model_copy Γ.2.1 X.2.2.2.2.2.2.2.1 hN (D 144 19) 0 D) mk_Model_242 rfl (za_144 hN) ⟨rfl, rfl, Nat.le_of_ble_eq_true rfl, Nat.le_of_ble_eq_true rfl⟩ rfl (Nat.le_of_ble_eq_true rfl) d_Model_back_16 (fun _ D2 hr1 => ?_)
    refine zv_aload_n X d_Model_back_19 rfl 0 rfl ?_
    refine zv_dup X d_Model_back_20 rfl ?_
    refine zv_get X (ci := 7) rfl i_Model (za_144 hN) 19 (by decide) lk_Model_128 rfl rfl d_Model_back_21 ?_
    refine zv_iconst X d_Model_back_24 ?_
    refine zv_isub X d_Model_back_25 ?_
    refine zv_putC X (ci := 7) rfl i_Model t_Model t_Model_ok n_Model (za_144 hN) 19 rfl (by decide) lk_Model_128 rfl rfl (ps_7_19 ..) (Nat.le_of_ble_eq_true rfl) rfl rfl d_Model_back_26 (fun D3 => ?_)
    refine zv_aload_n X d_Model_back_29 rfl 0 rfl ?_
    refine zv_get X (ci := 7) rfl i_Model (za_144 hN) 19 (by decide) lk_Model_128 rfl rfl d_Model_back_30 ?_
    exact zv_iretM X d_Model_back_33
  · refine zv_bipush X d_Model_back_7 (by decide +kernel) ?_
    exact zv_iretM X d_Model_back_9
set_option maxRecDepth 100000 in
theorem v_Model_size_71 {Γ : Gt} {Z : Zt} (X : Cx Γ Z prog_10_method_64_code R_Model 4 (some .int) rm_Model_size) (hN : 166 ≤ Z.2.2.2.1)   (D : Mm)  : ∀ (n : Nat) (v2 v3 : Int) , Zv Γ Z 4 (QfP Γ Z 1 D) (f_Model_size_71 D n v2 v3) D 71 [(0, zr Z 144), (2, zi v2), (3, zi v3)] [] := by
  intro n
  induction n with
  | zero =>
    intro v2 v3
    exact zv_none
  | succ n ih =>
    intro v2 v3
    rw [f_Model_size_71]
    refine zv_iload_n X d_Model_size_71 rfl 2 rfl ?_
    refine zv_aload_n X d_Model_size_72 rfl 0 rfl ?_
    refine zv_get X (ci := 7) rfl i_Model (za_144 hN) 4 (by decide) lk_Model_19 rfl rfl d_Model_size_73 ?_
    refine zv_iconst X d_Model_size_76 ?_
    refine zv_ialdK X (za_148 hN) (by decide) (by decide) d_Model_size_77 ?_
    refine zv_icmp_ge X (tgt := 96) d_Model_size_78 (by decide) (fun h78 => ?_) (fun h78 => ?_)
    · refine zv_iload_n X d_Model_size_96 rfl 1 rfl ?_
      exact zv_iretP X d_Model_size_97
    · refine zv_iload_n X d_Model_size_81 rfl 1 rfl ?_
      refine zv_aload_n X d_Model_size_82 rfl 0 rfl ?_
      refine zv_get X (ci := 7) rfl i_Model (za_144 hN) 16 (by decide) lk_Model_55 rfl rfl d_Model_size_83 ?_
      refine zv_iload_n X d_Model_size_86 rfl 2 rfl ?_
      refine zv_iald X (za_160 hN) d_Model_size_87 (fun ha87 hb87 => ?_)
      refine zv_iadd X d_Model_size_88 ?_
      refine zv_istore_n X (lv2 := [(2, zi (v2 + (D 160 v3))), (0, zr Z 144), (3, zi v3)]) d_Model_size_89 rfl (by decide) rfl ?_
      refine zv_iinc X (lv2 := [(3, zi (v3 + 1)), (2, zi (v2 + (D 160 v3))), (0, zr Z 144)]) d_Model_size_90 2 rfl (by decide) rfl ?_
      refine zv_goto X (tgt := 71) d_Model_size_93 (by decide) ?_
      refine zv_sub X [2, 1, 0] rfl ?_
      exact ih (v2 + (D 160 v3)) (v3 + 1)
set_option maxRecDepth 100000 in
theorem c_Model_size (l : Launch) {Z : Zt} (hZ : Zok Z) (hN : 166 ≤ Z.2.2.2.1) (v1 : Int)  (D : Mm) : CtP l Z y_Model_size prog_10_method_64_code 4 (some .int) rm_Model_size 1 [zr Z 144, zi v1] D (f_Model_size v1 D) := by
  refine zm_P (lv := [(0, zr Z 144), (1, zi v1)]) hZ (by decide +kernel) rfl (Nat.le_of_ble_eq_true rfl) rfl (fun Γ hl X => ?_)
  subst hl
  unfold f_Model_size
  refine zv_iconst X d_Model_size_0 ?_
  refine zv_istore_n X (lv2 := [(2, zi 0), (0, zr Z 144), (1, zi v1)]) d_Model_size_1 rfl (by decide) rfl ?_
  refine zv_iload_n X d_Model_size_2 rfl 2 rfl ?_
  refine zv_split (fun h3_0 => ?_) (fun h3_0 => ?_)
  · refine zv_tin X (tgt := 40) (off := 37) d_Model_size_3 h3_0 (by decide +kernel) (by decide) ?_
    refine zv_aload_n X d_Model_size_40 rfl 1 rfl ?_
    refine zv_get X (ci := 7) rfl i_Model (za_144 hN) 2 (by decide) lk_Model_13 rfl rfl d_Model_size_41 ?_
    refine zv_iconst X d_Model_size_44 ?_
    refine zv_ialdK X (za_146 hN) (by decide) (by decide) d_Model_size_45 ?_
    exact zv_iretP X d_Model_size_46
  refine zv_split (fun h3_1 => ?_) (fun h3_1 => ?_)
  · refine zv_tin X (tgt := 47) (off := 44) d_Model_size_3 h3_1 (by decide +kernel) (by decide) ?_
    refine zv_aload_n X d_Model_size_47 rfl 1 rfl ?_
    refine zv_get X (ci := 7) rfl i_Model (za_144 hN) 4 (by decide) lk_Model_19 rfl rfl d_Model_size_48 ?_
    refine zv_iconst X d_Model_size_51 ?_
    refine zv_ialdK X (za_148 hN) (by decide) (by decide) d_Model_size_52 ?_
    exact zv_iretP X d_Model_size_53
  refine zv_split (fun h3_2 => ?_) (fun h3_2 => ?_)
  · refine zv_tin X (tgt := 54) (off := 51) d_Model_size_3 h3_2 (by decide +kernel) (by decide) ?_
    refine zv_aload_n X d_Model_size_54 rfl 1 rfl ?_
    refine zv_get X (ci := 7) rfl i_Model (za_144 hN) 0 (by decide) lk_Model_86 rfl rfl d_Model_size_55 ?_
    exact zv_iretP X d_Model_size_58
  refine zv_split (fun h3_3 => ?_) (fun h3_3 => ?_)
  · refine zv_tin X (tgt := 59) (off := 56) d_Model_size_3 h3_3 (by decide +kernel) (by decide) ?_
    refine zv_aload_n X d_Model_size_59 rfl 1 rfl ?_
    refine zv_cVP1 X (av := []) (st := []) (ci := 7) (c_Model_blindAll Γ.2.1 X.2.2.2.2.2.2.2.1 hN D) mk_Model_230 rfl (za_144 hN) ⟨rfl, rfl, Nat.le_of_ble_eq_true rfl, Nat.le_of_ble_eq_true rfl⟩ rfl (Nat.le_of_ble_eq_true rfl) d_Model_size_60 (fun r1 hr1 => ?_)
    exact zv_iretP X d_Model_size_63
  refine zv_split (fun h3_4 => ?_) (fun h3_4 => ?_)
  · refine zv_tin X (tgt := 64) (off := 61) d_Model_size_3 h3_4 (by decide +kernel) (by decide) ?_
    refine zv_aload_n X d_Model_size_64 rfl 1 rfl ?_
    refine zv_get X (ci := 7) rfl i_Model (za_144 hN) 19 (by decide) lk_Model_128 rfl rfl d_Model_size_65 ?_
    exact zv_iretP X d_Model_size_68
  refine zv_split (fun h3_5 => ?_) (fun h3_5 => ?_)
  · refine zv_tin X (tgt := 69) (off := 66) d_Model_size_3 h3_5 (by decide +kernel) (by decide) ?_
    refine zv_iconst X d_Model_size_69 ?_
    refine zv_istore_n X (lv2 := [(3, zi 0), (2, zi 0), (0, zr Z 144), (1, zi v1)]) d_Model_size_70 rfl (by decide) rfl ?_
    refine zv_sub X [2, 1, 0] rfl ?_
    exact v_Model_size_71 X hN D zF 0 0
  refine zv_tdef X (tgt := 98) d_Model_size_3 (zt_def (cs := [0, 1, 2, 3, 4, 5]) (by decide +kernel) (by decide) (List.forall_mem_cons.mpr ⟨zI_nek h3_0 (by decide +kernel), List.forall_mem_cons.mpr ⟨zI_nek h3_1 (by decide +kernel), List.forall_mem_cons.mpr ⟨zI_nek h3_2 (by decide +kernel), List.forall_mem_cons.mpr ⟨zI_nek h3_3 (by decide +kernel), List.forall_mem_cons.mpr ⟨zI_nek h3_4 (by decide +kernel), List.forall_mem_cons.mpr ⟨zI_nek h3_5 (by decide +kernel), List.forall_mem_nil _⟩⟩⟩⟩⟩⟩)) (by decide) ?_
  refine zv_iconst X d_Model_size_98 ?_
  exact zv_iretP X d_Model_size_99
set_option maxRecDepth 100000 in
theorem c_Quern_beAsAtFirst (l : Launch) {Z : Zt} (hZ : Zok Z) (hN : 143 ≤ Z.2.2.2.1) (v0 : Int) (hv0 : isQ v0) (D : Mm) : CtM l Z y_Quern_beAsAtFirst prog_6_method_3_code 1 none rm_Quern_beAsAtFirst 0 [zr Z v0] D (f_Quern_beAsAtFirst v0 D) := by
  refine zm_M (lv := [(0, zr Z v0)]) hZ (by decide +kernel) rfl (Nat.le_of_ble_eq_true rfl) rfl (fun Γ hl X => ?_)
  subst hl
  unfold f_Quern_beAsAtFirst
  refine zv_aload_n X d_Quern_beAsAtFirst_0 rfl 0 rfl ?_
  refine zv_get X (ci := 5) rfl i_Quern (zq_0 hN hv0) 2 (by decide) lk_Quern_11 rfl rfl d_Quern_beAsAtFirst_1 ?_
  refine zv_iconst X d_Quern_beAsAtFirst_4 ?_
  refine zv_aaldK X (v0 + 2 + 0) (zq_1 hN hv0) (by decide) (by decide) d_Quern_beAsAtFirst_5 (by omega) ?_
  refine zv_iconst X d_Quern_beAsAtFirst_6 ?_
  refine zv_bipush X d_Quern_beAsAtFirst_7 (by decide +kernel) ?_
  refine zv_iastK X (zq_1r hN hv0 (by decide) (by decide)) (by decide) (by decide) d_Quern_beAsAtFirst_9 (fun D1 => ?_)
  refine zv_aload_n X d_Quern_beAsAtFirst_10 rfl 0 rfl ?_
  refine zv_iconst X d_Quern_beAsAtFirst_11 ?_
  refine zv_putC X (ci := 5) rfl i_Quern t_Quern t_Quern_ok n_Quern (zq_0 hN hv0) 0 rfl (by decide) lk_Quern_44 rfl rfl (ps_5_0 ..) (Nat.le_of_ble_eq_true rfl) rfl rfl d_Quern_beAsAtFirst_12 (fun D2 => ?_)
  refine zv_aload_n X d_Quern_beAsAtFirst_15 rfl 0 rfl ?_
  refine zv_get X (ci := 5) rfl i_Quern (zq_0 hN hv0) 5 (by decide) lk_Quern_23 rfl rfl d_Quern_beAsAtFirst_16 ?_
  refine zv_iconst X d_Quern_beAsAtFirst_19 ?_
  refine zv_iconst X d_Quern_beAsAtFirst_20 ?_
  refine zv_iastK X (zq_10 hN hv0) (by decide) (by decide) d_Quern_beAsAtFirst_21 (fun D3 => ?_)
  refine zv_aload_n X d_Quern_beAsAtFirst_22 rfl 0 rfl ?_
  refine zv_iconst X d_Quern_beAsAtFirst_23 ?_
  refine zv_putC X (ci := 5) rfl i_Quern t_Quern t_Quern_ok n_Quern (zq_0 hN hv0) 1 rfl (by decide) lk_Quern_48 rfl rfl (ps_5_1 ..) (Nat.le_of_ble_eq_true rfl) rfl rfl d_Quern_beAsAtFirst_24 (fun D4 => ?_)
  exact zv_vretM X d_Quern_beAsAtFirst_27

set_option maxRecDepth 100000 in
theorem v_Model_cooked_162 {Γ : Gt} {Z : Zt} (X : Cx Γ Z prog_10_method_40_code R_Model 8 (some .int) rm_Model_cooked) (hN : 166 ≤ Z.2.2.2.1) (v6 s0 : Int)  (K70 : Int → Int → Option (Int × Mm)) (D : Mm) (hK70 : ∀ (v5 v6 : Int), Zv Γ Z 8 (QfM Γ Z 1) (K70 v5 v6) D 121 [(0, zr Z 144), (5, zi v5), (6, zi v6)] []) : Zv Γ Z 8 (QfM Γ Z 1) (f_Model_cooked_162 v6 s0 K70 D) D 162 [(0, zr Z 144), (6, zi v6)] [zi s0] := by
  unfold f_Model_cooked_162
  refine zv_istore X (lv2 := [(5, zi s0), (0, zr Z 144), (6, zi v6)]) d_Model_cooked_162 (by decide) rfl ?_
  refine zv_iinc X (lv2 := [(6, zi (v6 + 1)), (5, zi s0), (0, zr Z 144)]) d_Model_cooked_164 2 rfl (by decide) rfl ?_
  refine zv_goto X (tgt := 121) d_Model_cooked_167 (by decide) ?_
  refine zv_sub X [2, 1, 0] rfl ?_
  exact hK70 s0 (v6 + 1)
set_option maxRecDepth 100000 in
theorem v_Model_cooked_121 {Γ : Gt} {Z : Zt} (X : Cx Γ Z prog_10_method_40_code R_Model 8 (some .int) rm_Model_cooked) (hN : 166 ≤ Z.2.2.2.1)   (D : Mm)  : ∀ (n : Nat) (v5 v6 : Int) , Zv Γ Z 8 (QfM Γ Z 1) (f_Model_cooked_121 D n v5 v6) D 121 [(0, zr Z 144), (5, zi v5), (6, zi v6)] [] := by
  intro n
  induction n with
  | zero =>
    intro v5 v6
    exact zv_none
  | succ n ih =>
    intro v5 v6
    rw [f_Model_cooked_121]
    refine zv_iload X d_Model_cooked_121 2 rfl ?_
    refine zv_aload_n X d_Model_cooked_123 rfl 0 rfl ?_
    refine zv_get X (ci := 7) rfl i_Model (za_144 hN) 2 (by decide) lk_Model_13 rfl rfl d_Model_cooked_124 ?_
    refine zv_iconst X d_Model_cooked_127 ?_
    refine zv_ialdK X (za_146 hN) (by decide) (by decide) d_Model_cooked_128 ?_
    refine zv_icmp_ge X (tgt := 170) d_Model_cooked_129 (by decide) (fun h129 => ?_) (fun h129 => ?_)
    · refine zv_iload X d_Model_cooked_170 1 rfl ?_
      exact zv_iretM X d_Model_cooked_172
    · refine zv_aload_n X d_Model_cooked_132 rfl 0 rfl ?_
      refine zv_iload X d_Model_cooked_133 2 rfl ?_
      refine zv_aload_n X d_Model_cooked_135 rfl 0 rfl ?_
      refine zv_get X (ci := 7) rfl i_Model (za_144 hN) 24 (by decide) lk_Model_73 rfl rfl d_Model_cooked_136 ?_
      refine zv_cVP1 X (av := [zi v6, zr Z 166]) (st := []) (ci := 7) (c_Model_apart Γ.2.1 X.2.2.2.2.2.2.2.1 hN v6 166 (za_166 hN) D) mk_Model_200 rfl (za_144 hN) ⟨rfl, rfl, Nat.le_of_ble_eq_true rfl, Nat.le_of_ble_eq_true rfl⟩ rfl (Nat.le_of_ble_eq_true rfl) d_Model_cooked_139 (fun r1 hr1 => ?_)
      refine zv_aload_n X d_Model_cooked_142 rfl 0 rfl ?_
      refine zv_iload X d_Model_cooked_143 1 rfl ?_
      refine zv_aload_n X d_Model_cooked_145 rfl 0 rfl ?_
      refine zv_get X (ci := 7) rfl i_Model (za_144 hN) 24 (by decide) lk_Model_73 rfl rfl d_Model_cooked_146 ?_
      refine zv_cVP1 X (av := [zi v5, zr Z 166]) (st := [zi r1]) (ci := 7) (c_Model_apart Γ.2.1 X.2.2.2.2.2.2.2.1 hN v5 166 (za_166 hN) D) mk_Model_200 rfl (za_144 hN) ⟨rfl, rfl, Nat.le_of_ble_eq_true rfl, Nat.le_of_ble_eq_true rfl⟩ rfl (Nat.le_of_ble_eq_true rfl) d_Model_cooked_149 (fun r2 hr2 => ?_)
      refine zv_icmp_ge X (tgt := 160) d_Model_cooked_152 (by decide) (fun h152 => ?_) (fun h152 => ?_)
      · refine zv_iload X d_Model_cooked_160 1 rfl ?_
        refine zv_sub X [0, 2] rfl ?_
        exact v_Model_cooked_162 X hN v6 v5 (f_Model_cooked_121 D n) D ih
      · refine zv_iload X d_Model_cooked_155 2 rfl ?_
        refine zv_goto X (tgt := 162) d_Model_cooked_157 (by decide) ?_
        refine zv_sub X [0, 2] rfl ?_
        exact v_Model_cooked_162 X hN v6 v6 (f_Model_cooked_121 D n) D ih
set_option maxRecDepth 100000 in
theorem v_Model_cooked_76 {Γ : Gt} {Z : Zt} (X : Cx Γ Z prog_10_method_40_code R_Model 8 (some .int) rm_Model_cooked) (hN : 166 ≤ Z.2.2.2.1) (v1 v2 v3 v4 v5 v6 s0 : Int)  (K22 : Int → Int → Mm → Option (Int × Mm)) (D : Mm) (hK22 : ∀ (v4 v5 : Int) (D : Mm), Zv Γ Z 8 (QfM Γ Z 1) (K22 v4 v5 D) D 40 [(0, zr Z 144), (1, zi v1), (2, zi v2), (3, zi v3), (4, zi v4), (5, zi v5)] []) : Zv Γ Z 8 (QfM Γ Z 1) (f_Model_cooked_76 v1 v2 v3 v4 v5 v6 s0 K22 D) D 76 [(0, zr Z 144), (1, zi v1), (2, zi v2), (3, zi v3), (4, zi v4), (5, zi v5), (6, zi v6)] [zi s0] := by
  unfold f_Model_cooked_76
  refine zv_istore X (lv2 := [(7, zi s0), (0, zr Z 144), (1, zi v1), (2, zi v2), (3, zi v3), (4, zi v4), (5, zi v5), (6, zi v6)]) d_Model_cooked_76 (by decide) rfl ?_
  refine zv_aload_n X d_Model_cooked_78 rfl 1 rfl ?_
  refine zv_get X (ci := 7) rfl i_Model (za_144 hN) 24 (by decide) lk_Model_73 rfl rfl d_Model_cooked_79 ?_
  refine zv_iload X d_Model_cooked_82 6 rfl ?_
  refine zv_iload X d_Model_cooked_84 7 rfl ?_
  refine zv_iload X d_Model_cooked_86 0 rfl ?_
  refine zv_isub X d_Model_cooked_88 ?_
  refine zv_iload X d_Model_cooked_89 5 rfl ?_
  refine zv_iadd X d_Model_cooked_91 ?_
  refine zv_iastC X (za_166 hN) d_Model_cooked_92 (fun ha92 hb92 D1 => ?_)
  refine zv_iload X d_Model_cooked_93 0 rfl ?_
  refine zv_istore X (lv2 := [(4, zi s0), (7, zi s0), (0, zr Z 144), (1, zi v1), (2, zi v2), (3, zi v3), (5, zi v5), (6, zi v6)]) d_Model_cooked_95 (by decide) rfl ?_
  refine zv_iinc X (lv2 := [(5, zi (v5 + 1)), (4, zi s0), (7, zi s0), (0, zr Z 144), (1, zi v1), (2, zi v2), (3, zi v3), (6, zi v6)]) d_Model_cooked_97 6 rfl (by decide) rfl ?_
  refine zv_goto X (tgt := 40) d_Model_cooked_100 (by decide) ?_
  refine zv_sub X [3, 4, 5, 6, 1, 0] rfl ?_
  exact hK22 s0 (v5 + 1) D1
set_option maxRecDepth 100000 in
theorem v_Model_cooked_40 {Γ : Gt} {Z : Zt} (X : Cx Γ Z prog_10_method_40_code R_Model 8 (some .int) rm_Model_cooked) (hN : 166 ≤ Z.2.2.2.1) (v1 v2 v3 : Int)    : ∀ (n : Nat) (v4 v5 : Int) (D : Mm), Zv Γ Z 8 (QfM Γ Z 1) (f_Model_cooked_40 v1 v2 v3 n v4 v5 D) D 40 [(0, zr Z 144), (1, zi v1), (2, zi v2), (3, zi v3), (4, zi v4), (5, zi v5)] [] := by
  intro n
  induction n with
  | zero =>
    intro v4 v5 D
    exact zv_none
  | succ n ih =>
    intro v4 v5 D
    rw [f_Model_cooked_40]
    refine zv_iload X d_Model_cooked_40 5 rfl ?_
    refine zv_iconst X d_Model_cooked_42 ?_
    refine zv_icmp_ge X (tgt := 103) d_Model_cooked_43 (by decide) (fun h43 => ?_) (fun h43 => ?_)
    · refine zv_iload_n X d_Model_cooked_103 rfl 3 rfl ?_
      refine zv_iconst X d_Model_cooked_104 ?_
      refine zv_icmp_ge X (tgt := 115) d_Model_cooked_105 (by decide) (fun h105 => ?_) (fun h105 => ?_)
      · refine zv_iconst X d_Model_cooked_115 ?_
        refine zv_istore X (lv2 := [(5, zi 0), (0, zr Z 144), (1, zi v1), (2, zi v2), (3, zi v3), (4, zi v4)]) d_Model_cooked_116 (by decide) rfl ?_
        refine zv_iconst X d_Model_cooked_118 ?_
        refine zv_istore X (lv2 := [(6, zi 1), (5, zi 0), (0, zr Z 144), (1, zi v1), (2, zi v2), (3, zi v3), (4, zi v4)]) d_Model_cooked_119 (by decide) rfl ?_
        refine zv_sub X [2, 1, 0] rfl ?_
        exact v_Model_cooked_121 X hN D zF 0 1
      · refine zv_aload_n X d_Model_cooked_108 rfl 0 rfl ?_
        refine zv_get X (ci := 7) rfl i_Model (za_144 hN) 24 (by decide) lk_Model_73 rfl rfl d_Model_cooked_109 ?_
        refine zv_iload_n X d_Model_cooked_112 rfl 3 rfl ?_
        refine zv_iald X (za_166 hN) d_Model_cooked_113 (fun ha113 hb113 => ?_)
        exact zv_iretM X d_Model_cooked_114
    · refine zv_aload_n X d_Model_cooked_46 rfl 0 rfl ?_
      refine zv_get X (ci := 7) rfl i_Model (za_144 hN) 3 (by decide) lk_Model_16 rfl rfl d_Model_cooked_47 ?_
      refine zv_iconst X d_Model_cooked_50 ?_
      refine zv_iload_n X d_Model_cooked_51 rfl 1 rfl ?_
      refine zv_imul X d_Model_cooked_52 ?_
      refine zv_iload X d_Model_cooked_53 5 rfl ?_
      refine zv_iadd X d_Model_cooked_55 ?_
      refine zv_iald X (za_147 hN) d_Model_cooked_56 (fun ha56 hb56 => ?_)
      refine zv_istore X (lv2 := [(6, zi (D 147 ((4 * v1) + v5))), (0, zr Z 144), (1, zi v1), (2, zi v2), (3, zi v3), (4, zi v4), (5, zi v5)]) d_Model_cooked_57 (by decide) rfl ?_
      refine zv_iload X d_Model_cooked_59 6 rfl ?_
      refine zv_iconst X d_Model_cooked_61 ?_
      refine zv_icmp_ge X (tgt := 75) d_Model_cooked_62 (by decide) (fun h62 => ?_) (fun h62 => ?_)
      · refine zv_iconst X d_Model_cooked_75 ?_
        refine zv_sub X [1, 2, 3, 4, 5, 6, 0] rfl ?_
        exact v_Model_cooked_76 X hN v1 v2 v3 v4 v5 (D 147 ((4 * v1) + v5)) 0 (f_Model_cooked_40 v1 v2 v3 n) D ih
      · refine zv_iload X d_Model_cooked_65 0 rfl ?_
        refine zv_iload_n X d_Model_cooked_67 rfl 3 rfl ?_
        refine zv_imul X d_Model_cooked_68 ?_
        refine zv_bipush X d_Model_cooked_69 (by decide +kernel) ?_
        refine zv_idivK X d_Model_cooked_71 (by decide +kernel) ?_
        refine zv_goto X (tgt := 76) d_Model_cooked_72 (by decide) ?_
        refine zv_sub X [1, 2, 3, 4, 5, 6, 0] rfl ?_
        exact v_Model_cooked_76 X hN v1 v2 v3 v4 v5 (D 147 ((4 * v1) + v5)) (jdiv ((D 147 ((4 * v1) + v5)) * v2) 100) (f_Model_cooked_40 v1 v2 v3 n) D ih
set_option maxRecDepth 100000 in
theorem c_Model_cooked (l : Launch) {Z : Zt} (hZ : Zok Z) (hN : 166 ≤ Z.2.2.2.1) (v1 v2 v3 : Int)  (D : Mm) : CtM l Z y_Model_cooked prog_10_method_40_code 8 (some .int) rm_Model_cooked 1 [zr Z 144, zi v1, zi v2, zi v3] D (f_Model_cooked v1 v2 v3 D) := by
  refine zm_M (lv := [(0, zr Z 144), (1, zi v1), (2, zi v2), (3, zi v3)]) hZ (by decide +kernel) rfl (Nat.le_of_ble_eq_true rfl) rfl (fun Γ hl X => ?_)
  subst hl
  unfold f_Model_cooked
  refine zv_aload_n X d_Model_cooked_0 rfl 0 rfl ?_
  refine zv_iload_n X d_Model_cooked_1 rfl 1 rfl ?_
  refine zv_cVP1 X (av := [zi v1]) (st := []) (ci := 7) (c_Model_isSort Γ.2.1 X.2.2.2.2.2.2.2.1 hN v1 D) mk_Model_144 rfl (za_144 hN) ⟨rfl, rfl, Nat.le_of_ble_eq_true rfl, Nat.le_of_ble_eq_true rfl⟩ rfl (Nat.le_of_ble_eq_true rfl) d_Model_cooked_2 (fun r1 hr1 => ?_)
  refine zv_if_eq X (y := 0) (tgt := 32) d_Model_cooked_5 (by decide) (fun h5 => ?_) (fun h5 => ?_)
  · refine zv_iconst X d_Model_cooked_32 ?_
    exact zv_iretM X d_Model_cooked_33
  · refine zv_iload_n X d_Model_cooked_8 rfl 2 rfl ?_
    refine zv_i2l X d_Model_cooked_9 ?_
    refine zv_lconst X (x := 0) d_Model_cooked_10 (by decide +kernel) ?_
    refine zv_ldc2 X 100 kc_Model_161 (by decide +kernel) d_Model_cooked_11 ?_
    refine zv_cSP1 X (av := [zl (wI v2), zl 0, zl 100]) (st := []) (c_Model_in Γ.2.1 X.2.2.2.2.2.2.2.1 hN (wI v2) 0 100 D) mk_Model_82 ⟨rfl, rfl, Nat.le_of_ble_eq_true rfl, Nat.le_of_ble_eq_true rfl⟩ rfl (Nat.le_of_ble_eq_true rfl) d_Model_cooked_14 (fun r2 hr2 => ?_)
    refine zv_if_eq X (y := 0) (tgt := 32) d_Model_cooked_17 (by decide) (fun h17 => ?_) (fun h17 => ?_)
    · refine zv_iconst X d_Model_cooked_32 ?_
      exact zv_iretM X d_Model_cooked_33
    · refine zv_iload_n X d_Model_cooked_20 rfl 3 rfl ?_
      refine zv_i2l X d_Model_cooked_21 ?_
      refine zv_lconst X (x := 0) d_Model_cooked_22 (by decide +kernel) ?_
      refine zv_ldc2 X 4 kc_Model_134 (by decide +kernel) d_Model_cooked_23 ?_
      refine zv_cSP1 X (av := [zl (wI v3), zl 0, zl 4]) (st := []) (c_Model_in Γ.2.1 X.2.2.2.2.2.2.2.1 hN (wI v3) 0 4 D) mk_Model_82 ⟨rfl, rfl, Nat.le_of_ble_eq_true rfl, Nat.le_of_ble_eq_true rfl⟩ rfl (Nat.le_of_ble_eq_true rfl) d_Model_cooked_26 (fun r3 hr3 => ?_)
      refine zv_if_ne X (y := 0) (tgt := 34) d_Model_cooked_29 (by decide) (fun h29 => ?_) (fun h29 => ?_)
      · refine zv_iconst X d_Model_cooked_34 ?_
        refine zv_istore X (lv2 := [(4, zi 0), (0, zr Z 144), (1, zi v1), (2, zi v2), (3, zi v3)]) d_Model_cooked_35 (by decide) rfl ?_
        refine zv_iconst X d_Model_cooked_37 ?_
        refine zv_istore X (lv2 := [(5, zi 0), (4, zi 0), (0, zr Z 144), (1, zi v1), (2, zi v2), (3, zi v3)]) d_Model_cooked_38 (by decide) rfl ?_
        refine zv_sub X [2, 3, 4, 5, 1, 0] rfl ?_
        exact v_Model_cooked_40 X hN v1 v2 v3 zF 0 0 D
      · refine zv_iconst X d_Model_cooked_32 ?_
        exact zv_iretM X d_Model_cooked_33
set_option maxRecDepth 100000 in
theorem c_Model_count (l : Launch) {Z : Zt} (hZ : Zok Z) (hN : 166 ≤ Z.2.2.2.1) (v1 v2 v3 : Int)  (D : Mm) : CtM l Z y_Model_count prog_10_method_41_code 5 (some .int) rm_Model_count 1 [zr Z 144, zi v1, zi v2, zi v3] D (f_Model_count v1 v2 v3 D) := by
  refine zm_M (lv := [(0, zr Z 144), (1, zi v1), (2, zi v2), (3, zi v3)]) hZ (by decide +kernel) rfl (Nat.le_of_ble_eq_true rfl) rfl (fun Γ hl X => ?_)
  subst hl
  unfold f_Model_count
  refine zv_aload_n X d_Model_count_0 rfl 0 rfl ?_
  refine zv_iload_n X d_Model_count_1 rfl 1 rfl ?_
  refine zv_cVP1 X (av := [zi v1]) (st := []) (ci := 7) (c_Model_isFace Γ.2.1 X.2.2.2.2.2.2.2.1 hN v1 D) mk_Model_131 rfl (za_144 hN) ⟨rfl, rfl, Nat.le_of_ble_eq_true rfl, Nat.le_of_ble_eq_true rfl⟩ rfl (Nat.le_of_ble_eq_true rfl) d_Model_count_2 (fun r1 hr1 => ?_)
  refine zv_if_eq X (y := 0) (tgt := 28) d_Model_count_5 (by decide) (fun h5 => ?_) (fun h5 => ?_)
  · refine zv_iconst X d_Model_count_28 ?_
    exact zv_iretM X d_Model_count_29
  · refine zv_aload_n X d_Model_count_8 rfl 0 rfl ?_
    refine zv_iload_n X d_Model_count_9 rfl 2 rfl ?_
    refine zv_cVP1 X (av := [zi v2]) (st := []) (ci := 7) (c_Model_isSort Γ.2.1 X.2.2.2.2.2.2.2.1 hN v2 D) mk_Model_144 rfl (za_144 hN) ⟨rfl, rfl, Nat.le_of_ble_eq_true rfl, Nat.le_of_ble_eq_true rfl⟩ rfl (Nat.le_of_ble_eq_true rfl) d_Model_count_10 (fun r2 hr2 => ?_)
    refine zv_if_eq X (y := 0) (tgt := 28) d_Model_count_13 (by decide) (fun h13 => ?_) (fun h13 => ?_)
    · refine zv_iconst X d_Model_count_28 ?_
      exact zv_iretM X d_Model_count_29
    · refine zv_iload_n X d_Model_count_16 rfl 3 rfl ?_
      refine zv_i2l X d_Model_count_17 ?_
      refine zv_lconst X (x := 0) d_Model_count_18 (by decide +kernel) ?_
      refine zv_ldc2 X 99 kc_Model_210 (by decide +kernel) d_Model_count_19 ?_
      refine zv_cSP1 X (av := [zl (wI v3), zl 0, zl 99]) (st := []) (c_Model_in Γ.2.1 X.2.2.2.2.2.2.2.1 hN (wI v3) 0 99 D) mk_Model_82 ⟨rfl, rfl, Nat.le_of_ble_eq_true rfl, Nat.le_of_ble_eq_true rfl⟩ rfl (Nat.le_of_ble_eq_true rfl) d_Model_count_22 (fun r3 hr3 => ?_)
      refine zv_if_ne X (y := 0) (tgt := 30) d_Model_count_25 (by decide) (fun h25 => ?_) (fun h25 => ?_)
      · refine zv_aload_n X d_Model_count_30 rfl 0 rfl ?_
        refine zv_get X (ci := 7) rfl i_Model (za_144 hN) 15 (by decide) lk_Model_52 rfl rfl d_Model_count_31 ?_
        refine zv_bipush X d_Model_count_34 (by decide +kernel) ?_
        refine zv_iload_n X d_Model_count_36 rfl 1 rfl ?_
        refine zv_imul X d_Model_count_37 ?_
        refine zv_iload_n X d_Model_count_38 rfl 2 rfl ?_
        refine zv_iadd X d_Model_count_39 ?_
        refine zv_iald X (za_159 hN) d_Model_count_40 (fun ha40 hb40 => ?_)
        refine zv_istore X (lv2 := [(4, zi (D 159 ((6 * v1) + v2))), (0, zr Z 144), (1, zi v1), (2, zi v2), (3, zi v3)]) d_Model_count_41 (by decide) rfl ?_
        refine zv_aload_n X d_Model_count_43 rfl 1 rfl ?_
        refine zv_get X (ci := 7) rfl i_Model (za_144 hN) 15 (by decide) lk_Model_52 rfl rfl d_Model_count_44 ?_
        refine zv_bipush X d_Model_count_47 (by decide +kernel) ?_
        refine zv_iload_n X d_Model_count_49 rfl 2 rfl ?_
        refine zv_imul X d_Model_count_50 ?_
        refine zv_iload_n X d_Model_count_51 rfl 3 rfl ?_
        refine zv_iadd X d_Model_count_52 ?_
        refine zv_iload_n X d_Model_count_53 rfl 4 rfl ?_
        refine zv_iastC X (za_159 hN) d_Model_count_54 (fun ha54 hb54 D4 => ?_)
        refine zv_aload_n X d_Model_count_55 rfl 1 rfl ?_
        refine zv_get X (ci := 7) rfl i_Model (za_144 hN) 16 (by decide) lk_Model_55 rfl rfl d_Model_count_56 ?_
        refine zv_iload_n X d_Model_count_59 rfl 2 rfl ?_
        refine zv_iconst X d_Model_count_60 ?_
        refine zv_iastC X (za_160 hN) d_Model_count_61 (fun ha61 hb61 D5 => ?_)
        refine zv_iload X d_Model_count_62 0 rfl ?_
        exact zv_iretM X d_Model_count_64
      · refine zv_iconst X d_Model_count_28 ?_
        exact zv_iretM X d_Model_count_29
set_option maxRecDepth 100000 in
theorem v_Model_laidBy_37 {Γ : Gt} {Z : Zt} (X : Cx Γ Z prog_10_method_42_code R_Model 6 (some .int) rm_Model_laidBy) (hN : 166 ≤ Z.2.2.2.1) (v2 v4 v5 s0 s1 : Int)  (K6 : Int → Int → Int → Option (Int)) (D : Mm) (hK6 : ∀ (v3 v4 v5 : Int), Zv Γ Z 6 (QfP Γ Z 1 D) (K6 v3 v4 v5) D 8 [(0, zr Z 144), (2, zi v2), (3, zi v3), (4, zi v4), (5, zi v5)] []) : Zv Γ Z 6 (QfP Γ Z 1 D) (f_Model_laidBy_37 v2 v4 v5 s0 s1 K6 D) D 37 [(0, zr Z 144), (2, zi v2), (4, zi v4), (5, zi v5)] [zi s0, zi s1] := by
  unfold f_Model_laidBy_37
  refine zv_iadd X d_Model_laidBy_37 ?_
  refine zv_istore_n X (lv2 := [(3, zi (s1 + s0)), (0, zr Z 144), (2, zi v2), (4, zi v4), (5, zi v5)]) d_Model_laidBy_38 rfl (by decide) rfl ?_
  refine zv_iload X d_Model_laidBy_39 3 rfl ?_
  refine zv_bipush X d_Model_laidBy_41 (by decide +kernel) ?_
  refine zv_idivK X d_Model_laidBy_43 (by decide +kernel) ?_
  refine zv_istore X (lv2 := [(4, zi (jdiv v4 10)), (3, zi (s1 + s0)), (0, zr Z 144), (2, zi v2), (5, zi v5)]) d_Model_laidBy_44 (by decide) rfl ?_
  refine zv_iinc X (lv2 := [(5, zi (v5 + (-1))), (4, zi (jdiv v4 10)), (3, zi (s1 + s0)), (0, zr Z 144), (2, zi v2)]) d_Model_laidBy_46 4 rfl (by decide) rfl ?_
  refine zv_goto X (tgt := 8) d_Model_laidBy_49 (by decide) ?_
  refine zv_sub X [3, 4, 2, 1, 0] rfl ?_
  exact hK6 (s1 + s0) (jdiv v4 10) (v5 + (-1))
set_option maxRecDepth 100000 in
theorem v_Model_laidBy_8 {Γ : Gt} {Z : Zt} (X : Cx Γ Z prog_10_method_42_code R_Model 6 (some .int) rm_Model_laidBy) (hN : 166 ≤ Z.2.2.2.1) (v2 : Int)   (D : Mm)  : ∀ (n : Nat) (v3 v4 v5 : Int) , Zv Γ Z 6 (QfP Γ Z 1 D) (f_Model_laidBy_8 v2 D n v3 v4 v5) D 8 [(0, zr Z 144), (2, zi v2), (3, zi v3), (4, zi v4), (5, zi v5)] [] := by
  intro n
  induction n with
  | zero =>
    intro v3 v4 v5
    exact zv_none
  | succ n ih =>
    intro v3 v4 v5
    rw [f_Model_laidBy_8]
    refine zv_iload X d_Model_laidBy_8 4 rfl ?_
    refine zv_if_lt X (y := 0) (tgt := 52) d_Model_laidBy_10 (by decide) (fun h10 => ?_) (fun h10 => ?_)
    · refine zv_iload_n X d_Model_laidBy_52 rfl 2 rfl ?_
      refine zv_aload_n X d_Model_laidBy_53 rfl 0 rfl ?_
      refine zv_get X (ci := 7) rfl i_Model (za_144 hN) 7 (by decide) lk_Model_28 rfl rfl d_Model_laidBy_54 ?_
      refine zv_iload_n X d_Model_laidBy_57 rfl 1 rfl ?_
      refine zv_iald X (za_151 hN) d_Model_laidBy_58 (fun ha58 hb58 => ?_)
      refine zv_imul X d_Model_laidBy_59 ?_
      exact zv_iretP X d_Model_laidBy_60
    · refine zv_iload_n X d_Model_laidBy_13 rfl 2 rfl ?_
      refine zv_aload_n X d_Model_laidBy_14 rfl 0 rfl ?_
      refine zv_get X (ci := 7) rfl i_Model (za_144 hN) 8 (by decide) lk_Model_31 rfl rfl d_Model_laidBy_15 ?_
      refine zv_iload_n X d_Model_laidBy_18 rfl 1 rfl ?_
      refine zv_iald X (za_152 hN) d_Model_laidBy_19 (fun ha19 hb19 => ?_)
      refine zv_iload X d_Model_laidBy_20 4 rfl ?_
      refine zv_cSP1 X (av := [zi (D 152 v2), zi v5]) (st := [zi v3]) (c_Model_has Γ.2.1 X.2.2.2.2.2.2.2.1 hN (D 152 v2) v5 D) mk_Model_136 ⟨rfl, rfl, Nat.le_of_ble_eq_true rfl, Nat.le_of_ble_eq_true rfl⟩ rfl (Nat.le_of_ble_eq_true rfl) d_Model_laidBy_22 (fun r1 hr1 => ?_)
      refine zv_if_eq X (y := 0) (tgt := 36) d_Model_laidBy_25 (by decide) (fun h25 => ?_) (fun h25 => ?_)
      · refine zv_iconst X d_Model_laidBy_36 ?_
        refine zv_sub X [0, 1, 3, 4] rfl ?_
        exact v_Model_laidBy_37 X hN v2 v4 v5 0 v3 (f_Model_laidBy_8 v2 D n) D ih
      · refine zv_iload X d_Model_laidBy_28 3 rfl ?_
        refine zv_bipush X d_Model_laidBy_30 (by decide +kernel) ?_
        refine zv_iremK X d_Model_laidBy_32 (by decide +kernel) ?_
        refine zv_goto X (tgt := 37) d_Model_laidBy_33 (by decide) ?_
        refine zv_sub X [0, 1, 3, 4] rfl ?_
        exact v_Model_laidBy_37 X hN v2 v4 v5 (jrem v4 10) v3 (f_Model_laidBy_8 v2 D n) D ih
set_option maxRecDepth 100000 in
theorem c_Model_laidBy (l : Launch) {Z : Zt} (hZ : Zok Z) (hN : 166 ≤ Z.2.2.2.1) (v1 v2 : Int)  (D : Mm) : CtP l Z y_Model_laidBy prog_10_method_42_code 6 (some .int) rm_Model_laidBy 1 [zr Z 144, zi v1, zi v2] D (f_Model_laidBy v1 v2 D) := by
  refine zm_P (lv := [(0, zr Z 144), (1, zi v1), (2, zi v2)]) hZ (by decide +kernel) rfl (Nat.le_of_ble_eq_true rfl) rfl (fun Γ hl X => ?_)
  subst hl
  unfold f_Model_laidBy
  refine zv_iconst X d_Model_laidBy_0 ?_
  refine zv_istore_n X (lv2 := [(3, zi 0), (0, zr Z 144), (1, zi v1), (2, zi v2)]) d_Model_laidBy_1 rfl (by decide) rfl ?_
  refine zv_iload_n X d_Model_laidBy_2 rfl 2 rfl ?_
  refine zv_istore X (lv2 := [(4, zi v1), (3, zi 0), (0, zr Z 144), (1, zi v1), (2, zi v2)]) d_Model_laidBy_3 (by decide) rfl ?_
  refine zv_iconst X d_Model_laidBy_5 ?_
  refine zv_istore X (lv2 := [(5, zi 3), (4, zi v1), (3, zi 0), (0, zr Z 144), (1, zi v1), (2, zi v2)]) d_Model_laidBy_6 (by decide) rfl ?_
  refine zv_sub X [3, 5, 2, 1, 0] rfl ?_
  exact v_Model_laidBy_8 X hN v2 D zF 0 v1 3
set_option maxRecDepth 100000 in
theorem v_Model_fits_74 {Γ : Gt} {Z : Zt} (X : Cx Γ Z prog_10_method_43_code R_Model 6 (some .boolean) rm_Model_fits) (hN : 166 ≤ Z.2.2.2.1) (v1 v2 v3 v4 : Int)  (K2 : Int → Option (Int)) (D : Mm) (hK2 : ∀ (v4 : Int), Zv Γ Z 6 (QfP Γ Z 1 D) (K2 v4) D 3 [(0, zr Z 144), (1, zi v1), (2, zi v2), (3, zi v3), (4, zi v4)] []) : Zv Γ Z 6 (QfP Γ Z 1 D) (f_Model_fits_74 v1 v2 v3 v4 K2 D) D 74 [(0, zr Z 144), (1, zi v1), (2, zi v2), (3, zi v3), (4, zi v4)] [] := by
  unfold f_Model_fits_74
  refine zv_iinc X (lv2 := [(4, zi (v4 + 1)), (0, zr Z 144), (1, zi v1), (2, zi v2), (3, zi v3)]) d_Model_fits_74 4 rfl (by decide) rfl ?_
  refine zv_goto X (tgt := 3) d_Model_fits_77 (by decide) ?_
  refine zv_sub X [1, 2, 3, 4, 0] rfl ?_
  exact hK2 (v4 + 1)
set_option maxRecDepth 100000 in
theorem v_Model_fits_3 {Γ : Gt} {Z : Zt} (X : Cx Γ Z prog_10_method_43_code R_Model 6 (some .boolean) rm_Model_fits) (hN : 166 ≤ Z.2.2.2.1) (v1 v2 v3 : Int)   (D : Mm)  : ∀ (n : Nat) (v4 : Int) , Zv Γ Z 6 (QfP Γ Z 1 D) (f_Model_fits_3 v1 v2 v3 D n v4) D 3 [(0, zr Z 144), (1, zi v1), (2, zi v2), (3, zi v3), (4, zi v4)] [] := by
  intro n
  induction n with
  | zero =>
    intro v4
    exact zv_none
  | succ n ih =>
    intro v4
    rw [f_Model_fits_3]
    refine zv_iload X d_Model_fits_3 4 rfl ?_
    refine zv_aload_n X d_Model_fits_5 rfl 0 rfl ?_
    refine zv_get X (ci := 7) rfl i_Model (za_144 hN) 4 (by decide) lk_Model_19 rfl rfl d_Model_fits_6 ?_
    refine zv_iconst X d_Model_fits_9 ?_
    refine zv_ialdK X (za_148 hN) (by decide) (by decide) d_Model_fits_10 ?_
    refine zv_icmp_ge X (tgt := 80) d_Model_fits_11 (by decide) (fun h11 => ?_) (fun h11 => ?_)
    · refine zv_iconst X d_Model_fits_80 ?_
      exact zv_zretPK X (Or.inr rfl) d_Model_fits_81
    · refine zv_aload_n X d_Model_fits_14 rfl 0 rfl ?_
      refine zv_get X (ci := 7) rfl i_Model (za_144 hN) 15 (by decide) lk_Model_52 rfl rfl d_Model_fits_15 ?_
      refine zv_bipush X d_Model_fits_18 (by decide +kernel) ?_
      refine zv_iload X d_Model_fits_20 4 rfl ?_
      refine zv_imul X d_Model_fits_22 ?_
      refine zv_iload_n X d_Model_fits_23 rfl 2 rfl ?_
      refine zv_iadd X d_Model_fits_24 ?_
      refine zv_iald X (za_159 hN) d_Model_fits_25 (fun ha25 hb25 => ?_)
      refine zv_aload_n X d_Model_fits_26 rfl 0 rfl ?_
      refine zv_iload_n X d_Model_fits_27 rfl 1 rfl ?_
      refine zv_iload X d_Model_fits_28 4 rfl ?_
      refine zv_cVP1 X (av := [zi v1, zi v4]) (st := [zi (D 159 ((6 * v4) + v2))]) (ci := 7) (c_Model_laidBy Γ.2.1 X.2.2.2.2.2.2.2.1 hN v1 v4 D) mk_Model_212 rfl (za_144 hN) ⟨rfl, rfl, Nat.le_of_ble_eq_true rfl, Nat.le_of_ble_eq_true rfl⟩ rfl (Nat.le_of_ble_eq_true rfl) d_Model_fits_30 (fun r1 hr1 => ?_)
      refine zv_isub X d_Model_fits_33 ?_
      refine zv_istore X (lv2 := [(5, zi ((D 159 ((6 * v4) + v2)) - r1)), (0, zr Z 144), (1, zi v1), (2, zi v2), (3, zi v3), (4, zi v4)]) d_Model_fits_34 (by decide) rfl ?_
      refine zv_aload_n X d_Model_fits_36 rfl 1 rfl ?_
      refine zv_get X (ci := 7) rfl i_Model (za_144 hN) 6 (by decide) lk_Model_25 rfl rfl d_Model_fits_37 ?_
      refine zv_iload X d_Model_fits_40 5 rfl ?_
      refine zv_iald X (za_150 hN) d_Model_fits_42 (fun ha42 hb42 => ?_)
      refine zv_iconst X d_Model_fits_43 ?_
      refine zv_icmp_ne X (tgt := 74) d_Model_fits_44 (by decide) (fun h44 => ?_) (fun h44 => ?_)
      · refine zv_sub X [1, 2, 3, 4, 5] rfl ?_
        exact v_Model_fits_74 X hN v1 v2 v3 v4 (f_Model_fits_3 v1 v2 v3 D n) D ih
      · refine zv_aload_n X d_Model_fits_47 rfl 1 rfl ?_
        refine zv_get X (ci := 7) rfl i_Model (za_144 hN) 16 (by decide) lk_Model_55 rfl rfl d_Model_fits_48 ?_
        refine zv_iload X d_Model_fits_51 5 rfl ?_
        refine zv_iald X (za_160 hN) d_Model_fits_53 (fun ha53 hb53 => ?_)
        refine zv_iconst X d_Model_fits_54 ?_
        refine zv_icmp_ne X (tgt := 74) d_Model_fits_55 (by decide) (fun h55 => ?_) (fun h55 => ?_)
        · refine zv_sub X [1, 2, 3, 4, 5] rfl ?_
          exact v_Model_fits_74 X hN v1 v2 v3 v4 (f_Model_fits_3 v1 v2 v3 D n) D ih
        · refine zv_iload X d_Model_fits_58 0 rfl ?_
          refine zv_i2l X d_Model_fits_60 ?_
          refine zv_iload_n X d_Model_fits_61 rfl 4 rfl ?_
          refine zv_ineg X d_Model_fits_62 ?_
          refine zv_i2l X d_Model_fits_63 ?_
          refine zv_iload_n X d_Model_fits_64 rfl 4 rfl ?_
          refine zv_i2l X d_Model_fits_65 ?_
          refine zv_cSP1 X (av := [zl (wI ((D 159 ((6 * v4) + v2)) - r1)), zl (wI (-v3)), zl (wI v3)]) (st := []) (c_Model_in Γ.2.1 X.2.2.2.2.2.2.2.1 hN (wI ((D 159 ((6 * v4) + v2)) - r1)) (wI (-v3)) (wI v3) D) mk_Model_82 ⟨rfl, rfl, Nat.le_of_ble_eq_true rfl, Nat.le_of_ble_eq_true rfl⟩ rfl (Nat.le_of_ble_eq_true rfl) d_Model_fits_66 (fun r2 hr2 => ?_)
          refine zv_if_ne X (y := 0) (tgt := 74) d_Model_fits_69 (by decide) (fun h69 => ?_) (fun h69 => ?_)
          · refine zv_sub X [1, 2, 3, 4, 5] rfl ?_
            exact v_Model_fits_74 X hN v1 v2 v3 v4 (f_Model_fits_3 v1 v2 v3 D n) D ih
          · refine zv_iconst X d_Model_fits_72 ?_
            exact zv_zretPK X (Or.inl rfl) d_Model_fits_73
set_option maxRecDepth 100000 in
theorem c_Model_fits (l : Launch) {Z : Zt} (hZ : Zok Z) (hN : 166 ≤ Z.2.2.2.1) (v1 v2 v3 : Int)  (D : Mm) : CtP l Z y_Model_fits prog_10_method_43_code 6 (some .boolean) rm_Model_fits 1 [zr Z 144, zi v1, zi v2, zi v3] D (f_Model_fits v1 v2 v3 D) := by
  refine zm_P (lv := [(0, zr Z 144), (1, zi v1), (2, zi v2), (3, zi v3)]) hZ (by decide +kernel) rfl (Nat.le_of_ble_eq_true rfl) rfl (fun Γ hl X => ?_)
  subst hl
  unfold f_Model_fits
  refine zv_iconst X d_Model_fits_0 ?_
  refine zv_istore X (lv2 := [(4, zi 0), (0, zr Z 144), (1, zi v1), (2, zi v2), (3, zi v3)]) d_Model_fits_1 (by decide) rfl ?_
  refine zv_sub X [1, 2, 3, 4, 0] rfl ?_
  exact v_Model_fits_3 X hN v1 v2 v3 D zF 0
set_option maxRecDepth 100000 in
theorem v_Model_figure_4 {Γ : Gt} {Z : Zt} (X : Cx Γ Z prog_10_method_44_code R_Model 4 (some .int) rm_Model_figure) (hN : 166 ≤ Z.2.2.2.1) (v1 : Int)   (D : Mm)  : ∀ (n : Nat) (v2 v3 : Int) , Zv Γ Z 4 (QfP Γ Z 1 D) (f_Model_figure_4 v1 D n v2 v3) D 4 [(1, zi v1), (2, zi v2), (3, zi v3)] [] := by
  intro n
  induction n with
  | zero =>
    intro v2 v3
    exact zv_none
  | succ n ih =>
    intro v2 v3
    rw [f_Model_figure_4]
    refine zv_iload_n X d_Model_figure_4 rfl 2 rfl ?_
    refine zv_iload_n X d_Model_figure_5 rfl 0 rfl ?_
    refine zv_icmp_le X (tgt := 20) d_Model_figure_6 (by decide) (fun h6 => ?_) (fun h6 => ?_)
    · refine zv_iload_n X d_Model_figure_20 rfl 1 rfl ?_
      refine zv_bipush X d_Model_figure_21 (by decide +kernel) ?_
      refine zv_iremK X d_Model_figure_23 (by decide +kernel) ?_
      exact zv_iretP X d_Model_figure_24
    · refine zv_iload_n X d_Model_figure_9 rfl 1 rfl ?_
      refine zv_bipush X d_Model_figure_10 (by decide +kernel) ?_
      refine zv_idivK X d_Model_figure_12 (by decide +kernel) ?_
      refine zv_istore_n X (lv2 := [(2, zi (jdiv v2 10)), (1, zi v1), (3, zi v3)]) d_Model_figure_13 rfl (by decide) rfl ?_
      refine zv_iinc X (lv2 := [(3, zi (v3 + (-1))), (2, zi (jdiv v2 10)), (1, zi v1)]) d_Model_figure_14 2 rfl (by decide) rfl ?_
      refine zv_goto X (tgt := 4) d_Model_figure_17 (by decide) ?_
      refine zv_sub X [2, 1, 0] rfl ?_
      exact ih (jdiv v2 10) (v3 + (-1))
set_option maxRecDepth 100000 in
theorem c_Model_figure (l : Launch) {Z : Zt} (hZ : Zok Z) (hN : 166 ≤ Z.2.2.2.1) (v0 v1 : Int)  (D : Mm) : CtP l Z y_Model_figure prog_10_method_44_code 4 (some .int) rm_Model_figure 1 [zi v0, zi v1] D (f_Model_figure v0 v1 D) := by
  refine zm_P (lv := [(0, zi v0), (1, zi v1)]) hZ (by decide +kernel) rfl (Nat.le_of_ble_eq_true rfl) rfl (fun Γ hl X => ?_)
  subst hl
  unfold f_Model_figure
  refine zv_iload_n X d_Model_figure_0 rfl 0 rfl ?_
  refine zv_istore_n X (lv2 := [(2, zi v0), (0, zi v0), (1, zi v1)]) d_Model_figure_1 rfl (by decide) rfl ?_
  refine zv_iconst X d_Model_figure_2 ?_
  refine zv_istore_n X (lv2 := [(3, zi 3), (2, zi v0), (0, zi v0), (1, zi v1)]) d_Model_figure_3 rfl (by decide) rfl ?_
  refine zv_sub X [3, 1, 0] rfl ?_
  exact v_Model_figure_4 X hN v1 D zF v0 3
set_option maxRecDepth 100000 in
theorem v_Model_books_120 {Γ : Gt} {Z : Zt} (X : Cx Γ Z prog_10_method_45_code R_Model 9 (some .int) rm_Model_books) (hN : 166 ≤ Z.2.2.2.1) (v1 v2 v3 v4 v5 v6 v7 : Int)  (K24 : Int → Int → Int → Option (Int)) (D : Mm) (hK24 : ∀ (v5 v6 v7 : Int), Zv Γ Z 9 (QfP Γ Z 1 D) (K24 v5 v6 v7) D 46 [(0, zr Z 144), (1, zi v1), (2, zi v2), (3, zi v3), (4, zi v4), (5, zi v5), (6, zi v6), (7, zi v7)] []) : Zv Γ Z 9 (QfP Γ Z 1 D) (f_Model_books_120 v1 v2 v3 v4 v5 v6 v7 K24 D) D 120 [(0, zr Z 144), (1, zi v1), (2, zi v2), (3, zi v3), (4, zi v4), (5, zi v5), (6, zi v6), (7, zi v7)] [] := by
  unfold f_Model_books_120
  refine zv_iinc X (lv2 := [(7, zi (v7 + 1)), (0, zr Z 144), (1, zi v1), (2, zi v2), (3, zi v3), (4, zi v4), (5, zi v5), (6, zi v6)]) d_Model_books_120 7 rfl (by decide) rfl ?_
  refine zv_goto X (tgt := 46) d_Model_books_123 (by decide) ?_
  refine zv_sub X [1, 2, 3, 4, 5, 6, 7, 0] rfl ?_
  exact hK24 v5 v6 (v7 + 1)
set_option maxRecDepth 100000 in
theorem v_Model_books_115 {Γ : Gt} {Z : Zt} (X : Cx Γ Z prog_10_method_45_code R_Model 9 (some .int) rm_Model_books) (hN : 166 ≤ Z.2.2.2.1) (v1 v2 v3 v4 v5 v7 s0 : Int)  (K24 : Int → Int → Int → Option (Int)) (D : Mm) (hK24 : ∀ (v5 v6 v7 : Int), Zv Γ Z 9 (QfP Γ Z 1 D) (K24 v5 v6 v7) D 46 [(0, zr Z 144), (1, zi v1), (2, zi v2), (3, zi v3), (4, zi v4), (5, zi v5), (6, zi v6), (7, zi v7)] []) : Zv Γ Z 9 (QfP Γ Z 1 D) (f_Model_books_115 v1 v2 v3 v4 v5 v7 s0 K24 D) D 115 [(0, zr Z 144), (1, zi v1), (2, zi v2), (3, zi v3), (4, zi v4), (5, zi v5), (7, zi v7)] [zi s0] := by
  unfold f_Model_books_115
  refine zv_istore X (lv2 := [(6, zi s0), (0, zr Z 144), (1, zi v1), (2, zi v2), (3, zi v3), (4, zi v4), (5, zi v5), (7, zi v7)]) d_Model_books_115 (by decide) rfl ?_
  refine zv_iinc X (lv2 := [(5, zi (v5 + 1)), (6, zi s0), (0, zr Z 144), (1, zi v1), (2, zi v2), (3, zi v3), (4, zi v4), (7, zi v7)]) d_Model_books_117 6 rfl (by decide) rfl ?_
  refine zv_sub X [2, 3, 4, 5, 6, 0, 1, 7] rfl ?_
  exact v_Model_books_120 X hN v1 v2 v3 v4 (v5 + 1) s0 v7 K24 D hK24
set_option maxRecDepth 100000 in
theorem v_Model_books_113 {Γ : Gt} {Z : Zt} (X : Cx Γ Z prog_10_method_45_code R_Model 9 (some .int) rm_Model_books) (hN : 166 ≤ Z.2.2.2.1) (v1 v2 v3 v4 v5 v6 v7 : Int)  (K24 : Int → Int → Int → Option (Int)) (D : Mm) (hK24 : ∀ (v5 v6 v7 : Int), Zv Γ Z 9 (QfP Γ Z 1 D) (K24 v5 v6 v7) D 46 [(0, zr Z 144), (1, zi v1), (2, zi v2), (3, zi v3), (4, zi v4), (5, zi v5), (6, zi v6), (7, zi v7)] []) : Zv Γ Z 9 (QfP Γ Z 1 D) (f_Model_books_113 v1 v2 v3 v4 v5 v6 v7 K24 D) D 113 [(0, zr Z 144), (1, zi v1), (2, zi v2), (3, zi v3), (4, zi v4), (5, zi v5), (6, zi v6), (7, zi v7)] [] := by
  unfold f_Model_books_113
  refine zv_iload X d_Model_books_113 6 rfl ?_
  refine zv_sub X [0, 1, 2, 3, 4, 5, 7] rfl ?_
  exact v_Model_books_115 X hN v1 v2 v3 v4 v5 v7 v6 K24 D hK24
set_option maxRecDepth 100000 in
theorem v_Model_books_108 {Γ : Gt} {Z : Zt} (X : Cx Γ Z prog_10_method_45_code R_Model 9 (some .int) rm_Model_books) (hN : 166 ≤ Z.2.2.2.1) (v1 v2 v3 v4 v5 v7 v8 : Int)  (K24 : Int → Int → Int → Option (Int)) (D : Mm) (hK24 : ∀ (v5 v6 v7 : Int), Zv Γ Z 9 (QfP Γ Z 1 D) (K24 v5 v6 v7) D 46 [(0, zr Z 144), (1, zi v1), (2, zi v2), (3, zi v3), (4, zi v4), (5, zi v5), (6, zi v6), (7, zi v7)] []) : Zv Γ Z 9 (QfP Γ Z 1 D) (f_Model_books_108 v1 v2 v3 v4 v5 v7 v8 K24 D) D 108 [(0, zr Z 144), (1, zi v1), (2, zi v2), (3, zi v3), (4, zi v4), (5, zi v5), (7, zi v7), (8, zi v8)] [] := by
  unfold f_Model_books_108
  refine zv_iload X d_Model_books_108 7 rfl ?_
  refine zv_goto X (tgt := 115) d_Model_books_110 (by decide) ?_
  refine zv_sub X [0, 1, 2, 3, 4, 5, 6] rfl ?_
  exact v_Model_books_115 X hN v1 v2 v3 v4 v5 v7 v8 K24 D hK24
set_option maxRecDepth 100000 in
theorem v_Model_books_76 {Γ : Gt} {Z : Zt} (X : Cx Γ Z prog_10_method_45_code R_Model 9 (some .int) rm_Model_books) (hN : 166 ≤ Z.2.2.2.1) (v1 v2 v3 v4 v5 v6 v7 s0 s1 : Int)  (K24 : Int → Int → Int → Option (Int)) (D : Mm) (hK24 : ∀ (v5 v6 v7 : Int), Zv Γ Z 9 (QfP Γ Z 1 D) (K24 v5 v6 v7) D 46 [(0, zr Z 144), (1, zi v1), (2, zi v2), (3, zi v3), (4, zi v4), (5, zi v5), (6, zi v6), (7, zi v7)] []) : Zv Γ Z 9 (QfP Γ Z 1 D) (f_Model_books_76 v1 v2 v3 v4 v5 v6 v7 s0 s1 K24 D) D 76 [(0, zr Z 144), (1, zi v1), (2, zi v2), (3, zi v3), (4, zi v4), (5, zi v5), (6, zi v6), (7, zi v7)] [zi s0, zi s1] := by
  unfold f_Model_books_76
  refine zv_cSP1 X (av := [zi s1, zi s0]) (st := []) (c_Model_figure Γ.2.1 X.2.2.2.2.2.2.2.1 hN s1 s0 D) mk_Model_218 ⟨rfl, rfl, Nat.le_of_ble_eq_true rfl, Nat.le_of_ble_eq_true rfl⟩ rfl (Nat.le_of_ble_eq_true rfl) d_Model_books_76 (fun r1 hr1 => ?_)
  refine zv_istore X (lv2 := [(8, zi r1), (0, zr Z 144), (1, zi v1), (2, zi v2), (3, zi v3), (4, zi v4), (5, zi v5), (6, zi v6), (7, zi v7)]) d_Model_books_79 (by decide) rfl ?_
  refine zv_iload X d_Model_books_81 6 rfl ?_
  refine zv_if_eq X (y := 0) (tgt := 108) d_Model_books_83 (by decide) (fun h83 => ?_) (fun h83 => ?_)
  · refine zv_sub X [1, 2, 3, 4, 5, 6, 8, 0] rfl ?_
    exact v_Model_books_108 X hN v1 v2 v3 v4 v5 v7 r1 K24 D hK24
  · refine zv_iload X d_Model_books_86 5 rfl ?_
    refine zv_if_eq X (y := 0) (tgt := 101) d_Model_books_88 (by decide) (fun h88 => ?_) (fun h88 => ?_)
    · refine zv_iload X d_Model_books_101 0 rfl ?_
      refine zv_iload X d_Model_books_103 7 rfl ?_
      refine zv_icmp_ge X (tgt := 113) d_Model_books_105 (by decide) (fun h105 => ?_) (fun h105 => ?_)
      · refine zv_sub X [1, 2, 3, 4, 5, 6, 7, 8] rfl ?_
        exact v_Model_books_113 X hN v1 v2 v3 v4 v5 v6 v7 K24 D hK24
      · refine zv_sub X [1, 2, 3, 4, 5, 6, 8, 0] rfl ?_
        exact v_Model_books_108 X hN v1 v2 v3 v4 v5 v7 r1 K24 D hK24
    · refine zv_iload X d_Model_books_91 0 rfl ?_
      refine zv_iload X d_Model_books_93 7 rfl ?_
      refine zv_icmp_le X (tgt := 113) d_Model_books_95 (by decide) (fun h95 => ?_) (fun h95 => ?_)
      · refine zv_sub X [1, 2, 3, 4, 5, 6, 7, 8] rfl ?_
        exact v_Model_books_113 X hN v1 v2 v3 v4 v5 v6 v7 K24 D hK24
      · refine zv_goto X (tgt := 108) d_Model_books_98 (by decide) ?_
        refine zv_sub X [1, 2, 3, 4, 5, 6, 8, 0] rfl ?_
        exact v_Model_books_108 X hN v1 v2 v3 v4 v5 v7 r1 K24 D hK24
set_option maxRecDepth 100000 in
theorem v_Model_books_46 {Γ : Gt} {Z : Zt} (X : Cx Γ Z prog_10_method_45_code R_Model 9 (some .int) rm_Model_books) (hN : 166 ≤ Z.2.2.2.1) (v1 v2 v3 v4 : Int)   (D : Mm)  : ∀ (n : Nat) (v5 v6 v7 : Int) , Zv Γ Z 9 (QfP Γ Z 1 D) (f_Model_books_46 v1 v2 v3 v4 D n v5 v6 v7) D 46 [(0, zr Z 144), (1, zi v1), (2, zi v2), (3, zi v3), (4, zi v4), (5, zi v5), (6, zi v6), (7, zi v7)] [] := by
  intro n
  induction n with
  | zero =>
    intro v5 v6 v7
    exact zv_none
  | succ n ih =>
    intro v5 v6 v7
    rw [f_Model_books_46]
    refine zv_iload X d_Model_books_46 7 rfl ?_
    refine zv_sipush X d_Model_books_48 (by decide +kernel) ?_
    refine zv_icmp_ge X (tgt := 126) d_Model_books_51 (by decide) (fun h51 => ?_) (fun h51 => ?_)
    · refine zv_iload_n X d_Model_books_126 rfl 3 rfl ?_
      refine zv_if_ge X (y := 0) (tgt := 135) d_Model_books_127 (by decide) (fun h127 => ?_) (fun h127 => ?_)
      · refine zv_iload X d_Model_books_135 6 rfl ?_
        exact zv_iretP X d_Model_books_137
      · refine zv_iload X d_Model_books_130 5 rfl ?_
        refine zv_goto X (tgt := 137) d_Model_books_132 (by decide) ?_
        exact zv_iretP X d_Model_books_137
    · refine zv_aload_n X d_Model_books_54 rfl 0 rfl ?_
      refine zv_iload X d_Model_books_55 7 rfl ?_
      refine zv_iload_n X d_Model_books_57 rfl 1 rfl ?_
      refine zv_iload_n X d_Model_books_58 rfl 2 rfl ?_
      refine zv_cVP1 X (av := [zi v7, zi v1, zi v2]) (st := []) (ci := 7) (c_Model_fits Γ.2.1 X.2.2.2.2.2.2.2.1 hN v7 v1 v2 D) mk_Model_215 rfl (za_144 hN) ⟨rfl, rfl, Nat.le_of_ble_eq_true rfl, Nat.le_of_ble_eq_true rfl⟩ rfl (Nat.le_of_ble_eq_true rfl) d_Model_books_59 (fun r1 hr1 => ?_)
      refine zv_if_eq X (y := 0) (tgt := 120) d_Model_books_62 (by decide) (fun h62 => ?_) (fun h62 => ?_)
      · exact v_Model_books_120 X hN v1 v2 v3 v4 v5 v6 v7 (f_Model_books_46 v1 v2 v3 v4 D n) D ih
      · refine zv_iload X d_Model_books_65 7 rfl ?_
        refine zv_iload_n X d_Model_books_67 rfl 3 rfl ?_
        refine zv_if_ge X (y := 0) (tgt := 75) d_Model_books_68 (by decide) (fun h68 => ?_) (fun h68 => ?_)
        · refine zv_iload_n X d_Model_books_75 rfl 3 rfl ?_
          exact v_Model_books_76 X hN v1 v2 v3 v4 v5 v6 v7 v3 v7 (f_Model_books_46 v1 v2 v3 v4 D n) D ih
        · refine zv_iconst X d_Model_books_71 ?_
          refine zv_goto X (tgt := 76) d_Model_books_72 (by decide) ?_
          exact v_Model_books_76 X hN v1 v2 v3 v4 v5 v6 v7 0 v7 (f_Model_books_46 v1 v2 v3 v4 D n) D ih
set_option maxRecDepth 100000 in
theorem c_Model_books (l : Launch) {Z : Zt} (hZ : Zok Z) (hN : 166 ≤ Z.2.2.2.1) (v1 v2 v3 v4 : Int)  (D : Mm) : CtP l Z y_Model_books prog_10_method_45_code 9 (some .int) rm_Model_books 1 [zr Z 144, zi v1, zi v2, zi v3, zi v4] D (f_Model_books v1 v2 v3 v4 D) := by
  refine zm_P (lv := [(0, zr Z 144), (1, zi v1), (2, zi v2), (3, zi v3), (4, zi v4)]) hZ (by decide +kernel) rfl (Nat.le_of_ble_eq_true rfl) rfl (fun Γ hl X => ?_)
  subst hl
  unfold f_Model_books
  refine zv_aload_n X d_Model_books_0 rfl 0 rfl ?_
  refine zv_iload_n X d_Model_books_1 rfl 1 rfl ?_
  refine zv_cVP1 X (av := [zi v1]) (st := []) (ci := 7) (c_Model_isSort Γ.2.1 X.2.2.2.2.2.2.2.1 hN v1 D) mk_Model_144 rfl (za_144 hN) ⟨rfl, rfl, Nat.le_of_ble_eq_true rfl, Nat.le_of_ble_eq_true rfl⟩ rfl (Nat.le_of_ble_eq_true rfl) d_Model_books_2 (fun r1 hr1 => ?_)
  refine zv_if_eq X (y := 0) (tgt := 34) d_Model_books_5 (by decide) (fun h5 => ?_) (fun h5 => ?_)
  · refine zv_iconst X d_Model_books_34 ?_
    exact zv_iretP X d_Model_books_35
  · refine zv_iload_n X d_Model_books_8 rfl 2 rfl ?_
    refine zv_i2l X d_Model_books_9 ?_
    refine zv_lconst X (x := 0) d_Model_books_10 (by decide +kernel) ?_
    refine zv_ldc2 X 99 kc_Model_210 (by decide +kernel) d_Model_books_11 ?_
    refine zv_cSP1 X (av := [zl (wI v2), zl 0, zl 99]) (st := []) (c_Model_in Γ.2.1 X.2.2.2.2.2.2.2.1 hN (wI v2) 0 99 D) mk_Model_82 ⟨rfl, rfl, Nat.le_of_ble_eq_true rfl, Nat.le_of_ble_eq_true rfl⟩ rfl (Nat.le_of_ble_eq_true rfl) d_Model_books_14 (fun r2 hr2 => ?_)
    refine zv_if_eq X (y := 0) (tgt := 34) d_Model_books_17 (by decide) (fun h17 => ?_) (fun h17 => ?_)
    · refine zv_iconst X d_Model_books_34 ?_
      exact zv_iretP X d_Model_books_35
    · refine zv_iload_n X d_Model_books_20 rfl 3 rfl ?_
      refine zv_i2l X d_Model_books_21 ?_
      refine zv_ldc2 X (-1) kc_Model_147 (by decide +kernel) d_Model_books_22 ?_
      refine zv_ldc2 X 3 kc_Model_103 (by decide +kernel) d_Model_books_25 ?_
      refine zv_cSP1 X (av := [zl (wI v3), zl (-1), zl 3]) (st := []) (c_Model_in Γ.2.1 X.2.2.2.2.2.2.2.1 hN (wI v3) (-1) 3 D) mk_Model_82 ⟨rfl, rfl, Nat.le_of_ble_eq_true rfl, Nat.le_of_ble_eq_true rfl⟩ rfl (Nat.le_of_ble_eq_true rfl) d_Model_books_28 (fun r3 hr3 => ?_)
      refine zv_if_ne X (y := 0) (tgt := 36) d_Model_books_31 (by decide) (fun h31 => ?_) (fun h31 => ?_)
      · refine zv_iconst X d_Model_books_36 ?_
        refine zv_istore X (lv2 := [(5, zi 0), (0, zr Z 144), (1, zi v1), (2, zi v2), (3, zi v3), (4, zi v4)]) d_Model_books_37 (by decide) rfl ?_
        refine zv_bipush X d_Model_books_39 (by decide +kernel) ?_
        refine zv_istore X (lv2 := [(6, zi (-4)), (5, zi 0), (0, zr Z 144), (1, zi v1), (2, zi v2), (3, zi v3), (4, zi v4)]) d_Model_books_41 (by decide) rfl ?_
        refine zv_iconst X d_Model_books_43 ?_
        refine zv_istore X (lv2 := [(7, zi 0), (6, zi (-4)), (5, zi 0), (0, zr Z 144), (1, zi v1), (2, zi v2), (3, zi v3), (4, zi v4)]) d_Model_books_44 (by decide) rfl ?_
        refine zv_sub X [3, 4, 5, 6, 7, 2, 1, 0] rfl ?_
        exact v_Model_books_46 X hN v1 v2 v3 v4 D zF 0 (-4) 0
      · refine zv_iconst X d_Model_books_34 ?_
        exact zv_iretP X d_Model_books_35
set_option maxRecDepth 100000 in
theorem v_Model_groundOf_96 {Γ : Gt} {Z : Zt} (X : Cx Γ Z prog_10_method_46_code R_Model 8 (some .int) rm_Model_groundOf) (hN : 166 ≤ Z.2.2.2.1) (v1 v2 v3 v4 v5 v6 : Int)  (K4 : Int → Int → Option (Int)) (D : Mm) (hK4 : ∀ (v5 v6 : Int), Zv Γ Z 8 (QfP Γ Z 1 D) (K4 v5 v6) D 7 [(0, zr Z 144), (1, zi v1), (2, zi v2), (3, zi v3), (4, zi v4), (5, zi v5), (6, zi v6)] []) : Zv Γ Z 8 (QfP Γ Z 1 D) (f_Model_groundOf_96 v1 v2 v3 v4 v5 v6 K4 D) D 96 [(0, zr Z 144), (1, zi v1), (2, zi v2), (3, zi v3), (4, zi v4), (5, zi v5), (6, zi v6)] [] := by
  unfold f_Model_groundOf_96
  refine zv_iinc X (lv2 := [(6, zi (v6 + 1)), (0, zr Z 144), (1, zi v1), (2, zi v2), (3, zi v3), (4, zi v4), (5, zi v5)]) d_Model_groundOf_96 6 rfl (by decide) rfl ?_
  refine zv_goto X (tgt := 7) d_Model_groundOf_99 (by decide) ?_
  refine zv_sub X [1, 2, 3, 4, 5, 6, 0] rfl ?_
  exact hK4 v5 (v6 + 1)
set_option maxRecDepth 100000 in
theorem v_Model_groundOf_94 {Γ : Gt} {Z : Zt} (X : Cx Γ Z prog_10_method_46_code R_Model 8 (some .int) rm_Model_groundOf) (hN : 166 ≤ Z.2.2.2.1) (v1 v2 v3 v4 v6 s0 : Int)  (K4 : Int → Int → Option (Int)) (D : Mm) (hK4 : ∀ (v5 v6 : Int), Zv Γ Z 8 (QfP Γ Z 1 D) (K4 v5 v6) D 7 [(0, zr Z 144), (1, zi v1), (2, zi v2), (3, zi v3), (4, zi v4), (5, zi v5), (6, zi v6)] []) : Zv Γ Z 8 (QfP Γ Z 1 D) (f_Model_groundOf_94 v1 v2 v3 v4 v6 s0 K4 D) D 94 [(0, zr Z 144), (1, zi v1), (2, zi v2), (3, zi v3), (4, zi v4), (6, zi v6)] [zi s0] := by
  unfold f_Model_groundOf_94
  refine zv_istore X (lv2 := [(5, zi s0), (0, zr Z 144), (1, zi v1), (2, zi v2), (3, zi v3), (4, zi v4), (6, zi v6)]) d_Model_groundOf_94 (by decide) rfl ?_
  refine zv_sub X [1, 2, 3, 4, 5, 0, 6] rfl ?_
  exact v_Model_groundOf_96 X hN v1 v2 v3 v4 s0 v6 K4 D hK4
set_option maxRecDepth 100000 in
theorem v_Model_groundOf_92 {Γ : Gt} {Z : Zt} (X : Cx Γ Z prog_10_method_46_code R_Model 8 (some .int) rm_Model_groundOf) (hN : 166 ≤ Z.2.2.2.1) (v1 v2 v3 v4 v5 v6 : Int)  (K4 : Int → Int → Option (Int)) (D : Mm) (hK4 : ∀ (v5 v6 : Int), Zv Γ Z 8 (QfP Γ Z 1 D) (K4 v5 v6) D 7 [(0, zr Z 144), (1, zi v1), (2, zi v2), (3, zi v3), (4, zi v4), (5, zi v5), (6, zi v6)] []) : Zv Γ Z 8 (QfP Γ Z 1 D) (f_Model_groundOf_92 v1 v2 v3 v4 v5 v6 K4 D) D 92 [(0, zr Z 144), (1, zi v1), (2, zi v2), (3, zi v3), (4, zi v4), (5, zi v5), (6, zi v6)] [] := by
  unfold f_Model_groundOf_92
  refine zv_iload X d_Model_groundOf_92 5 rfl ?_
  refine zv_sub X [0, 1, 2, 3, 4, 6] rfl ?_
  exact v_Model_groundOf_94 X hN v1 v2 v3 v4 v6 v5 K4 D hK4
set_option maxRecDepth 100000 in
theorem v_Model_groundOf_87 {Γ : Gt} {Z : Zt} (X : Cx Γ Z prog_10_method_46_code R_Model 8 (some .int) rm_Model_groundOf) (hN : 166 ≤ Z.2.2.2.1) (v1 v2 v3 v4 v6 v7 : Int)  (K4 : Int → Int → Option (Int)) (D : Mm) (hK4 : ∀ (v5 v6 : Int), Zv Γ Z 8 (QfP Γ Z 1 D) (K4 v5 v6) D 7 [(0, zr Z 144), (1, zi v1), (2, zi v2), (3, zi v3), (4, zi v4), (5, zi v5), (6, zi v6)] []) : Zv Γ Z 8 (QfP Γ Z 1 D) (f_Model_groundOf_87 v1 v2 v3 v4 v6 v7 K4 D) D 87 [(0, zr Z 144), (1, zi v1), (2, zi v2), (3, zi v3), (4, zi v4), (6, zi v6), (7, zi v7)] [] := by
  unfold f_Model_groundOf_87
  refine zv_iload X d_Model_groundOf_87 6 rfl ?_
  refine zv_goto X (tgt := 94) d_Model_groundOf_89 (by decide) ?_
  refine zv_sub X [0, 1, 2, 3, 4, 5] rfl ?_
  exact v_Model_groundOf_94 X hN v1 v2 v3 v4 v6 v7 K4 D hK4
set_option maxRecDepth 100000 in
theorem v_Model_groundOf_58 {Γ : Gt} {Z : Zt} (X : Cx Γ Z prog_10_method_46_code R_Model 8 (some .int) rm_Model_groundOf) (hN : 166 ≤ Z.2.2.2.1) (v1 v2 v3 v4 v5 v6 s0 : Int)  (K4 : Int → Int → Option (Int)) (D : Mm) (hK4 : ∀ (v5 v6 : Int), Zv Γ Z 8 (QfP Γ Z 1 D) (K4 v5 v6) D 7 [(0, zr Z 144), (1, zi v1), (2, zi v2), (3, zi v3), (4, zi v4), (5, zi v5), (6, zi v6)] []) : Zv Γ Z 8 (QfP Γ Z 1 D) (f_Model_groundOf_58 v1 v2 v3 v4 v5 v6 s0 K4 D) D 58 [(0, zr Z 144), (1, zi v1), (2, zi v2), (3, zi v3), (4, zi v4), (5, zi v5), (6, zi v6)] [zi s0] := by
  unfold f_Model_groundOf_58
  refine zv_istore X (lv2 := [(7, zi s0), (0, zr Z 144), (1, zi v1), (2, zi v2), (3, zi v3), (4, zi v4), (5, zi v5), (6, zi v6)]) d_Model_groundOf_58 (by decide) rfl ?_
  refine zv_iload X d_Model_groundOf_60 6 rfl ?_
  refine zv_if_lt X (y := 0) (tgt := 87) d_Model_groundOf_62 (by decide) (fun h62 => ?_) (fun h62 => ?_)
  · refine zv_sub X [1, 2, 3, 4, 5, 7, 0] rfl ?_
    exact v_Model_groundOf_87 X hN v1 v2 v3 v4 v6 s0 K4 D hK4
  · refine zv_iload X d_Model_groundOf_65 5 rfl ?_
    refine zv_if_eq X (y := 0) (tgt := 80) d_Model_groundOf_67 (by decide) (fun h67 => ?_) (fun h67 => ?_)
    · refine zv_iload X d_Model_groundOf_80 0 rfl ?_
      refine zv_iload X d_Model_groundOf_82 6 rfl ?_
      refine zv_icmp_ge X (tgt := 92) d_Model_groundOf_84 (by decide) (fun h84 => ?_) (fun h84 => ?_)
      · refine zv_sub X [1, 2, 3, 4, 5, 6, 7] rfl ?_
        exact v_Model_groundOf_92 X hN v1 v2 v3 v4 v5 v6 K4 D hK4
      · refine zv_sub X [1, 2, 3, 4, 5, 7, 0] rfl ?_
        exact v_Model_groundOf_87 X hN v1 v2 v3 v4 v6 s0 K4 D hK4
    · refine zv_iload X d_Model_groundOf_70 0 rfl ?_
      refine zv_iload X d_Model_groundOf_72 6 rfl ?_
      refine zv_icmp_le X (tgt := 92) d_Model_groundOf_74 (by decide) (fun h74 => ?_) (fun h74 => ?_)
      · refine zv_sub X [1, 2, 3, 4, 5, 6, 7] rfl ?_
        exact v_Model_groundOf_92 X hN v1 v2 v3 v4 v5 v6 K4 D hK4
      · refine zv_goto X (tgt := 87) d_Model_groundOf_77 (by decide) ?_
        refine zv_sub X [1, 2, 3, 4, 5, 7, 0] rfl ?_
        exact v_Model_groundOf_87 X hN v1 v2 v3 v4 v6 s0 K4 D hK4
set_option maxRecDepth 100000 in
theorem v_Model_groundOf_7 {Γ : Gt} {Z : Zt} (X : Cx Γ Z prog_10_method_46_code R_Model 8 (some .int) rm_Model_groundOf) (hN : 166 ≤ Z.2.2.2.1) (v1 v2 v3 v4 : Int)   (D : Mm)  : ∀ (n : Nat) (v5 v6 : Int) , Zv Γ Z 8 (QfP Γ Z 1 D) (f_Model_groundOf_7 v1 v2 v3 v4 D n v5 v6) D 7 [(0, zr Z 144), (1, zi v1), (2, zi v2), (3, zi v3), (4, zi v4), (5, zi v5), (6, zi v6)] [] := by
  intro n
  induction n with
  | zero =>
    intro v5 v6
    exact zv_none
  | succ n ih =>
    intro v5 v6
    rw [f_Model_groundOf_7]
    refine zv_iload X d_Model_groundOf_7 6 rfl ?_
    refine zv_sipush X d_Model_groundOf_9 (by decide +kernel) ?_
    refine zv_icmp_ge X (tgt := 102) d_Model_groundOf_12 (by decide) (fun h12 => ?_) (fun h12 => ?_)
    · refine zv_iload X d_Model_groundOf_102 5 rfl ?_
      exact zv_iretP X d_Model_groundOf_104
    · refine zv_aload_n X d_Model_groundOf_15 rfl 0 rfl ?_
      refine zv_iload X d_Model_groundOf_16 6 rfl ?_
      refine zv_iload_n X d_Model_groundOf_18 rfl 2 rfl ?_
      refine zv_iload_n X d_Model_groundOf_19 rfl 3 rfl ?_
      refine zv_cVP1 X (av := [zi v6, zi v2, zi v3]) (st := []) (ci := 7) (c_Model_fits Γ.2.1 X.2.2.2.2.2.2.2.1 hN v6 v2 v3 D) mk_Model_215 rfl (za_144 hN) ⟨rfl, rfl, Nat.le_of_ble_eq_true rfl, Nat.le_of_ble_eq_true rfl⟩ rfl (Nat.le_of_ble_eq_true rfl) d_Model_groundOf_20 (fun r1 hr1 => ?_)
      refine zv_if_eq X (y := 0) (tgt := 96) d_Model_groundOf_23 (by decide) (fun h23 => ?_) (fun h23 => ?_)
      · exact v_Model_groundOf_96 X hN v1 v2 v3 v4 v5 v6 (f_Model_groundOf_7 v1 v2 v3 v4 D n) D ih
      · refine zv_aload_n X d_Model_groundOf_26 rfl 0 rfl ?_
        refine zv_get X (ci := 7) rfl i_Model (za_144 hN) 15 (by decide) lk_Model_52 rfl rfl d_Model_groundOf_27 ?_
        refine zv_bipush X d_Model_groundOf_30 (by decide +kernel) ?_
        refine zv_iload_n X d_Model_groundOf_32 rfl 1 rfl ?_
        refine zv_imul X d_Model_groundOf_33 ?_
        refine zv_iload_n X d_Model_groundOf_34 rfl 2 rfl ?_
        refine zv_iadd X d_Model_groundOf_35 ?_
        refine zv_iald X (za_159 hN) d_Model_groundOf_36 (fun ha36 hb36 => ?_)
        refine zv_aload_n X d_Model_groundOf_37 rfl 0 rfl ?_
        refine zv_iload X d_Model_groundOf_38 6 rfl ?_
        refine zv_iload_n X d_Model_groundOf_40 rfl 1 rfl ?_
        refine zv_cVP1 X (av := [zi v6, zi v1]) (st := [zi (D 159 ((6 * v1) + v2))]) (ci := 7) (c_Model_laidBy Γ.2.1 X.2.2.2.2.2.2.2.1 hN v6 v1 D) mk_Model_212 rfl (za_144 hN) ⟨rfl, rfl, Nat.le_of_ble_eq_true rfl, Nat.le_of_ble_eq_true rfl⟩ rfl (Nat.le_of_ble_eq_true rfl) d_Model_groundOf_41 (fun r2 hr2 => ?_)
        refine zv_isub X d_Model_groundOf_44 ?_
        refine zv_istore X (lv2 := [(7, zi ((D 159 ((6 * v1) + v2)) - r2)), (0, zr Z 144), (1, zi v1), (2, zi v2), (3, zi v3), (4, zi v4), (5, zi v5), (6, zi v6)]) d_Model_groundOf_45 (by decide) rfl ?_
        refine zv_iload X d_Model_groundOf_47 0 rfl ?_
        refine zv_if_ge X (y := 0) (tgt := 56) d_Model_groundOf_49 (by decide) (fun h49 => ?_) (fun h49 => ?_)
        · refine zv_iload X d_Model_groundOf_56 0 rfl ?_
          refine zv_sub X [1, 2, 3, 4, 5, 6, 7] rfl ?_
          exact v_Model_groundOf_58 X hN v1 v2 v3 v4 v5 v6 ((D 159 ((6 * v1) + v2)) - r2) (f_Model_groundOf_7 v1 v2 v3 v4 D n) D ih
        · refine zv_iconst X d_Model_groundOf_52 ?_
          refine zv_goto X (tgt := 58) d_Model_groundOf_53 (by decide) ?_
          refine zv_sub X [1, 2, 3, 4, 5, 6, 7] rfl ?_
          exact v_Model_groundOf_58 X hN v1 v2 v3 v4 v5 v6 0 (f_Model_groundOf_7 v1 v2 v3 v4 D n) D ih
set_option maxRecDepth 100000 in
theorem c_Model_groundOf (l : Launch) {Z : Zt} (hZ : Zok Z) (hN : 166 ≤ Z.2.2.2.1) (v1 v2 v3 v4 : Int)  (D : Mm) : CtP l Z y_Model_groundOf prog_10_method_46_code 8 (some .int) rm_Model_groundOf 1 [zr Z 144, zi v1, zi v2, zi v3, zi v4] D (f_Model_groundOf v1 v2 v3 v4 D) := by
  refine zm_P (lv := [(0, zr Z 144), (1, zi v1), (2, zi v2), (3, zi v3), (4, zi v4)]) hZ (by decide +kernel) rfl (Nat.le_of_ble_eq_true rfl) rfl (fun Γ hl X => ?_)
  subst hl
  unfold f_Model_groundOf
  refine zv_bipush X d_Model_groundOf_0 (by decide +kernel) ?_
  refine zv_istore X (lv2 := [(5, zi (-4)), (0, zr Z 144), (1, zi v1), (2, zi v2), (3, zi v3), (4, zi v4)]) d_Model_groundOf_2 (by decide) rfl ?_
  refine zv_iconst X d_Model_groundOf_4 ?_
  refine zv_istore X (lv2 := [(6, zi 0), (5, zi (-4)), (0, zr Z 144), (1, zi v1), (2, zi v2), (3, zi v3), (4, zi v4)]) d_Model_groundOf_5 (by decide) rfl ?_
  refine zv_sub X [2, 3, 4, 5, 6, 1, 0] rfl ?_
  exact v_Model_groundOf_7 X hN v1 v2 v3 v4 D zF (-4) 0
set_option maxRecDepth 100000 in
theorem c_Model_ground (l : Launch) {Z : Zt} (hZ : Zok Z) (hN : 166 ≤ Z.2.2.2.1) (v1 v2 v3 v4 : Int)  (D : Mm) : CtP l Z y_Model_ground prog_10_method_47_code 5 (some .int) rm_Model_ground 1 [zr Z 144, zi v1, zi v2, zi v3, zi v4] D (f_Model_ground v1 v2 v3 v4 D) := by
  refine zm_P (lv := [(0, zr Z 144), (1, zi v1), (2, zi v2), (3, zi v3), (4, zi v4)]) hZ (by decide +kernel) rfl (Nat.le_of_ble_eq_true rfl) rfl (fun Γ hl X => ?_)
  subst hl
  unfold f_Model_ground
  refine zv_aload_n X d_Model_ground_0 rfl 0 rfl ?_
  refine zv_iload_n X d_Model_ground_1 rfl 1 rfl ?_
  refine zv_cVP1 X (av := [zi v1]) (st := []) (ci := 7) (c_Model_isFace Γ.2.1 X.2.2.2.2.2.2.2.1 hN v1 D) mk_Model_131 rfl (za_144 hN) ⟨rfl, rfl, Nat.le_of_ble_eq_true rfl, Nat.le_of_ble_eq_true rfl⟩ rfl (Nat.le_of_ble_eq_true rfl) d_Model_ground_2 (fun r1 hr1 => ?_)
  refine zv_if_eq X (y := 0) (tgt := 40) d_Model_ground_5 (by decide) (fun h5 => ?_) (fun h5 => ?_)
  · refine zv_iconst X d_Model_ground_40 ?_
    exact zv_iretP X d_Model_ground_41
  · refine zv_aload_n X d_Model_ground_8 rfl 0 rfl ?_
    refine zv_iload_n X d_Model_ground_9 rfl 2 rfl ?_
    refine zv_cVP1 X (av := [zi v2]) (st := []) (ci := 7) (c_Model_isSort Γ.2.1 X.2.2.2.2.2.2.2.1 hN v2 D) mk_Model_144 rfl (za_144 hN) ⟨rfl, rfl, Nat.le_of_ble_eq_true rfl, Nat.le_of_ble_eq_true rfl⟩ rfl (Nat.le_of_ble_eq_true rfl) d_Model_ground_10 (fun r2 hr2 => ?_)
    refine zv_if_eq X (y := 0) (tgt := 40) d_Model_ground_13 (by decide) (fun h13 => ?_) (fun h13 => ?_)
    · refine zv_iconst X d_Model_ground_40 ?_
      exact zv_iretP X d_Model_ground_41
    · refine zv_iload_n X d_Model_ground_16 rfl 3 rfl ?_
      refine zv_i2l X d_Model_ground_17 ?_
      refine zv_lconst X (x := 0) d_Model_ground_18 (by decide +kernel) ?_
      refine zv_ldc2 X 99 kc_Model_210 (by decide +kernel) d_Model_ground_19 ?_
      refine zv_cSP1 X (av := [zl (wI v3), zl 0, zl 99]) (st := []) (c_Model_in Γ.2.1 X.2.2.2.2.2.2.2.1 hN (wI v3) 0 99 D) mk_Model_82 ⟨rfl, rfl, Nat.le_of_ble_eq_true rfl, Nat.le_of_ble_eq_true rfl⟩ rfl (Nat.le_of_ble_eq_true rfl) d_Model_ground_22 (fun r3 hr3 => ?_)
      refine zv_if_eq X (y := 0) (tgt := 40) d_Model_ground_25 (by decide) (fun h25 => ?_) (fun h25 => ?_)
      · refine zv_iconst X d_Model_ground_40 ?_
        exact zv_iretP X d_Model_ground_41
      · refine zv_aload_n X d_Model_ground_28 rfl 0 rfl ?_
        refine zv_iload_n X d_Model_ground_29 rfl 1 rfl ?_
        refine zv_iload_n X d_Model_ground_30 rfl 2 rfl ?_
        refine zv_iload_n X d_Model_ground_31 rfl 3 rfl ?_
        refine zv_iload X d_Model_ground_32 4 rfl ?_
        refine zv_cVP1 X (av := [zi v1, zi v2, zi v3, zi v4]) (st := []) (ci := 7) (c_Model_groundOf Γ.2.1 X.2.2.2.2.2.2.2.1 hN v1 v2 v3 v4 D) mk_Model_221 rfl (za_144 hN) ⟨rfl, rfl, Nat.le_of_ble_eq_true rfl, Nat.le_of_ble_eq_true rfl⟩ rfl (Nat.le_of_ble_eq_true rfl) d_Model_ground_34 (fun r4 hr4 => ?_)
        refine zv_goto X (tgt := 41) d_Model_ground_37 (by decide) ?_
        exact zv_iretP X d_Model_ground_41
set_option maxRecDepth 100000 in
theorem v_Model_sureOf_37 {Γ : Gt} {Z : Zt} (X : Cx Γ Z prog_10_method_48_code R_Model 5 (some .int) rm_Model_sureOf) (hN : 166 ≤ Z.2.2.2.1) (v1 v2 v4 s0 s1 : Int)  (K4 : Int → Int → Option (Int)) (D : Mm) (hK4 : ∀ (v3 v4 : Int), Zv Γ Z 5 (QfP Γ Z 1 D) (K4 v3 v4) D 5 [(0, zr Z 144), (1, zi v1), (2, zi v2), (3, zi v3), (4, zi v4)] []) : Zv Γ Z 5 (QfP Γ Z 1 D) (f_Model_sureOf_37 v1 v2 v4 s0 s1 K4 D) D 37 [(0, zr Z 144), (1, zi v1), (2, zi v2), (4, zi v4)] [zi s0, zi s1] := by
  unfold f_Model_sureOf_37
  refine zv_ior X d_Model_sureOf_37 ?_
  refine zv_istore_n X (lv2 := [(3, zi (jor s1 s0)), (0, zr Z 144), (1, zi v1), (2, zi v2), (4, zi v4)]) d_Model_sureOf_38 rfl (by decide) rfl ?_
  refine zv_iinc X (lv2 := [(4, zi (v4 + 1)), (3, zi (jor s1 s0)), (0, zr Z 144), (1, zi v1), (2, zi v2)]) d_Model_sureOf_39 4 rfl (by decide) rfl ?_
  refine zv_goto X (tgt := 5) d_Model_sureOf_42 (by decide) ?_
  refine zv_sub X [2, 3, 4, 1, 0] rfl ?_
  exact hK4 (jor s1 s0) (v4 + 1)
set_option maxRecDepth 100000 in
theorem v_Model_sureOf_5 {Γ : Gt} {Z : Zt} (X : Cx Γ Z prog_10_method_48_code R_Model 5 (some .int) rm_Model_sureOf) (hN : 166 ≤ Z.2.2.2.1) (v1 v2 : Int)   (D : Mm)  : ∀ (n : Nat) (v3 v4 : Int) , Zv Γ Z 5 (QfP Γ Z 1 D) (f_Model_sureOf_5 v1 v2 D n v3 v4) D 5 [(0, zr Z 144), (1, zi v1), (2, zi v2), (3, zi v3), (4, zi v4)] [] := by
  intro n
  induction n with
  | zero =>
    intro v3 v4
    exact zv_none
  | succ n ih =>
    intro v3 v4
    rw [f_Model_sureOf_5]
    refine zv_iload X d_Model_sureOf_5 4 rfl ?_
    refine zv_aload_n X d_Model_sureOf_7 rfl 0 rfl ?_
    refine zv_get X (ci := 7) rfl i_Model (za_144 hN) 2 (by decide) lk_Model_13 rfl rfl d_Model_sureOf_8 ?_
    refine zv_iconst X d_Model_sureOf_11 ?_
    refine zv_ialdK X (za_146 hN) (by decide) (by decide) d_Model_sureOf_12 ?_
    refine zv_icmp_ge X (tgt := 45) d_Model_sureOf_13 (by decide) (fun h13 => ?_) (fun h13 => ?_)
    · refine zv_iload_n X d_Model_sureOf_45 rfl 3 rfl ?_
      exact zv_iretP X d_Model_sureOf_46
    · refine zv_iload_n X d_Model_sureOf_16 rfl 3 rfl ?_
      refine zv_aload_n X d_Model_sureOf_17 rfl 0 rfl ?_
      refine zv_iload_n X d_Model_sureOf_18 rfl 1 rfl ?_
      refine zv_iload X d_Model_sureOf_19 4 rfl ?_
      refine zv_iload_n X d_Model_sureOf_21 rfl 2 rfl ?_
      refine zv_iconst X d_Model_sureOf_22 ?_
      refine zv_cVP1 X (av := [zi v1, zi v4, zi v2, zi 0]) (st := [zi v3]) (ci := 7) (c_Model_groundOf Γ.2.1 X.2.2.2.2.2.2.2.1 hN v1 v4 v2 0 D) mk_Model_221 rfl (za_144 hN) ⟨rfl, rfl, Nat.le_of_ble_eq_true rfl, Nat.le_of_ble_eq_true rfl⟩ rfl (Nat.le_of_ble_eq_true rfl) d_Model_sureOf_23 (fun r1 hr1 => ?_)
      refine zv_if_le X (y := 0) (tgt := 36) d_Model_sureOf_26 (by decide) (fun h26 => ?_) (fun h26 => ?_)
      · refine zv_iconst X d_Model_sureOf_36 ?_
        refine zv_sub X [0, 1, 2, 4] rfl ?_
        exact v_Model_sureOf_37 X hN v1 v2 v4 0 v3 (f_Model_sureOf_5 v1 v2 D n) D ih
      · refine zv_iconst X d_Model_sureOf_29 ?_
        refine zv_iload X d_Model_sureOf_30 4 rfl ?_
        refine zv_ishl X d_Model_sureOf_32 ?_
        refine zv_goto X (tgt := 37) d_Model_sureOf_33 (by decide) ?_
        refine zv_sub X [0, 1, 2, 4] rfl ?_
        exact v_Model_sureOf_37 X hN v1 v2 v4 (jshl 1 v4) v3 (f_Model_sureOf_5 v1 v2 D n) D ih
set_option maxRecDepth 100000 in
theorem c_Model_sureOf (l : Launch) {Z : Zt} (hZ : Zok Z) (hN : 166 ≤ Z.2.2.2.1) (v1 v2 : Int)  (D : Mm) : CtP l Z y_Model_sureOf prog_10_method_48_code 5 (some .int) rm_Model_sureOf 1 [zr Z 144, zi v1, zi v2] D (f_Model_sureOf v1 v2 D) := by
  refine zm_P (lv := [(0, zr Z 144), (1, zi v1), (2, zi v2)]) hZ (by decide +kernel) rfl (Nat.le_of_ble_eq_true rfl) rfl (fun Γ hl X => ?_)
  subst hl
  unfold f_Model_sureOf
  refine zv_iconst X d_Model_sureOf_0 ?_
  refine zv_istore_n X (lv2 := [(3, zi 0), (0, zr Z 144), (1, zi v1), (2, zi v2)]) d_Model_sureOf_1 rfl (by decide) rfl ?_
  refine zv_iconst X d_Model_sureOf_2 ?_
  refine zv_istore X (lv2 := [(4, zi 0), (3, zi 0), (0, zr Z 144), (1, zi v1), (2, zi v2)]) d_Model_sureOf_3 (by decide) rfl ?_
  refine zv_sub X [2, 3, 4, 1, 0] rfl ?_
  exact v_Model_sureOf_5 X hN v1 v2 D zF 0 0
set_option maxRecDepth 100000 in
theorem c_Model_sure (l : Launch) {Z : Zt} (hZ : Zok Z) (hN : 166 ≤ Z.2.2.2.1) (v1 v2 : Int)  (D : Mm) : CtP l Z y_Model_sure prog_10_method_49_code 3 (some .int) rm_Model_sure 1 [zr Z 144, zi v1, zi v2] D (f_Model_sure v1 v2 D) := by
  refine zm_P (lv := [(0, zr Z 144), (1, zi v1), (2, zi v2)]) hZ (by decide +kernel) rfl (Nat.le_of_ble_eq_true rfl) rfl (fun Γ hl X => ?_)
  subst hl
  unfold f_Model_sure
  refine zv_aload_n X d_Model_sure_0 rfl 0 rfl ?_
  refine zv_iload_n X d_Model_sure_1 rfl 1 rfl ?_
  refine zv_cVP1 X (av := [zi v1]) (st := []) (ci := 7) (c_Model_isFace Γ.2.1 X.2.2.2.2.2.2.2.1 hN v1 D) mk_Model_131 rfl (za_144 hN) ⟨rfl, rfl, Nat.le_of_ble_eq_true rfl, Nat.le_of_ble_eq_true rfl⟩ rfl (Nat.le_of_ble_eq_true rfl) d_Model_sure_2 (fun r1 hr1 => ?_)
  refine zv_if_eq X (y := 0) (tgt := 29) d_Model_sure_5 (by decide) (fun h5 => ?_) (fun h5 => ?_)
  · refine zv_iconst X d_Model_sure_29 ?_
    exact zv_iretP X d_Model_sure_30
  · refine zv_iload_n X d_Model_sure_8 rfl 2 rfl ?_
    refine zv_i2l X d_Model_sure_9 ?_
    refine zv_lconst X (x := 0) d_Model_sure_10 (by decide +kernel) ?_
    refine zv_ldc2 X 99 kc_Model_210 (by decide +kernel) d_Model_sure_11 ?_
    refine zv_cSP1 X (av := [zl (wI v2), zl 0, zl 99]) (st := []) (c_Model_in Γ.2.1 X.2.2.2.2.2.2.2.1 hN (wI v2) 0 99 D) mk_Model_82 ⟨rfl, rfl, Nat.le_of_ble_eq_true rfl, Nat.le_of_ble_eq_true rfl⟩ rfl (Nat.le_of_ble_eq_true rfl) d_Model_sure_14 (fun r2 hr2 => ?_)
    refine zv_if_eq X (y := 0) (tgt := 29) d_Model_sure_17 (by decide) (fun h17 => ?_) (fun h17 => ?_)
    · refine zv_iconst X d_Model_sure_29 ?_
      exact zv_iretP X d_Model_sure_30
    · refine zv_aload_n X d_Model_sure_20 rfl 0 rfl ?_
      refine zv_iload_n X d_Model_sure_21 rfl 1 rfl ?_
      refine zv_iload_n X d_Model_sure_22 rfl 2 rfl ?_
      refine zv_cVP1 X (av := [zi v1, zi v2]) (st := []) (ci := 7) (c_Model_sureOf Γ.2.1 X.2.2.2.2.2.2.2.1 hN v1 v2 D) mk_Model_225 rfl (za_144 hN) ⟨rfl, rfl, Nat.le_of_ble_eq_true rfl, Nat.le_of_ble_eq_true rfl⟩ rfl (Nat.le_of_ble_eq_true rfl) d_Model_sure_23 (fun r3 hr3 => ?_)
      refine zv_goto X (tgt := 30) d_Model_sure_26 (by decide) ?_
      exact zv_iretP X d_Model_sure_30

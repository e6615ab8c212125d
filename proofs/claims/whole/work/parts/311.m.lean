set_option maxRecDepth 100000 in
theorem v_Model_leave_204 {Γ : Gt} {Z : Zt} (X : Cx Γ Z prog_10_method_50_code R_Model 11 (some .int) rm_Model_leave) (hN : 166 ≤ Z.2.2.2.1) (v1 v2 v3 v4 v5 : Int)  (K20 : Int → Int → Int → Option (Int)) (D : Mm) (hK20 : ∀ (v3 v4 v5 : Int), Zv Γ Z 11 (QfP Γ Z 1 D) (K20 v3 v4 v5) D 33 [(0, zr Z 144), (1, zi v1), (2, zi v2), (3, zi v3), (4, zi v4), (5, zi v5)] []) : Zv Γ Z 11 (QfP Γ Z 1 D) (f_Model_leave_204 v1 v2 v3 v4 v5 K20 D) D 204 [(0, zr Z 144), (1, zi v1), (2, zi v2), (3, zi v3), (4, zi v4), (5, zi v5)] [] := by
  unfold f_Model_leave_204
  refine zv_iinc X (lv2 := [(5, zi (v5 + 1)), (0, zr Z 144), (1, zi v1), (2, zi v2), (3, zi v3), (4, zi v4)]) d_Model_leave_204 5 rfl (by decide) rfl ?_
  refine zv_goto X (tgt := 33) d_Model_leave_207 (by decide) ?_
  refine zv_sub X [1, 2, 3, 4, 5, 0] rfl ?_
  exact hK20 v3 v4 (v5 + 1)
set_option maxRecDepth 100000 in
theorem v_Model_leave_197 {Γ : Gt} {Z : Zt} (X : Cx Γ Z prog_10_method_50_code R_Model 11 (some .int) rm_Model_leave) (hN : 166 ≤ Z.2.2.2.1) (v1 v2 v5 v7 : Int)  (K20 : Int → Int → Int → Option (Int)) (D : Mm) (hK20 : ∀ (v3 v4 v5 : Int), Zv Γ Z 11 (QfP Γ Z 1 D) (K20 v3 v4 v5) D 33 [(0, zr Z 144), (1, zi v1), (2, zi v2), (3, zi v3), (4, zi v4), (5, zi v5)] []) : Zv Γ Z 11 (QfP Γ Z 1 D) (f_Model_leave_197 v1 v2 v5 v7 K20 D) D 197 [(0, zr Z 144), (1, zi v1), (2, zi v2), (5, zi v5), (7, zi v7)] [] := by
  unfold f_Model_leave_197
  refine zv_iload X d_Model_leave_197 3 rfl ?_
  refine zv_istore_n X (lv2 := [(3, zi v5), (0, zr Z 144), (1, zi v1), (2, zi v2), (5, zi v5), (7, zi v7)]) d_Model_leave_199 rfl (by decide) rfl ?_
  refine zv_iload X d_Model_leave_200 5 rfl ?_
  refine zv_istore X (lv2 := [(4, zi v7), (3, zi v5), (0, zr Z 144), (1, zi v1), (2, zi v2), (5, zi v5), (7, zi v7)]) d_Model_leave_202 (by decide) rfl ?_
  refine zv_sub X [2, 3, 4, 1, 0, 5] rfl ?_
  exact v_Model_leave_204 X hN v1 v2 v5 v7 v5 K20 D hK20
set_option maxRecDepth 100000 in
theorem v_Model_leave_160 {Γ : Gt} {Z : Zt} (X : Cx Γ Z prog_10_method_50_code R_Model 11 (some .int) rm_Model_leave) (hN : 166 ≤ Z.2.2.2.1) (v1 v2 v3 v4 v5 v6 v8 v9 v10 s0 s1 : Int)  (K65 : Int → Int → Option (Int)) (D : Mm) (hK65 : ∀ (v7 v10 : Int), Zv Γ Z 11 (QfP Γ Z 1 D) (K65 v7 v10) D 120 [(0, zr Z 144), (1, zi v1), (2, zi v2), (3, zi v3), (4, zi v4), (5, zi v5), (6, zi v6), (7, zi v7), (8, zi v8), (9, zi v9), (10, zi v10)] []) : Zv Γ Z 11 (QfP Γ Z 1 D) (f_Model_leave_160 v1 v2 v3 v4 v5 v6 v8 v9 v10 s0 s1 K65 D) D 160 [(0, zr Z 144), (1, zi v1), (2, zi v2), (3, zi v3), (4, zi v4), (5, zi v5), (6, zi v6), (8, zi v8), (9, zi v9), (10, zi v10)] [zi s0, zi s1] := by
  unfold f_Model_leave_160
  refine zv_iadd X d_Model_leave_160 ?_
  refine zv_istore X (lv2 := [(7, zi (s1 + s0)), (0, zr Z 144), (1, zi v1), (2, zi v2), (3, zi v3), (4, zi v4), (5, zi v5), (6, zi v6), (8, zi v8), (9, zi v9), (10, zi v10)]) d_Model_leave_161 (by decide) rfl ?_
  refine zv_iinc X (lv2 := [(10, zi (v10 + 1)), (7, zi (s1 + s0)), (0, zr Z 144), (1, zi v1), (2, zi v2), (3, zi v3), (4, zi v4), (5, zi v5), (6, zi v6), (8, zi v8), (9, zi v9)]) d_Model_leave_163 10 rfl (by decide) rfl ?_
  refine zv_goto X (tgt := 120) d_Model_leave_166 (by decide) ?_
  refine zv_sub X [2, 3, 4, 5, 6, 7, 8, 1, 9, 10, 0] rfl ?_
  exact hK65 (s1 + s0) (v10 + 1)
set_option maxRecDepth 100000 in
theorem v_Model_leave_120 {Γ : Gt} {Z : Zt} (X : Cx Γ Z prog_10_method_50_code R_Model 11 (some .int) rm_Model_leave) (hN : 166 ≤ Z.2.2.2.1) (v1 v2 v3 v4 v5 v6 v8 v9 : Int)  (K31 : Int → Int → Int → Int → Option (Int)) (D : Mm)  (hK31 : ∀ (v6 v7 v8 v9 : Int), Zv Γ Z 11 (QfP Γ Z 1 D) (K31 v6 v7 v8 v9) D 52 [(0, zr Z 144), (1, zi v1), (2, zi v2), (3, zi v3), (4, zi v4), (5, zi v5), (6, zi v6), (7, zi v7), (8, zi v8), (9, zi v9)] []): ∀ (n : Nat) (v7 v10 : Int) , Zv Γ Z 11 (QfP Γ Z 1 D) (f_Model_leave_120 v1 v2 v3 v4 v5 v6 v8 v9 K31 D n v7 v10) D 120 [(0, zr Z 144), (1, zi v1), (2, zi v2), (3, zi v3), (4, zi v4), (5, zi v5), (6, zi v6), (7, zi v7), (8, zi v8), (9, zi v9), (10, zi v10)] [] := by
  intro n
  induction n with
  | zero =>
    intro v7 v10
    exact zv_none
  | succ n ih =>
    intro v7 v10
    rw [f_Model_leave_120]
    refine zv_iload X d_Model_leave_120 10 rfl ?_
    refine zv_aload_n X d_Model_leave_122 rfl 0 rfl ?_
    refine zv_get X (ci := 7) rfl i_Model (za_144 hN) 2 (by decide) lk_Model_13 rfl rfl d_Model_leave_123 ?_
    refine zv_iconst X d_Model_leave_126 ?_
    refine zv_ialdK X (za_146 hN) (by decide) (by decide) d_Model_leave_127 ?_
    refine zv_icmp_ge X (tgt := 169) d_Model_leave_128 (by decide) (fun h128 => ?_) (fun h128 => ?_)
    · refine zv_iinc X (lv2 := [(9, zi (v9 + 1)), (0, zr Z 144), (1, zi v1), (2, zi v2), (3, zi v3), (4, zi v4), (5, zi v5), (6, zi v6), (7, zi v7), (8, zi v8), (10, zi v10)]) d_Model_leave_169 9 rfl (by decide) rfl ?_
      refine zv_goto X (tgt := 52) d_Model_leave_172 (by decide) ?_
      refine zv_sub X [1, 2, 3, 4, 5, 6, 7, 8, 9, 0] rfl ?_
      exact hK31 v6 v7 v8 (v9 + 1)
    · refine zv_iload X d_Model_leave_131 7 rfl ?_
      refine zv_iload X d_Model_leave_133 5 rfl ?_
      refine zv_iload X d_Model_leave_135 9 rfl ?_
      refine zv_cSP1 X (av := [zi v5, zi v9]) (st := [zi v7]) (c_Model_has Γ.2.1 X.2.2.2.2.2.2.2.1 hN v5 v9 D) mk_Model_136 ⟨rfl, rfl, Nat.le_of_ble_eq_true rfl, Nat.le_of_ble_eq_true rfl⟩ rfl (Nat.le_of_ble_eq_true rfl) d_Model_leave_137 (fun r1 hr1 => ?_)
      refine zv_if_eq X (y := 0) (tgt := 147) d_Model_leave_140 (by decide) (fun h140 => ?_) (fun h140 => ?_)
      · refine zv_aload_n X d_Model_leave_147 rfl 0 rfl ?_
        refine zv_get X (ci := 7) rfl i_Model (za_144 hN) 10 (by decide) lk_Model_37 rfl rfl d_Model_leave_148 ?_
        refine zv_bipush X d_Model_leave_151 (by decide +kernel) ?_
        refine zv_iload X d_Model_leave_153 9 rfl ?_
        refine zv_imul X d_Model_leave_155 ?_
        refine zv_iload X d_Model_leave_156 10 rfl ?_
        refine zv_iadd X d_Model_leave_158 ?_
        refine zv_iald X (za_154 hN) d_Model_leave_159 (fun ha159 hb159 => ?_)
        refine zv_sub X [0, 1, 2, 3, 4, 5, 6, 8, 9, 10] rfl ?_
        exact v_Model_leave_160 X hN v1 v2 v3 v4 v5 v6 v8 v9 v10 (D 154 ((6 * v9) + v10)) v7 (f_Model_leave_120 v1 v2 v3 v4 v5 v6 v8 v9 K31 D n) D ih
      · refine zv_iconst X d_Model_leave_143 ?_
        refine zv_goto X (tgt := 160) d_Model_leave_144 (by decide) ?_
        refine zv_sub X [0, 1, 2, 3, 4, 5, 6, 8, 9, 10] rfl ?_
        exact v_Model_leave_160 X hN v1 v2 v3 v4 v5 v6 v8 v9 v10 0 v7 (f_Model_leave_120 v1 v2 v3 v4 v5 v6 v8 v9 K31 D n) D ih
set_option maxRecDepth 100000 in
theorem v_Model_leave_115 {Γ : Gt} {Z : Zt} (X : Cx Γ Z prog_10_method_50_code R_Model 11 (some .int) rm_Model_leave) (hN : 166 ≤ Z.2.2.2.1) (v1 v2 v3 v4 v5 v6 v7 v9 s0 : Int)  (K31 : Int → Int → Int → Int → Option (Int)) (D : Mm) (hK31 : ∀ (v6 v7 v8 v9 : Int), Zv Γ Z 11 (QfP Γ Z 1 D) (K31 v6 v7 v8 v9) D 52 [(0, zr Z 144), (1, zi v1), (2, zi v2), (3, zi v3), (4, zi v4), (5, zi v5), (6, zi v6), (7, zi v7), (8, zi v8), (9, zi v9)] []) : Zv Γ Z 11 (QfP Γ Z 1 D) (f_Model_leave_115 v1 v2 v3 v4 v5 v6 v7 v9 s0 K31 D) D 115 [(0, zr Z 144), (1, zi v1), (2, zi v2), (3, zi v3), (4, zi v4), (5, zi v5), (6, zi v6), (7, zi v7), (9, zi v9)] [zi s0] := by
  unfold f_Model_leave_115
  refine zv_istore X (lv2 := [(8, zi s0), (0, zr Z 144), (1, zi v1), (2, zi v2), (3, zi v3), (4, zi v4), (5, zi v5), (6, zi v6), (7, zi v7), (9, zi v9)]) d_Model_leave_115 (by decide) rfl ?_
  refine zv_iconst X d_Model_leave_117 ?_
  refine zv_istore X (lv2 := [(10, zi 0), (8, zi s0), (0, zr Z 144), (1, zi v1), (2, zi v2), (3, zi v3), (4, zi v4), (5, zi v5), (6, zi v6), (7, zi v7), (9, zi v9)]) d_Model_leave_118 (by decide) rfl ?_
  refine zv_sub X [2, 3, 4, 5, 6, 7, 8, 9, 1, 10, 0] rfl ?_
  exact v_Model_leave_120 X hN v1 v2 v3 v4 v5 v6 s0 v9 K31 D hK31 zF v7 0
set_option maxRecDepth 100000 in
theorem v_Model_leave_114 {Γ : Gt} {Z : Zt} (X : Cx Γ Z prog_10_method_50_code R_Model 11 (some .int) rm_Model_leave) (hN : 166 ≤ Z.2.2.2.1) (v1 v2 v3 v4 v5 v6 v7 v9 : Int)  (K31 : Int → Int → Int → Int → Option (Int)) (D : Mm) (hK31 : ∀ (v6 v7 v8 v9 : Int), Zv Γ Z 11 (QfP Γ Z 1 D) (K31 v6 v7 v8 v9) D 52 [(0, zr Z 144), (1, zi v1), (2, zi v2), (3, zi v3), (4, zi v4), (5, zi v5), (6, zi v6), (7, zi v7), (8, zi v8), (9, zi v9)] []) : Zv Γ Z 11 (QfP Γ Z 1 D) (f_Model_leave_114 v1 v2 v3 v4 v5 v6 v7 v9 K31 D) D 114 [(0, zr Z 144), (1, zi v1), (2, zi v2), (3, zi v3), (4, zi v4), (5, zi v5), (6, zi v6), (7, zi v7), (9, zi v9)] [] := by
  unfold f_Model_leave_114
  refine zv_iconst X d_Model_leave_114 ?_
  exact v_Model_leave_115 X hN v1 v2 v3 v4 v5 v6 v7 v9 0 K31 D hK31
set_option maxRecDepth 100000 in
theorem v_Model_leave_110 {Γ : Gt} {Z : Zt} (X : Cx Γ Z prog_10_method_50_code R_Model 11 (some .int) rm_Model_leave) (hN : 166 ≤ Z.2.2.2.1) (v1 v2 v3 v4 v5 v6 v7 v9 : Int)  (K31 : Int → Int → Int → Int → Option (Int)) (D : Mm) (hK31 : ∀ (v6 v7 v8 v9 : Int), Zv Γ Z 11 (QfP Γ Z 1 D) (K31 v6 v7 v8 v9) D 52 [(0, zr Z 144), (1, zi v1), (2, zi v2), (3, zi v3), (4, zi v4), (5, zi v5), (6, zi v6), (7, zi v7), (8, zi v8), (9, zi v9)] []) : Zv Γ Z 11 (QfP Γ Z 1 D) (f_Model_leave_110 v1 v2 v3 v4 v5 v6 v7 v9 K31 D) D 110 [(0, zr Z 144), (1, zi v1), (2, zi v2), (3, zi v3), (4, zi v4), (5, zi v5), (6, zi v6), (7, zi v7), (9, zi v9)] [] := by
  unfold f_Model_leave_110
  refine zv_iconst X d_Model_leave_110 ?_
  refine zv_goto X (tgt := 115) d_Model_leave_111 (by decide) ?_
  exact v_Model_leave_115 X hN v1 v2 v3 v4 v5 v6 v7 v9 1 K31 D hK31
set_option maxRecDepth 100000 in
theorem v_Model_leave_81 {Γ : Gt} {Z : Zt} (X : Cx Γ Z prog_10_method_50_code R_Model 11 (some .int) rm_Model_leave) (hN : 166 ≤ Z.2.2.2.1) (v1 v2 v3 v4 v5 v7 v8 v9 s0 s1 : Int)  (K31 : Int → Int → Int → Int → Option (Int)) (D : Mm) (hK31 : ∀ (v6 v7 v8 v9 : Int), Zv Γ Z 11 (QfP Γ Z 1 D) (K31 v6 v7 v8 v9) D 52 [(0, zr Z 144), (1, zi v1), (2, zi v2), (3, zi v3), (4, zi v4), (5, zi v5), (6, zi v6), (7, zi v7), (8, zi v8), (9, zi v9)] []) : Zv Γ Z 11 (QfP Γ Z 1 D) (f_Model_leave_81 v1 v2 v3 v4 v5 v7 v8 v9 s0 s1 K31 D) D 81 [(0, zr Z 144), (1, zi v1), (2, zi v2), (3, zi v3), (4, zi v4), (5, zi v5), (7, zi v7), (8, zi v8), (9, zi v9)] [zi s0, zi s1] := by
  unfold f_Model_leave_81
  refine zv_iadd X d_Model_leave_81 ?_
  refine zv_istore X (lv2 := [(6, zi (s1 + s0)), (0, zr Z 144), (1, zi v1), (2, zi v2), (3, zi v3), (4, zi v4), (5, zi v5), (7, zi v7), (8, zi v8), (9, zi v9)]) d_Model_leave_82 (by decide) rfl ?_
  refine zv_iload X d_Model_leave_84 8 rfl ?_
  refine zv_if_eq X (y := 0) (tgt := 114) d_Model_leave_86 (by decide) (fun h86 => ?_) (fun h86 => ?_)
  · refine zv_sub X [1, 2, 3, 4, 5, 6, 0, 7, 9] rfl ?_
    exact v_Model_leave_114 X hN v1 v2 v3 v4 v5 (s1 + s0) v7 v9 K31 D hK31
  · refine zv_iload X d_Model_leave_89 6 rfl ?_
    refine zv_iload X d_Model_leave_91 9 rfl ?_
    refine zv_cSP1 X (av := [zi v5, zi v9]) (st := []) (c_Model_has Γ.2.1 X.2.2.2.2.2.2.2.1 hN v5 v9 D) mk_Model_136 ⟨rfl, rfl, Nat.le_of_ble_eq_true rfl, Nat.le_of_ble_eq_true rfl⟩ rfl (Nat.le_of_ble_eq_true rfl) d_Model_leave_93 (fun r1 hr1 => ?_)
    refine zv_if_eq X (y := 0) (tgt := 110) d_Model_leave_96 (by decide) (fun h96 => ?_) (fun h96 => ?_)
    · refine zv_sub X [1, 2, 3, 4, 5, 6, 0, 7, 9] rfl ?_
      exact v_Model_leave_110 X hN v1 v2 v3 v4 v5 (s1 + s0) v7 v9 K31 D hK31
    · refine zv_aload_n X d_Model_leave_99 rfl 1 rfl ?_
      refine zv_get X (ci := 7) rfl i_Model (za_144 hN) 13 (by decide) lk_Model_46 rfl rfl d_Model_leave_100 ?_
      refine zv_iload X d_Model_leave_103 9 rfl ?_
      refine zv_iald X (za_157 hN) d_Model_leave_105 (fun ha105 hb105 => ?_)
      refine zv_iconst X d_Model_leave_106 ?_
      refine zv_icmp_eq X (tgt := 114) d_Model_leave_107 (by decide) (fun h107 => ?_) (fun h107 => ?_)
      · refine zv_sub X [1, 2, 3, 4, 5, 6, 0, 7, 9] rfl ?_
        exact v_Model_leave_114 X hN v1 v2 v3 v4 v5 (s1 + s0) v7 v9 K31 D hK31
      · refine zv_sub X [1, 2, 3, 4, 5, 6, 0, 7, 9] rfl ?_
        exact v_Model_leave_110 X hN v1 v2 v3 v4 v5 (s1 + s0) v7 v9 K31 D hK31
set_option maxRecDepth 100000 in
theorem v_Model_leave_52 {Γ : Gt} {Z : Zt} (X : Cx Γ Z prog_10_method_50_code R_Model 11 (some .int) rm_Model_leave) (hN : 166 ≤ Z.2.2.2.1) (v1 v2 v3 v4 v5 : Int)  (K20 : Int → Int → Int → Option (Int)) (D : Mm)  (hK20 : ∀ (v3 v4 v5 : Int), Zv Γ Z 11 (QfP Γ Z 1 D) (K20 v3 v4 v5) D 33 [(0, zr Z 144), (1, zi v1), (2, zi v2), (3, zi v3), (4, zi v4), (5, zi v5)] []): ∀ (n : Nat) (v6 v7 v8 v9 : Int) , Zv Γ Z 11 (QfP Γ Z 1 D) (f_Model_leave_52 v1 v2 v3 v4 v5 K20 D n v6 v7 v8 v9) D 52 [(0, zr Z 144), (1, zi v1), (2, zi v2), (3, zi v3), (4, zi v4), (5, zi v5), (6, zi v6), (7, zi v7), (8, zi v8), (9, zi v9)] [] := by
  intro n
  induction n with
  | zero =>
    intro v6 v7 v8 v9
    exact zv_none
  | succ n ih =>
    intro v6 v7 v8 v9
    rw [f_Model_leave_52]
    refine zv_iload X d_Model_leave_52 9 rfl ?_
    refine zv_iconst X d_Model_leave_54 ?_
    refine zv_icmp_ge X (tgt := 175) d_Model_leave_55 (by decide) (fun h55 => ?_) (fun h55 => ?_)
    · refine zv_iload X d_Model_leave_175 8 rfl ?_
      refine zv_if_eq X (y := 0) (tgt := 204) d_Model_leave_177 (by decide) (fun h177 => ?_) (fun h177 => ?_)
      · refine zv_sub X [0, 1, 2, 3, 4, 5] rfl ?_
        exact v_Model_leave_204 X hN v1 v2 v3 v4 v5 K20 D hK20
      · refine zv_iload X d_Model_leave_180 6 rfl ?_
        refine zv_iload_n X d_Model_leave_182 rfl 1 rfl ?_
        refine zv_icmp_lt X (tgt := 204) d_Model_leave_183 (by decide) (fun h183 => ?_) (fun h183 => ?_)
        · refine zv_sub X [0, 1, 2, 3, 4, 5] rfl ?_
          exact v_Model_leave_204 X hN v1 v2 v3 v4 v5 K20 D hK20
        · refine zv_iload_n X d_Model_leave_186 rfl 3 rfl ?_
          refine zv_if_lt X (y := 0) (tgt := 197) d_Model_leave_187 (by decide) (fun h187 => ?_) (fun h187 => ?_)
          · refine zv_sub X [0, 1, 2, 5, 7] rfl ?_
            exact v_Model_leave_197 X hN v1 v2 v5 v7 K20 D hK20
          · refine zv_iload X d_Model_leave_190 7 rfl ?_
            refine zv_iload X d_Model_leave_192 4 rfl ?_
            refine zv_icmp_ge X (tgt := 204) d_Model_leave_194 (by decide) (fun h194 => ?_) (fun h194 => ?_)
            · refine zv_sub X [0, 1, 2, 3, 4, 5] rfl ?_
              exact v_Model_leave_204 X hN v1 v2 v3 v4 v5 K20 D hK20
            · refine zv_sub X [0, 1, 2, 5, 7] rfl ?_
              exact v_Model_leave_197 X hN v1 v2 v5 v7 K20 D hK20
    · refine zv_iload X d_Model_leave_58 6 rfl ?_
      refine zv_iload X d_Model_leave_60 5 rfl ?_
      refine zv_iload X d_Model_leave_62 9 rfl ?_
      refine zv_cSP1 X (av := [zi v5, zi v9]) (st := [zi v6]) (c_Model_has Γ.2.1 X.2.2.2.2.2.2.2.1 hN v5 v9 D) mk_Model_136 ⟨rfl, rfl, Nat.le_of_ble_eq_true rfl, Nat.le_of_ble_eq_true rfl⟩ rfl (Nat.le_of_ble_eq_true rfl) d_Model_leave_64 (fun r1 hr1 => ?_)
      refine zv_if_eq X (y := 0) (tgt := 80) d_Model_leave_67 (by decide) (fun h67 => ?_) (fun h67 => ?_)
      · refine zv_iconst X d_Model_leave_80 ?_
        refine zv_sub X [0, 1, 2, 3, 4, 5, 7, 8, 9] rfl ?_
        exact v_Model_leave_81 X hN v1 v2 v3 v4 v5 v7 v8 v9 0 v6 (f_Model_leave_52 v1 v2 v3 v4 v5 K20 D n) D ih
      · refine zv_aload_n X d_Model_leave_70 rfl 0 rfl ?_
        refine zv_get X (ci := 7) rfl i_Model (za_144 hN) 12 (by decide) lk_Model_43 rfl rfl d_Model_leave_71 ?_
        refine zv_iload X d_Model_leave_74 9 rfl ?_
        refine zv_iald X (za_156 hN) d_Model_leave_76 (fun ha76 hb76 => ?_)
        refine zv_goto X (tgt := 81) d_Model_leave_77 (by decide) ?_
        refine zv_sub X [0, 1, 2, 3, 4, 5, 7, 8, 9] rfl ?_
        exact v_Model_leave_81 X hN v1 v2 v3 v4 v5 v7 v8 v9 (D 156 v9) v6 (f_Model_leave_52 v1 v2 v3 v4 v5 K20 D n) D ih
set_option maxRecDepth 100000 in
theorem v_Model_leave_33 {Γ : Gt} {Z : Zt} (X : Cx Γ Z prog_10_method_50_code R_Model 11 (some .int) rm_Model_leave) (hN : 166 ≤ Z.2.2.2.1) (v1 v2 : Int)   (D : Mm)  : ∀ (n : Nat) (v3 v4 v5 : Int) , Zv Γ Z 11 (QfP Γ Z 1 D) (f_Model_leave_33 v1 v2 D n v3 v4 v5) D 33 [(0, zr Z 144), (1, zi v1), (2, zi v2), (3, zi v3), (4, zi v4), (5, zi v5)] [] := by
  intro n
  induction n with
  | zero =>
    intro v3 v4 v5
    exact zv_none
  | succ n ih =>
    intro v3 v4 v5
    rw [f_Model_leave_33]
    refine zv_iload X d_Model_leave_33 5 rfl ?_
    refine zv_bipush X d_Model_leave_35 (by decide +kernel) ?_
    refine zv_icmp_ge X (tgt := 210) d_Model_leave_37 (by decide) (fun h37 => ?_) (fun h37 => ?_)
    · refine zv_iload_n X d_Model_leave_210 rfl 3 rfl ?_
      refine zv_if_ge X (y := 0) (tgt := 219) d_Model_leave_211 (by decide) (fun h211 => ?_) (fun h211 => ?_)
      · refine zv_iload_n X d_Model_leave_219 rfl 2 rfl ?_
        refine zv_if_ne X (y := 0) (tgt := 227) d_Model_leave_220 (by decide) (fun h220 => ?_) (fun h220 => ?_)
        · refine zv_iload X d_Model_leave_227 4 rfl ?_
          exact zv_iretP X d_Model_leave_229
        · refine zv_iload_n X d_Model_leave_223 rfl 3 rfl ?_
          refine zv_goto X (tgt := 229) d_Model_leave_224 (by decide) ?_
          exact zv_iretP X d_Model_leave_229
      · refine zv_bipush X d_Model_leave_214 (by decide +kernel) ?_
        refine zv_goto X (tgt := 229) d_Model_leave_216 (by decide) ?_
        exact zv_iretP X d_Model_leave_229
    · refine zv_iconst X d_Model_leave_40 ?_
      refine zv_istore X (lv2 := [(6, zi 0), (0, zr Z 144), (1, zi v1), (2, zi v2), (3, zi v3), (4, zi v4), (5, zi v5)]) d_Model_leave_41 (by decide) rfl ?_
      refine zv_iconst X d_Model_leave_43 ?_
      refine zv_istore X (lv2 := [(7, zi 0), (6, zi 0), (0, zr Z 144), (1, zi v1), (2, zi v2), (3, zi v3), (4, zi v4), (5, zi v5)]) d_Model_leave_44 (by decide) rfl ?_
      refine zv_iconst X d_Model_leave_46 ?_
      refine zv_istore X (lv2 := [(8, zi 1), (7, zi 0), (6, zi 0), (0, zr Z 144), (1, zi v1), (2, zi v2), (3, zi v3), (4, zi v4), (5, zi v5)]) d_Model_leave_47 (by decide) rfl ?_
      refine zv_iconst X d_Model_leave_49 ?_
      refine zv_istore X (lv2 := [(9, zi 0), (8, zi 1), (7, zi 0), (6, zi 0), (0, zr Z 144), (1, zi v1), (2, zi v2), (3, zi v3), (4, zi v4), (5, zi v5)]) d_Model_leave_50 (by decide) rfl ?_
      refine zv_sub X [4, 5, 6, 7, 8, 9, 3, 2, 1, 0] rfl ?_
      exact v_Model_leave_52 X hN v1 v2 v3 v4 v5 (f_Model_leave_33 v1 v2 D n) D ih zF 0 0 1 0
set_option maxRecDepth 100000 in
theorem c_Model_leave (l : Launch) {Z : Zt} (hZ : Zok Z) (hN : 166 ≤ Z.2.2.2.1) (v1 v2 : Int)  (D : Mm) : CtP l Z y_Model_leave prog_10_method_50_code 11 (some .int) rm_Model_leave 1 [zr Z 144, zi v1, zi v2] D (f_Model_leave v1 v2 D) := by
  refine zm_P (lv := [(0, zr Z 144), (1, zi v1), (2, zi v2)]) hZ (by decide +kernel) rfl (Nat.le_of_ble_eq_true rfl) rfl (fun Γ hl X => ?_)
  subst hl
  unfold f_Model_leave
  refine zv_iload_n X d_Model_leave_0 rfl 1 rfl ?_
  refine zv_i2l X d_Model_leave_1 ?_
  refine zv_lconst X (x := 0) d_Model_leave_2 (by decide +kernel) ?_
  refine zv_ldc2 X 399 kc_Model_228 (by decide +kernel) d_Model_leave_3 ?_
  refine zv_cSP1 X (av := [zl (wI v1), zl 0, zl 399]) (st := []) (c_Model_in Γ.2.1 X.2.2.2.2.2.2.2.1 hN (wI v1) 0 399 D) mk_Model_82 ⟨rfl, rfl, Nat.le_of_ble_eq_true rfl, Nat.le_of_ble_eq_true rfl⟩ rfl (Nat.le_of_ble_eq_true rfl) d_Model_leave_6 (fun r1 hr1 => ?_)
  refine zv_if_eq X (y := 0) (tgt := 22) d_Model_leave_9 (by decide) (fun h9 => ?_) (fun h9 => ?_)
  · refine zv_iconst X d_Model_leave_22 ?_
    exact zv_iretP X d_Model_leave_23
  · refine zv_iload_n X d_Model_leave_12 rfl 2 rfl ?_
    refine zv_i2l X d_Model_leave_13 ?_
    refine zv_lconst X (x := 0) d_Model_leave_14 (by decide +kernel) ?_
    refine zv_lconst X (x := 1) d_Model_leave_15 (by decide +kernel) ?_
    refine zv_cSP1 X (av := [zl (wI v2), zl 0, zl 1]) (st := []) (c_Model_in Γ.2.1 X.2.2.2.2.2.2.2.1 hN (wI v2) 0 1 D) mk_Model_82 ⟨rfl, rfl, Nat.le_of_ble_eq_true rfl, Nat.le_of_ble_eq_true rfl⟩ rfl (Nat.le_of_ble_eq_true rfl) d_Model_leave_16 (fun r2 hr2 => ?_)
    refine zv_if_ne X (y := 0) (tgt := 24) d_Model_leave_19 (by decide) (fun h19 => ?_) (fun h19 => ?_)
    · refine zv_bipush X d_Model_leave_24 (by decide +kernel) ?_
      refine zv_istore_n X (lv2 := [(3, zi (-4)), (0, zr Z 144), (1, zi v1), (2, zi v2)]) d_Model_leave_26 rfl (by decide) rfl ?_
      refine zv_iconst X d_Model_leave_27 ?_
      refine zv_istore X (lv2 := [(4, zi 0), (3, zi (-4)), (0, zr Z 144), (1, zi v1), (2, zi v2)]) d_Model_leave_28 (by decide) rfl ?_
      refine zv_iconst X d_Model_leave_30 ?_
      refine zv_istore X (lv2 := [(5, zi 0), (4, zi 0), (3, zi (-4)), (0, zr Z 144), (1, zi v1), (2, zi v2)]) d_Model_leave_31 (by decide) rfl ?_
      refine zv_sub X [3, 4, 5, 2, 1, 0] rfl ?_
      exact v_Model_leave_33 X hN v1 v2 D zF (-4) 0 0
    · refine zv_iconst X d_Model_leave_22 ?_
      exact zv_iretP X d_Model_leave_23
set_option maxRecDepth 100000 in
theorem v_Model_blindOf_44 {Γ : Gt} {Z : Zt} (X : Cx Γ Z prog_10_method_51_code R_Model 5 (some .int) rm_Model_blindOf) (hN : 166 ≤ Z.2.2.2.1) (v1 v2 v4 s0 s1 : Int)  (K4 : Int → Int → Option (Int)) (D : Mm) (hK4 : ∀ (v3 v4 : Int), Zv Γ Z 5 (QfP Γ Z 1 D) (K4 v3 v4) D 5 [(0, zr Z 144), (1, zi v1), (2, zi v2), (3, zi v3), (4, zi v4)] []) : Zv Γ Z 5 (QfP Γ Z 1 D) (f_Model_blindOf_44 v1 v2 v4 s0 s1 K4 D) D 44 [(0, zr Z 144), (1, zi v1), (2, zi v2), (4, zi v4)] [zi s0, zi s1] := by
  unfold f_Model_blindOf_44
  refine zv_iadd X d_Model_blindOf_44 ?_
  refine zv_istore_n X (lv2 := [(3, zi (s1 + s0)), (0, zr Z 144), (1, zi v1), (2, zi v2), (4, zi v4)]) d_Model_blindOf_45 rfl (by decide) rfl ?_
  refine zv_iinc X (lv2 := [(4, zi (v4 + 1)), (3, zi (s1 + s0)), (0, zr Z 144), (1, zi v1), (2, zi v2)]) d_Model_blindOf_46 4 rfl (by decide) rfl ?_
  refine zv_goto X (tgt := 5) d_Model_blindOf_49 (by decide) ?_
  refine zv_sub X [2, 3, 4, 1, 0] rfl ?_
  exact hK4 (s1 + s0) (v4 + 1)
set_option maxRecDepth 100000 in
theorem v_Model_blindOf_5 {Γ : Gt} {Z : Zt} (X : Cx Γ Z prog_10_method_51_code R_Model 5 (some .int) rm_Model_blindOf) (hN : 166 ≤ Z.2.2.2.1) (v1 v2 : Int)   (D : Mm)  : ∀ (n : Nat) (v3 v4 : Int) , Zv Γ Z 5 (QfP Γ Z 1 D) (f_Model_blindOf_5 v1 v2 D n v3 v4) D 5 [(0, zr Z 144), (1, zi v1), (2, zi v2), (3, zi v3), (4, zi v4)] [] := by
  intro n
  induction n with
  | zero =>
    intro v3 v4
    exact zv_none
  | succ n ih =>
    intro v3 v4
    rw [f_Model_blindOf_5]
    refine zv_iload X d_Model_blindOf_5 4 rfl ?_
    refine zv_bipush X d_Model_blindOf_7 (by decide +kernel) ?_
    refine zv_icmp_ge X (tgt := 52) d_Model_blindOf_9 (by decide) (fun h9 => ?_) (fun h9 => ?_)
    · refine zv_iload_n X d_Model_blindOf_52 rfl 3 rfl ?_
      exact zv_iretP X d_Model_blindOf_53
    · refine zv_iload_n X d_Model_blindOf_12 rfl 3 rfl ?_
      refine zv_iload_n X d_Model_blindOf_13 rfl 2 rfl ?_
      refine zv_if_eq X (y := 0) (tgt := 32) d_Model_blindOf_14 (by decide) (fun h14 => ?_) (fun h14 => ?_)
      · refine zv_aload_n X d_Model_blindOf_32 rfl 0 rfl ?_
        refine zv_get X (ci := 7) rfl i_Model (za_144 hN) 17 (by decide) lk_Model_58 rfl rfl d_Model_blindOf_33 ?_
        refine zv_bipush X d_Model_blindOf_36 (by decide +kernel) ?_
        refine zv_iload_n X d_Model_blindOf_38 rfl 1 rfl ?_
        refine zv_imul X d_Model_blindOf_39 ?_
        refine zv_iload X d_Model_blindOf_40 4 rfl ?_
        refine zv_iadd X d_Model_blindOf_42 ?_
        refine zv_iald X (za_161 hN) d_Model_blindOf_43 (fun ha43 hb43 => ?_)
        refine zv_sub X [0, 1, 2, 4] rfl ?_
        exact v_Model_blindOf_44 X hN v1 v2 v4 (D 161 ((6 * v1) + v4)) v3 (f_Model_blindOf_5 v1 v2 D n) D ih
      · refine zv_aload_n X d_Model_blindOf_17 rfl 0 rfl ?_
        refine zv_get X (ci := 7) rfl i_Model (za_144 hN) 17 (by decide) lk_Model_58 rfl rfl d_Model_blindOf_18 ?_
        refine zv_bipush X d_Model_blindOf_21 (by decide +kernel) ?_
        refine zv_iload X d_Model_blindOf_23 4 rfl ?_
        refine zv_imul X d_Model_blindOf_25 ?_
        refine zv_iload_n X d_Model_blindOf_26 rfl 1 rfl ?_
        refine zv_iadd X d_Model_blindOf_27 ?_
        refine zv_iald X (za_161 hN) d_Model_blindOf_28 (fun ha28 hb28 => ?_)
        refine zv_goto X (tgt := 44) d_Model_blindOf_29 (by decide) ?_
        refine zv_sub X [0, 1, 2, 4] rfl ?_
        exact v_Model_blindOf_44 X hN v1 v2 v4 (D 161 ((6 * v4) + v1)) v3 (f_Model_blindOf_5 v1 v2 D n) D ih
set_option maxRecDepth 100000 in
theorem c_Model_blindOf (l : Launch) {Z : Zt} (hZ : Zok Z) (hN : 166 ≤ Z.2.2.2.1) (v1 v2 : Int)  (D : Mm) : CtP l Z y_Model_blindOf prog_10_method_51_code 5 (some .int) rm_Model_blindOf 1 [zr Z 144, zi v1, zi v2] D (f_Model_blindOf v1 v2 D) := by
  refine zm_P (lv := [(0, zr Z 144), (1, zi v1), (2, zi v2)]) hZ (by decide +kernel) rfl (Nat.le_of_ble_eq_true rfl) rfl (fun Γ hl X => ?_)
  subst hl
  unfold f_Model_blindOf
  refine zv_iconst X d_Model_blindOf_0 ?_
  refine zv_istore_n X (lv2 := [(3, zi 0), (0, zr Z 144), (1, zi v1), (2, zi v2)]) d_Model_blindOf_1 rfl (by decide) rfl ?_
  refine zv_iconst X d_Model_blindOf_2 ?_
  refine zv_istore X (lv2 := [(4, zi 0), (3, zi 0), (0, zr Z 144), (1, zi v1), (2, zi v2)]) d_Model_blindOf_3 (by decide) rfl ?_
  refine zv_sub X [2, 3, 4, 1, 0] rfl ?_
  exact v_Model_blindOf_5 X hN v1 v2 D zF 0 0
set_option maxRecDepth 100000 in
theorem v_Model_blindAll_4 {Γ : Gt} {Z : Zt} (X : Cx Γ Z prog_10_method_52_code R_Model 3 (some .int) rm_Model_blindAll) (hN : 166 ≤ Z.2.2.2.1)   (D : Mm)  : ∀ (n : Nat) (v1 v2 : Int) , Zv Γ Z 3 (QfP Γ Z 1 D) (f_Model_blindAll_4 D n v1 v2) D 4 [(0, zr Z 144), (1, zi v1), (2, zi v2)] [] := by
  intro n
  induction n with
  | zero =>
    intro v1 v2
    exact zv_none
  | succ n ih =>
    intro v1 v2
    rw [f_Model_blindAll_4]
    refine zv_iload_n X d_Model_blindAll_4 rfl 2 rfl ?_
    refine zv_bipush X d_Model_blindAll_5 (by decide +kernel) ?_
    refine zv_icmp_ge X (tgt := 25) d_Model_blindAll_7 (by decide) (fun h7 => ?_) (fun h7 => ?_)
    · refine zv_iload_n X d_Model_blindAll_25 rfl 1 rfl ?_
      exact zv_iretP X d_Model_blindAll_26
    · refine zv_iload_n X d_Model_blindAll_10 rfl 1 rfl ?_
      refine zv_aload_n X d_Model_blindAll_11 rfl 0 rfl ?_
      refine zv_get X (ci := 7) rfl i_Model (za_144 hN) 17 (by decide) lk_Model_58 rfl rfl d_Model_blindAll_12 ?_
      refine zv_iload_n X d_Model_blindAll_15 rfl 2 rfl ?_
      refine zv_iald X (za_161 hN) d_Model_blindAll_16 (fun ha16 hb16 => ?_)
      refine zv_iadd X d_Model_blindAll_17 ?_
      refine zv_istore_n X (lv2 := [(1, zi (v1 + (D 161 v2))), (0, zr Z 144), (2, zi v2)]) d_Model_blindAll_18 rfl (by decide) rfl ?_
      refine zv_iinc X (lv2 := [(2, zi (v2 + 1)), (1, zi (v1 + (D 161 v2))), (0, zr Z 144)]) d_Model_blindAll_19 2 rfl (by decide) rfl ?_
      refine zv_goto X (tgt := 4) d_Model_blindAll_22 (by decide) ?_
      refine zv_sub X [2, 1, 0] rfl ?_
      exact ih (v1 + (D 161 v2)) (v2 + 1)
set_option maxRecDepth 100000 in
theorem c_Model_blindAll (l : Launch) {Z : Zt} (hZ : Zok Z) (hN : 166 ≤ Z.2.2.2.1)  (D : Mm) : CtP l Z y_Model_blindAll prog_10_method_52_code 3 (some .int) rm_Model_blindAll 1 [zr Z 144] D (f_Model_blindAll D) := by
  refine zm_P (lv := [(0, zr Z 144)]) hZ (by decide +kernel) rfl (Nat.le_of_ble_eq_true rfl) rfl (fun Γ hl X => ?_)
  subst hl
  unfold f_Model_blindAll
  refine zv_iconst X d_Model_blindAll_0 ?_
  refine zv_istore_n X (lv2 := [(1, zi 0), (0, zr Z 144)]) d_Model_blindAll_1 rfl (by decide) rfl ?_
  refine zv_iconst X d_Model_blindAll_2 ?_
  refine zv_istore_n X (lv2 := [(2, zi 0), (1, zi 0), (0, zr Z 144)]) d_Model_blindAll_3 rfl (by decide) rfl ?_
  refine zv_sub X [2, 1, 0] rfl ?_
  exact v_Model_blindAll_4 X hN D zF 0 0
set_option maxRecDepth 100000 in
theorem c_Model_blind (l : Launch) {Z : Zt} (hZ : Zok Z) (hN : 166 ≤ Z.2.2.2.1) (v1 v2 : Int)  (D : Mm) : CtM l Z y_Model_blind prog_10_method_53_code 3 (some .int) rm_Model_blind 1 [zr Z 144, zi v1, zi v2] D (f_Model_blind v1 v2 D) := by
  refine zm_M (lv := [(0, zr Z 144), (1, zi v1), (2, zi v2)]) hZ (by decide +kernel) rfl (Nat.le_of_ble_eq_true rfl) rfl (fun Γ hl X => ?_)
  subst hl
  unfold f_Model_blind
  refine zv_aload_n X d_Model_blind_0 rfl 0 rfl ?_
  refine zv_iload_n X d_Model_blind_1 rfl 1 rfl ?_
  refine zv_cVP1 X (av := [zi v1]) (st := []) (ci := 7) (c_Model_isSort Γ.2.1 X.2.2.2.2.2.2.2.1 hN v1 D) mk_Model_144 rfl (za_144 hN) ⟨rfl, rfl, Nat.le_of_ble_eq_true rfl, Nat.le_of_ble_eq_true rfl⟩ rfl (Nat.le_of_ble_eq_true rfl) d_Model_blind_2 (fun r1 hr1 => ?_)
  refine zv_if_eq X (y := 0) (tgt := 16) d_Model_blind_5 (by decide) (fun h5 => ?_) (fun h5 => ?_)
  · refine zv_iconst X d_Model_blind_16 ?_
    exact zv_iretM X d_Model_blind_17
  · refine zv_aload_n X d_Model_blind_8 rfl 0 rfl ?_
    refine zv_iload_n X d_Model_blind_9 rfl 2 rfl ?_
    refine zv_cVP1 X (av := [zi v2]) (st := []) (ci := 7) (c_Model_isSort Γ.2.1 X.2.2.2.2.2.2.2.1 hN v2 D) mk_Model_144 rfl (za_144 hN) ⟨rfl, rfl, Nat.le_of_ble_eq_true rfl, Nat.le_of_ble_eq_true rfl⟩ rfl (Nat.le_of_ble_eq_true rfl) d_Model_blind_10 (fun r2 hr2 => ?_)
    refine zv_if_ne X (y := 0) (tgt := 18) d_Model_blind_13 (by decide) (fun h13 => ?_) (fun h13 => ?_)
    · refine zv_aload_n X d_Model_blind_18 rfl 0 rfl ?_
      refine zv_cVP1 X (av := []) (st := []) (ci := 7) (c_Model_blindAll Γ.2.1 X.2.2.2.2.2.2.2.1 hN D) mk_Model_230 rfl (za_144 hN) ⟨rfl, rfl, Nat.le_of_ble_eq_true rfl, Nat.le_of_ble_eq_true rfl⟩ rfl (Nat.le_of_ble_eq_true rfl) d_Model_blind_19 (fun r3 hr3 => ?_)
      refine zv_sipush X d_Model_blind_22 (by decide +kernel) ?_
      refine zv_icmp_ne X (tgt := 31) d_Model_blind_25 (by decide) (fun h25 => ?_) (fun h25 => ?_)
      · refine zv_aload_n X d_Model_blind_31 rfl 0 rfl ?_
        refine zv_get X (ci := 7) rfl i_Model (za_144 hN) 17 (by decide) lk_Model_58 rfl rfl d_Model_blind_32 ?_
        refine zv_bipush X d_Model_blind_35 (by decide +kernel) ?_
        refine zv_iload_n X d_Model_blind_37 rfl 1 rfl ?_
        refine zv_imul X d_Model_blind_38 ?_
        refine zv_iload_n X d_Model_blind_39 rfl 2 rfl ?_
        refine zv_iadd X d_Model_blind_40 ?_
        refine zv_dup2 X d_Model_blind_41 rfl rfl ?_
        refine zv_iald X (za_161 hN) d_Model_blind_42 (fun ha42 hb42 => ?_)
        refine zv_iconst X d_Model_blind_43 ?_
        refine zv_iadd X d_Model_blind_44 ?_
        refine zv_iastC X (za_161 hN) d_Model_blind_45 (fun ha45 hb45 D4 => ?_)
        refine zv_aload_n X d_Model_blind_46 rfl 0 rfl ?_
        refine zv_get X (ci := 7) rfl i_Model (za_144 hN) 17 (by decide) lk_Model_58 rfl rfl d_Model_blind_47 ?_
        refine zv_bipush X d_Model_blind_50 (by decide +kernel) ?_
        refine zv_iload_n X d_Model_blind_52 rfl 1 rfl ?_
        refine zv_imul X d_Model_blind_53 ?_
        refine zv_iload_n X d_Model_blind_54 rfl 2 rfl ?_
        refine zv_iadd X d_Model_blind_55 ?_
        refine zv_iald X (za_161 hN) d_Model_blind_56 (fun ha56 hb56 => ?_)
        exact zv_iretM X d_Model_blind_57
      · refine zv_bipush X d_Model_blind_28 (by decide +kernel) ?_
        exact zv_iretM X d_Model_blind_30
    · refine zv_iconst X d_Model_blind_16 ?_
      exact zv_iretM X d_Model_blind_17
set_option maxRecDepth 100000 in
theorem c_Model_slips (l : Launch) {Z : Zt} (hZ : Zok Z) (hN : 166 ≤ Z.2.2.2.1) (v1 v2 v3 : Int)  (D : Mm) : CtP l Z y_Model_slips prog_10_method_54_code 6 (some .int) rm_Model_slips 1 [zr Z 144, zi v1, zi v2, zi v3] D (f_Model_slips v1 v2 v3 D) := by
  refine zm_P (lv := [(0, zr Z 144), (1, zi v1), (2, zi v2), (3, zi v3)]) hZ (by decide +kernel) rfl (Nat.le_of_ble_eq_true rfl) rfl (fun Γ hl X => ?_)
  subst hl
  unfold f_Model_slips
  refine zv_aload_n X d_Model_slips_0 rfl 0 rfl ?_
  refine zv_iload_n X d_Model_slips_1 rfl 1 rfl ?_
  refine zv_cVP1 X (av := [zi v1]) (st := []) (ci := 7) (c_Model_isSort Γ.2.1 X.2.2.2.2.2.2.2.1 hN v1 D) mk_Model_144 rfl (za_144 hN) ⟨rfl, rfl, Nat.le_of_ble_eq_true rfl, Nat.le_of_ble_eq_true rfl⟩ rfl (Nat.le_of_ble_eq_true rfl) d_Model_slips_2 (fun r1 hr1 => ?_)
  refine zv_if_eq X (y := 0) (tgt := 26) d_Model_slips_5 (by decide) (fun h5 => ?_) (fun h5 => ?_)
  · refine zv_iconst X d_Model_slips_26 ?_
    exact zv_iretP X d_Model_slips_27
  · refine zv_aload_n X d_Model_slips_8 rfl 0 rfl ?_
    refine zv_iload_n X d_Model_slips_9 rfl 2 rfl ?_
    refine zv_cVP1 X (av := [zi v2]) (st := []) (ci := 7) (c_Model_isSort Γ.2.1 X.2.2.2.2.2.2.2.1 hN v2 D) mk_Model_144 rfl (za_144 hN) ⟨rfl, rfl, Nat.le_of_ble_eq_true rfl, Nat.le_of_ble_eq_true rfl⟩ rfl (Nat.le_of_ble_eq_true rfl) d_Model_slips_10 (fun r2 hr2 => ?_)
    refine zv_if_eq X (y := 0) (tgt := 26) d_Model_slips_13 (by decide) (fun h13 => ?_) (fun h13 => ?_)
    · refine zv_iconst X d_Model_slips_26 ?_
      exact zv_iretP X d_Model_slips_27
    · refine zv_iload_n X d_Model_slips_16 rfl 3 rfl ?_
      refine zv_i2l X d_Model_slips_17 ?_
      refine zv_lconst X (x := 0) d_Model_slips_18 (by decide +kernel) ?_
      refine zv_lconst X (x := 1) d_Model_slips_19 (by decide +kernel) ?_
      refine zv_cSP1 X (av := [zl (wI v3), zl 0, zl 1]) (st := []) (c_Model_in Γ.2.1 X.2.2.2.2.2.2.2.1 hN (wI v3) 0 1 D) mk_Model_82 ⟨rfl, rfl, Nat.le_of_ble_eq_true rfl, Nat.le_of_ble_eq_true rfl⟩ rfl (Nat.le_of_ble_eq_true rfl) d_Model_slips_20 (fun r3 hr3 => ?_)
      refine zv_if_ne X (y := 0) (tgt := 28) d_Model_slips_23 (by decide) (fun h23 => ?_) (fun h23 => ?_)
      · refine zv_aload_n X d_Model_slips_28 rfl 0 rfl ?_
        refine zv_iload_n X d_Model_slips_29 rfl 1 rfl ?_
        refine zv_iconst X d_Model_slips_30 ?_
        refine zv_cVP1 X (av := [zi v1, zi 0]) (st := []) (ci := 7) (c_Model_blindOf Γ.2.1 X.2.2.2.2.2.2.2.1 hN v1 0 D) mk_Model_233 rfl (za_144 hN) ⟨rfl, rfl, Nat.le_of_ble_eq_true rfl, Nat.le_of_ble_eq_true rfl⟩ rfl (Nat.le_of_ble_eq_true rfl) d_Model_slips_31 (fun r4 hr4 => ?_)
        refine zv_istore X (lv2 := [(4, zi r4), (0, zr Z 144), (1, zi v1), (2, zi v2), (3, zi v3)]) d_Model_slips_34 (by decide) rfl ?_
        refine zv_iload X d_Model_slips_36 0 rfl ?_
        refine zv_if_ne X (y := 0) (tgt := 44) d_Model_slips_38 (by decide) (fun h38 => ?_) (fun h38 => ?_)
        · refine zv_aload_n X d_Model_slips_44 rfl 1 rfl ?_
          refine zv_get X (ci := 7) rfl i_Model (za_144 hN) 17 (by decide) lk_Model_58 rfl rfl d_Model_slips_45 ?_
          refine zv_bipush X d_Model_slips_48 (by decide +kernel) ?_
          refine zv_iload_n X d_Model_slips_50 rfl 2 rfl ?_
          refine zv_imul X d_Model_slips_51 ?_
          refine zv_iload_n X d_Model_slips_52 rfl 3 rfl ?_
          refine zv_iadd X d_Model_slips_53 ?_
          refine zv_iald X (za_161 hN) d_Model_slips_54 (fun ha54 hb54 => ?_)
          refine zv_i2l X d_Model_slips_55 ?_
          refine zv_iload X d_Model_slips_56 0 rfl ?_
          refine zv_i2l X d_Model_slips_58 ?_
          refine zv_cSP2 X (av := [zl (wI (D 161 ((6 * v1) + v2))), zl (wI r4)]) (st := []) (c_Model_common Γ.2.1 X.2.2.2.2.2.2.2.1 hN (wI (D 161 ((6 * v1) + v2))) (wI r4) D) mk_Model_180 ⟨rfl, rfl, Nat.le_of_ble_eq_true rfl, Nat.le_of_ble_eq_true rfl⟩ rfl (Nat.le_of_ble_eq_true rfl) d_Model_slips_59 (fun r5 hr5 => ?_)
          refine zv_l2i X d_Model_slips_62 ?_
          refine zv_istore X (lv2 := [(5, zi r5), (4, zi r4), (0, zr Z 144), (1, zi v1), (2, zi v2), (3, zi v3)]) d_Model_slips_63 (by decide) rfl ?_
          refine zv_iload_n X d_Model_slips_65 rfl 5 rfl ?_
          refine zv_if_ne X (y := 0) (tgt := 86) d_Model_slips_66 (by decide) (fun h66 => ?_) (fun h66 => ?_)
          · refine zv_iload X d_Model_slips_86 1 rfl ?_
            refine zv_iload X d_Model_slips_88 0 rfl ?_
            refine zv_idiv X d_Model_slips_90 (fun h90 => ?_)
            exact zv_iretP X d_Model_slips_91
          · refine zv_aload_n X d_Model_slips_69 rfl 2 rfl ?_
            refine zv_get X (ci := 7) rfl i_Model (za_144 hN) 17 (by decide) lk_Model_58 rfl rfl d_Model_slips_70 ?_
            refine zv_bipush X d_Model_slips_73 (by decide +kernel) ?_
            refine zv_iload_n X d_Model_slips_75 rfl 3 rfl ?_
            refine zv_imul X d_Model_slips_76 ?_
            refine zv_iload_n X d_Model_slips_77 rfl 4 rfl ?_
            refine zv_iadd X d_Model_slips_78 ?_
            refine zv_iald X (za_161 hN) d_Model_slips_79 (fun ha79 hb79 => ?_)
            refine zv_iload X d_Model_slips_80 0 rfl ?_
            refine zv_idiv X d_Model_slips_82 (fun h82 => ?_)
            refine zv_goto X (tgt := 91) d_Model_slips_83 (by decide) ?_
            exact zv_iretP X d_Model_slips_91
        · refine zv_bipush X d_Model_slips_41 (by decide +kernel) ?_
          exact zv_iretP X d_Model_slips_43
      · refine zv_iconst X d_Model_slips_26 ?_
        exact zv_iretP X d_Model_slips_27
set_option maxRecDepth 100000 in
theorem c_Model_lean (l : Launch) {Z : Zt} (hZ : Zok Z) (hN : 166 ≤ Z.2.2.2.1) (v1 : Int)  (D : Mm) : CtP l Z y_Model_lean prog_10_method_55_code 2 (some .int) rm_Model_lean 1 [zr Z 144, zi v1] D (f_Model_lean v1 D) := by
  refine zm_P (lv := [(0, zr Z 144), (1, zi v1)]) hZ (by decide +kernel) rfl (Nat.le_of_ble_eq_true rfl) rfl (fun Γ hl X => ?_)
  subst hl
  unfold f_Model_lean
  refine zv_aload_n X d_Model_lean_0 rfl 0 rfl ?_
  refine zv_iload_n X d_Model_lean_1 rfl 1 rfl ?_
  refine zv_cVP1 X (av := [zi v1]) (st := []) (ci := 7) (c_Model_isSort Γ.2.1 X.2.2.2.2.2.2.2.1 hN v1 D) mk_Model_144 rfl (za_144 hN) ⟨rfl, rfl, Nat.le_of_ble_eq_true rfl, Nat.le_of_ble_eq_true rfl⟩ rfl (Nat.le_of_ble_eq_true rfl) d_Model_lean_2 (fun r1 hr1 => ?_)
  refine zv_if_eq X (y := 0) (tgt := 24) d_Model_lean_5 (by decide) (fun h5 => ?_) (fun h5 => ?_)
  · refine zv_sipush X d_Model_lean_24 (by decide +kernel) ?_
    exact zv_iretP X d_Model_lean_27
  · refine zv_aload_n X d_Model_lean_8 rfl 0 rfl ?_
    refine zv_iload_n X d_Model_lean_9 rfl 1 rfl ?_
    refine zv_iconst X d_Model_lean_10 ?_
    refine zv_cVP1 X (av := [zi v1, zi 1]) (st := []) (ci := 7) (c_Model_blindOf Γ.2.1 X.2.2.2.2.2.2.2.1 hN v1 1 D) mk_Model_233 rfl (za_144 hN) ⟨rfl, rfl, Nat.le_of_ble_eq_true rfl, Nat.le_of_ble_eq_true rfl⟩ rfl (Nat.le_of_ble_eq_true rfl) d_Model_lean_11 (fun r2 hr2 => ?_)
    refine zv_aload_n X d_Model_lean_14 rfl 0 rfl ?_
    refine zv_iload_n X d_Model_lean_15 rfl 1 rfl ?_
    refine zv_iconst X d_Model_lean_16 ?_
    refine zv_cVP1 X (av := [zi v1, zi 0]) (st := [zi r2]) (ci := 7) (c_Model_blindOf Γ.2.1 X.2.2.2.2.2.2.2.1 hN v1 0 D) mk_Model_233 rfl (za_144 hN) ⟨rfl, rfl, Nat.le_of_ble_eq_true rfl, Nat.le_of_ble_eq_true rfl⟩ rfl (Nat.le_of_ble_eq_true rfl) d_Model_lean_17 (fun r3 hr3 => ?_)
    refine zv_isub X d_Model_lean_20 ?_
    refine zv_goto X (tgt := 27) d_Model_lean_21 (by decide) ?_
    exact zv_iretP X d_Model_lean_27
set_option maxRecDepth 100000 in
theorem c_Model_right (l : Launch) {Z : Zt} (hZ : Zok Z) (hN : 166 ≤ Z.2.2.2.1) (v1 v2 : Int)  (D : Mm) : CtP l Z y_Model_right prog_10_method_56_code 4 (some .int) rm_Model_right 1 [zr Z 144, zi v1, zi v2] D (f_Model_right v1 v2 D) := by
  refine zm_P (lv := [(0, zr Z 144), (1, zi v1), (2, zi v2)]) hZ (by decide +kernel) rfl (Nat.le_of_ble_eq_true rfl) rfl (fun Γ hl X => ?_)
  subst hl
  unfold f_Model_right
  refine zv_aload_n X d_Model_right_0 rfl 0 rfl ?_
  refine zv_iload_n X d_Model_right_1 rfl 1 rfl ?_
  refine zv_cVP1 X (av := [zi v1]) (st := []) (ci := 7) (c_Model_isSort Γ.2.1 X.2.2.2.2.2.2.2.1 hN v1 D) mk_Model_144 rfl (za_144 hN) ⟨rfl, rfl, Nat.le_of_ble_eq_true rfl, Nat.le_of_ble_eq_true rfl⟩ rfl (Nat.le_of_ble_eq_true rfl) d_Model_right_2 (fun r1 hr1 => ?_)
  refine zv_if_eq X (y := 0) (tgt := 20) d_Model_right_5 (by decide) (fun h5 => ?_) (fun h5 => ?_)
  · refine zv_iconst X d_Model_right_20 ?_
    exact zv_iretP X d_Model_right_21
  · refine zv_iload_n X d_Model_right_8 rfl 2 rfl ?_
    refine zv_i2l X d_Model_right_9 ?_
    refine zv_lconst X (x := 0) d_Model_right_10 (by decide +kernel) ?_
    refine zv_ldc2 X 999 kc_Model_237 (by decide +kernel) d_Model_right_11 ?_
    refine zv_cSP1 X (av := [zl (wI v2), zl 0, zl 999]) (st := []) (c_Model_in Γ.2.1 X.2.2.2.2.2.2.2.1 hN (wI v2) 0 999 D) mk_Model_82 ⟨rfl, rfl, Nat.le_of_ble_eq_true rfl, Nat.le_of_ble_eq_true rfl⟩ rfl (Nat.le_of_ble_eq_true rfl) d_Model_right_14 (fun r2 hr2 => ?_)
    refine zv_if_ne X (y := 0) (tgt := 22) d_Model_right_17 (by decide) (fun h17 => ?_) (fun h17 => ?_)
    · refine zv_aload_n X d_Model_right_22 rfl 0 rfl ?_
      refine zv_iload_n X d_Model_right_23 rfl 1 rfl ?_
      refine zv_iconst X d_Model_right_24 ?_
      refine zv_cVP1 X (av := [zi v1, zi 1]) (st := []) (ci := 7) (c_Model_blindOf Γ.2.1 X.2.2.2.2.2.2.2.1 hN v1 1 D) mk_Model_233 rfl (za_144 hN) ⟨rfl, rfl, Nat.le_of_ble_eq_true rfl, Nat.le_of_ble_eq_true rfl⟩ rfl (Nat.le_of_ble_eq_true rfl) d_Model_right_25 (fun r3 hr3 => ?_)
      refine zv_istore_n X (lv2 := [(3, zi r3), (0, zr Z 144), (1, zi v1), (2, zi v2)]) d_Model_right_28 rfl (by decide) rfl ?_
      refine zv_iload_n X d_Model_right_29 rfl 0 rfl ?_
      refine zv_if_ne X (y := 0) (tgt := 38) d_Model_right_30 (by decide) (fun h30 => ?_) (fun h30 => ?_)
      · refine zv_iload_n X d_Model_right_38 rfl 3 rfl ?_
        refine zv_aload_n X d_Model_right_39 rfl 1 rfl ?_
        refine zv_iload_n X d_Model_right_40 rfl 2 rfl ?_
        refine zv_iconst X d_Model_right_41 ?_
        refine zv_cVP1 X (av := [zi v1, zi 0]) (st := [zi v2]) (ci := 7) (c_Model_blindOf Γ.2.1 X.2.2.2.2.2.2.2.1 hN v1 0 D) mk_Model_233 rfl (za_144 hN) ⟨rfl, rfl, Nat.le_of_ble_eq_true rfl, Nat.le_of_ble_eq_true rfl⟩ rfl (Nat.le_of_ble_eq_true rfl) d_Model_right_42 (fun r4 hr4 => ?_)
        refine zv_imul X d_Model_right_45 ?_
        refine zv_iload_n X d_Model_right_46 rfl 0 rfl ?_
        refine zv_idiv X d_Model_right_47 (fun h47 => ?_)
        exact zv_iretP X d_Model_right_48
      · refine zv_bipush X d_Model_right_33 (by decide +kernel) ?_
        refine zv_goto X (tgt := 48) d_Model_right_35 (by decide) ?_
        exact zv_iretP X d_Model_right_48
    · refine zv_iconst X d_Model_right_20 ?_
      exact zv_iretP X d_Model_right_21
set_option maxRecDepth 100000 in
theorem c_Model_teeth (l : Launch) {Z : Zt} (hZ : Zok Z) (hN : 166 ≤ Z.2.2.2.1) (v1 : Int)  (D : Mm) : CtM l Z y_Model_teeth prog_10_method_57_code 3 (some .int) rm_Model_teeth 1 [zr Z 144, zi v1] D (f_Model_teeth v1 D) := by
  refine zm_M (lv := [(0, zr Z 144), (1, zi v1)]) hZ (by decide +kernel) rfl (Nat.le_of_ble_eq_true rfl) rfl (fun Γ hl X => ?_)
  subst hl
  unfold f_Model_teeth
  refine zv_iload_n X d_Model_teeth_0 rfl 1 rfl ?_
  refine zv_i2l X d_Model_teeth_1 ?_
  refine zv_lconst X (x := 0) d_Model_teeth_2 (by decide +kernel) ?_
  refine zv_iconst X d_Model_teeth_3 ?_
  refine zv_aload_n X d_Model_teeth_4 rfl 0 rfl ?_
  refine zv_get X (ci := 7) rfl i_Model (za_144 hN) 2 (by decide) lk_Model_13 rfl rfl d_Model_teeth_5 ?_
  refine zv_iconst X d_Model_teeth_8 ?_
  refine zv_ialdK X (za_146 hN) (by decide) (by decide) d_Model_teeth_9 ?_
  refine zv_ishl X d_Model_teeth_10 ?_
  refine zv_iconst X d_Model_teeth_11 ?_
  refine zv_isub X d_Model_teeth_12 ?_
  refine zv_i2l X d_Model_teeth_13 ?_
  refine zv_cSP1 X (av := [zl (wI v1), zl 0, zl (wI ((jshl 1 (D 146 0)) - 1))]) (st := []) (c_Model_in Γ.2.1 X.2.2.2.2.2.2.2.1 hN (wI v1) 0 (wI ((jshl 1 (D 146 0)) - 1)) D) mk_Model_82 ⟨rfl, rfl, Nat.le_of_ble_eq_true rfl, Nat.le_of_ble_eq_true rfl⟩ rfl (Nat.le_of_ble_eq_true rfl) d_Model_teeth_14 (fun r1 hr1 => ?_)
  refine zv_if_ne X (y := 0) (tgt := 22) d_Model_teeth_17 (by decide) (fun h17 => ?_) (fun h17 => ?_)
  · refine zv_aload_n X d_Model_teeth_22 rfl 0 rfl ?_
    refine zv_get X (ci := 7) rfl i_Model (za_144 hN) 18 (by decide) lk_Model_61 rfl rfl d_Model_teeth_23 ?_
    refine zv_iconst X d_Model_teeth_26 ?_
    refine zv_ialdK X (za_162 hN) (by decide) (by decide) d_Model_teeth_27 ?_
    refine zv_istore_n X (lv2 := [(2, zi (D 162 0)), (0, zr Z 144), (1, zi v1)]) d_Model_teeth_28 rfl (by decide) rfl ?_
    refine zv_aload_n X d_Model_teeth_29 rfl 1 rfl ?_
    refine zv_get X (ci := 7) rfl i_Model (za_144 hN) 18 (by decide) lk_Model_61 rfl rfl d_Model_teeth_30 ?_
    refine zv_iconst X d_Model_teeth_33 ?_
    refine zv_iload_n X d_Model_teeth_34 rfl 2 rfl ?_
    refine zv_iastK X (za_162 hN) (by decide) (by decide) d_Model_teeth_35 (fun D2 => ?_)
    refine zv_iload_n X d_Model_teeth_36 rfl 0 rfl ?_
    exact zv_iretM X d_Model_teeth_37
  · refine zv_iconst X d_Model_teeth_20 ?_
    exact zv_iretM X d_Model_teeth_21
set_option maxRecDepth 100000 in
theorem c_Model_eaten (l : Launch) {Z : Zt} (hZ : Zok Z) (hN : 166 ≤ Z.2.2.2.1) (v1 v2 : Int)  (D : Mm) : CtP l Z y_Model_eaten prog_10_method_58_code 3 (some .int) rm_Model_eaten 1 [zr Z 144, zi v1, zi v2] D (f_Model_eaten v1 v2 D) := by
  refine zm_P (lv := [(0, zr Z 144), (1, zi v1), (2, zi v2)]) hZ (by decide +kernel) rfl (Nat.le_of_ble_eq_true rfl) rfl (fun Γ hl X => ?_)
  subst hl
  unfold f_Model_eaten
  refine zv_aload_n X d_Model_eaten_0 rfl 0 rfl ?_
  refine zv_iload_n X d_Model_eaten_1 rfl 1 rfl ?_
  refine zv_cVP1 X (av := [zi v1]) (st := []) (ci := 7) (c_Model_isFace Γ.2.1 X.2.2.2.2.2.2.2.1 hN v1 D) mk_Model_131 rfl (za_144 hN) ⟨rfl, rfl, Nat.le_of_ble_eq_true rfl, Nat.le_of_ble_eq_true rfl⟩ rfl (Nat.le_of_ble_eq_true rfl) d_Model_eaten_2 (fun r1 hr1 => ?_)
  refine zv_if_eq X (y := 0) (tgt := 36) d_Model_eaten_5 (by decide) (fun h5 => ?_) (fun h5 => ?_)
  · refine zv_iconst X d_Model_eaten_36 ?_
    exact zv_iretP X d_Model_eaten_37
  · refine zv_iload_n X d_Model_eaten_8 rfl 2 rfl ?_
    refine zv_i2l X d_Model_eaten_9 ?_
    refine zv_lconst X (x := 0) d_Model_eaten_10 (by decide +kernel) ?_
    refine zv_ldc2 X 99 kc_Model_210 (by decide +kernel) d_Model_eaten_11 ?_
    refine zv_cSP1 X (av := [zl (wI v2), zl 0, zl 99]) (st := []) (c_Model_in Γ.2.1 X.2.2.2.2.2.2.2.1 hN (wI v2) 0 99 D) mk_Model_82 ⟨rfl, rfl, Nat.le_of_ble_eq_true rfl, Nat.le_of_ble_eq_true rfl⟩ rfl (Nat.le_of_ble_eq_true rfl) d_Model_eaten_14 (fun r2 hr2 => ?_)
    refine zv_if_eq X (y := 0) (tgt := 36) d_Model_eaten_17 (by decide) (fun h17 => ?_) (fun h17 => ?_)
    · refine zv_iconst X d_Model_eaten_36 ?_
      exact zv_iretP X d_Model_eaten_37
    · refine zv_aload_n X d_Model_eaten_20 rfl 0 rfl ?_
      refine zv_iload_n X d_Model_eaten_21 rfl 1 rfl ?_
      refine zv_iload_n X d_Model_eaten_22 rfl 2 rfl ?_
      refine zv_cVP1 X (av := [zi v1, zi v2]) (st := []) (ci := 7) (c_Model_sureOf Γ.2.1 X.2.2.2.2.2.2.2.1 hN v1 v2 D) mk_Model_225 rfl (za_144 hN) ⟨rfl, rfl, Nat.le_of_ble_eq_true rfl, Nat.le_of_ble_eq_true rfl⟩ rfl (Nat.le_of_ble_eq_true rfl) d_Model_eaten_23 (fun r3 hr3 => ?_)
      refine zv_aload_n X d_Model_eaten_26 rfl 0 rfl ?_
      refine zv_get X (ci := 7) rfl i_Model (za_144 hN) 18 (by decide) lk_Model_61 rfl rfl d_Model_eaten_27 ?_
      refine zv_iconst X d_Model_eaten_30 ?_
      refine zv_ialdK X (za_162 hN) (by decide) (by decide) d_Model_eaten_31 ?_
      refine zv_iand X d_Model_eaten_32 ?_
      refine zv_goto X (tgt := 37) d_Model_eaten_33 (by decide) ?_
      exact zv_iretP X d_Model_eaten_37
set_option maxRecDepth 100000 in
theorem v_Model_readArea_54 {Γ : Gt} {Z : Zt} (X : Cx Γ Z prog_10_method_59_code R_Model 4 (some .int) rm_Model_readArea) (hN : 166 ≤ Z.2.2.2.1) (v1 v3 s0 s1 : Int)  (K4 : Int → Int → Option (Int)) (D : Mm) (hK4 : ∀ (v2 v3 : Int), Zv Γ Z 4 (QfP Γ Z 1 D) (K4 v2 v3) D 4 [(0, zr Z 144), (1, zi v1), (2, zi v2), (3, zi v3)] []) : Zv Γ Z 4 (QfP Γ Z 1 D) (f_Model_readArea_54 v1 v3 s0 s1 K4 D) D 54 [(0, zr Z 144), (1, zi v1), (3, zi v3)] [zi s0, zi s1] := by
  unfold f_Model_readArea_54
  refine zv_iadd X d_Model_readArea_54 ?_
  refine zv_istore_n X (lv2 := [(2, zi (s1 + s0)), (0, zr Z 144), (1, zi v1), (3, zi v3)]) d_Model_readArea_55 rfl (by decide) rfl ?_
  refine zv_iinc X (lv2 := [(3, zi (v3 + 1)), (2, zi (s1 + s0)), (0, zr Z 144), (1, zi v1)]) d_Model_readArea_56 3 rfl (by decide) rfl ?_
  refine zv_goto X (tgt := 4) d_Model_readArea_59 (by decide) ?_
  refine zv_sub X [2, 3, 1, 0] rfl ?_
  exact hK4 (s1 + s0) (v3 + 1)
set_option maxRecDepth 100000 in
theorem v_Model_readArea_53 {Γ : Gt} {Z : Zt} (X : Cx Γ Z prog_10_method_59_code R_Model 4 (some .int) rm_Model_readArea) (hN : 166 ≤ Z.2.2.2.1) (v1 v3 s0 : Int)  (K4 : Int → Int → Option (Int)) (D : Mm) (hK4 : ∀ (v2 v3 : Int), Zv Γ Z 4 (QfP Γ Z 1 D) (K4 v2 v3) D 4 [(0, zr Z 144), (1, zi v1), (2, zi v2), (3, zi v3)] []) : Zv Γ Z 4 (QfP Γ Z 1 D) (f_Model_readArea_53 v1 v3 s0 K4 D) D 53 [(0, zr Z 144), (1, zi v1), (3, zi v3)] [zi s0] := by
  unfold f_Model_readArea_53
  refine zv_iconst X d_Model_readArea_53 ?_
  exact v_Model_readArea_54 X hN v1 v3 0 s0 K4 D hK4
set_option maxRecDepth 100000 in
theorem v_Model_readArea_4 {Γ : Gt} {Z : Zt} (X : Cx Γ Z prog_10_method_59_code R_Model 4 (some .int) rm_Model_readArea) (hN : 166 ≤ Z.2.2.2.1) (v1 : Int)   (D : Mm)  : ∀ (n : Nat) (v2 v3 : Int) , Zv Γ Z 4 (QfP Γ Z 1 D) (f_Model_readArea_4 v1 D n v2 v3) D 4 [(0, zr Z 144), (1, zi v1), (2, zi v2), (3, zi v3)] [] := by
  intro n
  induction n with
  | zero =>
    intro v2 v3
    exact zv_none
  | succ n ih =>
    intro v2 v3
    rw [f_Model_readArea_4]
    refine zv_iload_n X d_Model_readArea_4 rfl 3 rfl ?_
    refine zv_aload_n X d_Model_readArea_5 rfl 0 rfl ?_
    refine zv_get X (ci := 7) rfl i_Model (za_144 hN) 4 (by decide) lk_Model_19 rfl rfl d_Model_readArea_6 ?_
    refine zv_iconst X d_Model_readArea_9 ?_
    refine zv_ialdK X (za_148 hN) (by decide) (by decide) d_Model_readArea_10 ?_
    refine zv_icmp_ge X (tgt := 62) d_Model_readArea_11 (by decide) (fun h11 => ?_) (fun h11 => ?_)
    · refine zv_iload_n X d_Model_readArea_62 rfl 2 rfl ?_
      exact zv_iretP X d_Model_readArea_63
    · refine zv_iload_n X d_Model_readArea_14 rfl 2 rfl ?_
      refine zv_aload_n X d_Model_readArea_15 rfl 0 rfl ?_
      refine zv_get X (ci := 7) rfl i_Model (za_144 hN) 6 (by decide) lk_Model_25 rfl rfl d_Model_readArea_16 ?_
      refine zv_iload_n X d_Model_readArea_19 rfl 3 rfl ?_
      refine zv_iald X (za_150 hN) d_Model_readArea_20 (fun ha20 hb20 => ?_)
      refine zv_if_eq X (y := 0) (tgt := 53) d_Model_readArea_21 (by decide) (fun h21 => ?_) (fun h21 => ?_)
      · refine zv_sub X [0, 1, 3] rfl ?_
        exact v_Model_readArea_53 X hN v1 v3 v2 (f_Model_readArea_4 v1 D n) D ih
      · refine zv_aload_n X d_Model_readArea_24 rfl 0 rfl ?_
        refine zv_get X (ci := 7) rfl i_Model (za_144 hN) 5 (by decide) lk_Model_22 rfl rfl d_Model_readArea_25 ?_
        refine zv_iload_n X d_Model_readArea_28 rfl 3 rfl ?_
        refine zv_iald X (za_149 hN) d_Model_readArea_29 (fun ha29 hb29 => ?_)
        refine zv_iload_n X d_Model_readArea_30 rfl 1 rfl ?_
        refine zv_icmp_ne X (tgt := 53) d_Model_readArea_31 (by decide) (fun h31 => ?_) (fun h31 => ?_)
        · refine zv_sub X [0, 1, 3] rfl ?_
          exact v_Model_readArea_53 X hN v1 v3 v2 (f_Model_readArea_4 v1 D n) D ih
        · refine zv_aload_n X d_Model_readArea_34 rfl 0 rfl ?_
          refine zv_get X (ci := 7) rfl i_Model (za_144 hN) 16 (by decide) lk_Model_55 rfl rfl d_Model_readArea_35 ?_
          refine zv_iload_n X d_Model_readArea_38 rfl 3 rfl ?_
          refine zv_iald X (za_160 hN) d_Model_readArea_39 (fun ha39 hb39 => ?_)
          refine zv_iconst X d_Model_readArea_40 ?_
          refine zv_icmp_ne X (tgt := 53) d_Model_readArea_41 (by decide) (fun h41 => ?_) (fun h41 => ?_)
          · refine zv_sub X [0, 1, 3] rfl ?_
            exact v_Model_readArea_53 X hN v1 v3 v2 (f_Model_readArea_4 v1 D n) D ih
          · refine zv_aload_n X d_Model_readArea_44 rfl 0 rfl ?_
            refine zv_get X (ci := 7) rfl i_Model (za_144 hN) 7 (by decide) lk_Model_28 rfl rfl d_Model_readArea_45 ?_
            refine zv_iload_n X d_Model_readArea_48 rfl 3 rfl ?_
            refine zv_iald X (za_151 hN) d_Model_readArea_49 (fun ha49 hb49 => ?_)
            refine zv_goto X (tgt := 54) d_Model_readArea_50 (by decide) ?_
            refine zv_sub X [0, 1, 3] rfl ?_
            exact v_Model_readArea_54 X hN v1 v3 (D 151 v3) v2 (f_Model_readArea_4 v1 D n) D ih
set_option maxRecDepth 100000 in
theorem c_Model_readArea (l : Launch) {Z : Zt} (hZ : Zok Z) (hN : 166 ≤ Z.2.2.2.1) (v1 : Int)  (D : Mm) : CtP l Z y_Model_readArea prog_10_method_59_code 4 (some .int) rm_Model_readArea 1 [zr Z 144, zi v1] D (f_Model_readArea v1 D) := by
  refine zm_P (lv := [(0, zr Z 144), (1, zi v1)]) hZ (by decide +kernel) rfl (Nat.le_of_ble_eq_true rfl) rfl (fun Γ hl X => ?_)
  subst hl
  unfold f_Model_readArea
  refine zv_iconst X d_Model_readArea_0 ?_
  refine zv_istore_n X (lv2 := [(2, zi 0), (0, zr Z 144), (1, zi v1)]) d_Model_readArea_1 rfl (by decide) rfl ?_
  refine zv_iconst X d_Model_readArea_2 ?_
  refine zv_istore_n X (lv2 := [(3, zi 0), (2, zi 0), (0, zr Z 144), (1, zi v1)]) d_Model_readArea_3 rfl (by decide) rfl ?_
  refine zv_sub X [2, 3, 1, 0] rfl ?_
  exact v_Model_readArea_4 X hN v1 D zF 0 0
set_option maxRecDepth 100000 in
theorem v_Model_next_75 {Γ : Gt} {Z : Zt} (X : Cx Γ Z prog_10_method_60_code R_Model 4 (some .int) rm_Model_next) (hN : 166 ≤ Z.2.2.2.1) (v2 s0 : Int)  (K4 : Int → Int → Option (Int)) (D : Mm) (hK4 : ∀ (v1 v2 : Int), Zv Γ Z 4 (QfP Γ Z 1 D) (K4 v1 v2) D 5 [(0, zr Z 144), (1, zi v1), (2, zi v2)] []) : Zv Γ Z 4 (QfP Γ Z 1 D) (f_Model_next_75 v2 s0 K4 D) D 75 [(0, zr Z 144), (2, zi v2)] [zi s0] := by
  unfold f_Model_next_75
  refine zv_istore_n X (lv2 := [(1, zi s0), (0, zr Z 144), (2, zi v2)]) d_Model_next_75 rfl (by decide) rfl ?_
  refine zv_iinc X (lv2 := [(2, zi (v2 + 1)), (1, zi s0), (0, zr Z 144)]) d_Model_next_76 2 rfl (by decide) rfl ?_
  refine zv_goto X (tgt := 5) d_Model_next_79 (by decide) ?_
  refine zv_sub X [2, 1, 0] rfl ?_
  exact hK4 s0 (v2 + 1)
set_option maxRecDepth 100000 in
theorem v_Model_next_74 {Γ : Gt} {Z : Zt} (X : Cx Γ Z prog_10_method_60_code R_Model 4 (some .int) rm_Model_next) (hN : 166 ≤ Z.2.2.2.1) (v1 v2 : Int)  (K4 : Int → Int → Option (Int)) (D : Mm) (hK4 : ∀ (v1 v2 : Int), Zv Γ Z 4 (QfP Γ Z 1 D) (K4 v1 v2) D 5 [(0, zr Z 144), (1, zi v1), (2, zi v2)] []) : Zv Γ Z 4 (QfP Γ Z 1 D) (f_Model_next_74 v1 v2 K4 D) D 74 [(0, zr Z 144), (1, zi v1), (2, zi v2)] [] := by
  unfold f_Model_next_74
  refine zv_iload_n X d_Model_next_74 rfl 1 rfl ?_
  refine zv_sub X [0, 2] rfl ?_
  exact v_Model_next_75 X hN v2 v1 K4 D hK4
set_option maxRecDepth 100000 in
theorem v_Model_next_70 {Γ : Gt} {Z : Zt} (X : Cx Γ Z prog_10_method_60_code R_Model 4 (some .int) rm_Model_next) (hN : 166 ≤ Z.2.2.2.1) (v2 : Int)  (K4 : Int → Int → Option (Int)) (D : Mm) (hK4 : ∀ (v1 v2 : Int), Zv Γ Z 4 (QfP Γ Z 1 D) (K4 v1 v2) D 5 [(0, zr Z 144), (1, zi v1), (2, zi v2)] []) : Zv Γ Z 4 (QfP Γ Z 1 D) (f_Model_next_70 v2 K4 D) D 70 [(0, zr Z 144), (2, zi v2)] [] := by
  unfold f_Model_next_70
  refine zv_iload_n X d_Model_next_70 rfl 1 rfl ?_
  refine zv_goto X (tgt := 75) d_Model_next_71 (by decide) ?_
  exact v_Model_next_75 X hN v2 v2 K4 D hK4
set_option maxRecDepth 100000 in
theorem v_Model_next_38 {Γ : Gt} {Z : Zt} (X : Cx Γ Z prog_10_method_60_code R_Model 4 (some .int) rm_Model_next) (hN : 166 ≤ Z.2.2.2.1) (v1 v2 s0 : Int)  (K4 : Int → Int → Option (Int)) (D : Mm) (hK4 : ∀ (v1 v2 : Int), Zv Γ Z 4 (QfP Γ Z 1 D) (K4 v1 v2) D 5 [(0, zr Z 144), (1, zi v1), (2, zi v2)] []) : Zv Γ Z 4 (QfP Γ Z 1 D) (f_Model_next_38 v1 v2 s0 K4 D) D 38 [(0, zr Z 144), (1, zi v1), (2, zi v2)] [zi s0] := by
  unfold f_Model_next_38
  refine zv_istore_n X (lv2 := [(3, zi s0), (0, zr Z 144), (1, zi v1), (2, zi v2)]) d_Model_next_38 rfl (by decide) rfl ?_
  refine zv_iload_n X d_Model_next_39 rfl 0 rfl ?_
  refine zv_if_eq X (y := 0) (tgt := 74) d_Model_next_40 (by decide) (fun h40 => ?_) (fun h40 => ?_)
  · refine zv_sub X [1, 2, 3] rfl ?_
    exact v_Model_next_74 X hN v1 v2 K4 D hK4
  · refine zv_iload_n X d_Model_next_43 rfl 2 rfl ?_
    refine zv_if_lt X (y := 0) (tgt := 70) d_Model_next_44 (by decide) (fun h44 => ?_) (fun h44 => ?_)
    · refine zv_sub X [1, 3] rfl ?_
      exact v_Model_next_70 X hN v2 K4 D hK4
    · refine zv_aload_n X d_Model_next_47 rfl 1 rfl ?_
      refine zv_aload_n X d_Model_next_48 rfl 1 rfl ?_
      refine zv_get X (ci := 7) rfl i_Model (za_144 hN) 5 (by decide) lk_Model_22 rfl rfl d_Model_next_49 ?_
      refine zv_iload_n X d_Model_next_52 rfl 3 rfl ?_
      refine zv_iald X (za_149 hN) d_Model_next_53 (fun ha53 hb53 => ?_)
      refine zv_cVP1 X (av := [zi (D 149 v2)]) (st := []) (ci := 7) (c_Model_readArea Γ.2.1 X.2.2.2.2.2.2.2.1 hN (D 149 v2) D) mk_Model_239 rfl (za_144 hN) ⟨rfl, rfl, Nat.le_of_ble_eq_true rfl, Nat.le_of_ble_eq_true rfl⟩ rfl (Nat.le_of_ble_eq_true rfl) d_Model_next_54 (fun r1 hr1 => ?_)
      refine zv_aload_n X d_Model_next_57 rfl 1 rfl ?_
      refine zv_aload_n X d_Model_next_58 rfl 1 rfl ?_
      refine zv_get X (ci := 7) rfl i_Model (za_144 hN) 5 (by decide) lk_Model_22 rfl rfl d_Model_next_59 ?_
      refine zv_iload_n X d_Model_next_62 rfl 2 rfl ?_
      refine zv_iald X (za_149 hN) d_Model_next_63 (fun ha63 hb63 => ?_)
      refine zv_cVP1 X (av := [zi (D 149 v1)]) (st := [zi r1]) (ci := 7) (c_Model_readArea Γ.2.1 X.2.2.2.2.2.2.2.1 hN (D 149 v1) D) mk_Model_239 rfl (za_144 hN) ⟨rfl, rfl, Nat.le_of_ble_eq_true rfl, Nat.le_of_ble_eq_true rfl⟩ rfl (Nat.le_of_ble_eq_true rfl) d_Model_next_64 (fun r2 hr2 => ?_)
      refine zv_icmp_le X (tgt := 74) d_Model_next_67 (by decide) (fun h67 => ?_) (fun h67 => ?_)
      · refine zv_sub X [1, 2, 3] rfl ?_
        exact v_Model_next_74 X hN v1 v2 K4 D hK4
      · refine zv_sub X [1, 3] rfl ?_
        exact v_Model_next_70 X hN v2 K4 D hK4
set_option maxRecDepth 100000 in
theorem v_Model_next_37 {Γ : Gt} {Z : Zt} (X : Cx Γ Z prog_10_method_60_code R_Model 4 (some .int) rm_Model_next) (hN : 166 ≤ Z.2.2.2.1) (v1 v2 : Int)  (K4 : Int → Int → Option (Int)) (D : Mm) (hK4 : ∀ (v1 v2 : Int), Zv Γ Z 4 (QfP Γ Z 1 D) (K4 v1 v2) D 5 [(0, zr Z 144), (1, zi v1), (2, zi v2)] []) : Zv Γ Z 4 (QfP Γ Z 1 D) (f_Model_next_37 v1 v2 K4 D) D 37 [(0, zr Z 144), (1, zi v1), (2, zi v2)] [] := by
  unfold f_Model_next_37
  refine zv_iconst X d_Model_next_37 ?_
  exact v_Model_next_38 X hN v1 v2 0 K4 D hK4
set_option maxRecDepth 100000 in
theorem v_Model_next_5 {Γ : Gt} {Z : Zt} (X : Cx Γ Z prog_10_method_60_code R_Model 4 (some .int) rm_Model_next) (hN : 166 ≤ Z.2.2.2.1)   (D : Mm)  : ∀ (n : Nat) (v1 v2 : Int) , Zv Γ Z 4 (QfP Γ Z 1 D) (f_Model_next_5 D n v1 v2) D 5 [(0, zr Z 144), (1, zi v1), (2, zi v2)] [] := by
  intro n
  induction n with
  | zero =>
    intro v1 v2
    exact zv_none
  | succ n ih =>
    intro v1 v2
    rw [f_Model_next_5]
    refine zv_iload_n X d_Model_next_5 rfl 2 rfl ?_
    refine zv_aload_n X d_Model_next_6 rfl 0 rfl ?_
    refine zv_get X (ci := 7) rfl i_Model (za_144 hN) 4 (by decide) lk_Model_19 rfl rfl d_Model_next_7 ?_
    refine zv_iconst X d_Model_next_10 ?_
    refine zv_ialdK X (za_148 hN) (by decide) (by decide) d_Model_next_11 ?_
    refine zv_icmp_ge X (tgt := 82) d_Model_next_12 (by decide) (fun h12 => ?_) (fun h12 => ?_)
    · refine zv_iload_n X d_Model_next_82 rfl 1 rfl ?_
      exact zv_iretP X d_Model_next_83
    · refine zv_aload_n X d_Model_next_15 rfl 0 rfl ?_
      refine zv_get X (ci := 7) rfl i_Model (za_144 hN) 6 (by decide) lk_Model_25 rfl rfl d_Model_next_16 ?_
      refine zv_iload_n X d_Model_next_19 rfl 2 rfl ?_
      refine zv_iald X (za_150 hN) d_Model_next_20 (fun ha20 hb20 => ?_)
      refine zv_if_ne X (y := 0) (tgt := 37) d_Model_next_21 (by decide) (fun h21 => ?_) (fun h21 => ?_)
      · exact v_Model_next_37 X hN v1 v2 (f_Model_next_5 D n) D ih
      · refine zv_aload_n X d_Model_next_24 rfl 0 rfl ?_
        refine zv_get X (ci := 7) rfl i_Model (za_144 hN) 16 (by decide) lk_Model_55 rfl rfl d_Model_next_25 ?_
        refine zv_iload_n X d_Model_next_28 rfl 2 rfl ?_
        refine zv_iald X (za_160 hN) d_Model_next_29 (fun ha29 hb29 => ?_)
        refine zv_if_ne X (y := 0) (tgt := 37) d_Model_next_30 (by decide) (fun h30 => ?_) (fun h30 => ?_)
        · exact v_Model_next_37 X hN v1 v2 (f_Model_next_5 D n) D ih
        · refine zv_iconst X d_Model_next_33 ?_
          refine zv_goto X (tgt := 38) d_Model_next_34 (by decide) ?_
          exact v_Model_next_38 X hN v1 v2 1 (f_Model_next_5 D n) D ih
set_option maxRecDepth 100000 in
theorem c_Model_next (l : Launch) {Z : Zt} (hZ : Zok Z) (hN : 166 ≤ Z.2.2.2.1)  (D : Mm) : CtP l Z y_Model_next prog_10_method_60_code 4 (some .int) rm_Model_next 1 [zr Z 144] D (f_Model_next D) := by
  refine zm_P (lv := [(0, zr Z 144)]) hZ (by decide +kernel) rfl (Nat.le_of_ble_eq_true rfl) rfl (fun Γ hl X => ?_)
  subst hl
  unfold f_Model_next
  refine zv_bipush X d_Model_next_0 (by decide +kernel) ?_
  refine zv_istore_n X (lv2 := [(1, zi (-4)), (0, zr Z 144)]) d_Model_next_2 rfl (by decide) rfl ?_
  refine zv_iconst X d_Model_next_3 ?_
  refine zv_istore_n X (lv2 := [(2, zi 0), (1, zi (-4)), (0, zr Z 144)]) d_Model_next_4 rfl (by decide) rfl ?_
  refine zv_sub X [2, 1, 0] rfl ?_
  exact v_Model_next_5 X hN D zF (-4) 0

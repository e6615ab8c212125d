set_option maxRecDepth 100000 in
theorem c_Model_isSort (l : Launch) {Z : Zt} (hZ : Zok Z) (hN : 166 ≤ Z.2.2.2.1) (v1 : Int)  (D : Mm) : CtP l Z y_Model_isSort prog_10_method_16_code 2 (some .boolean) rm_Model_isSort 1 [zr Z 144, zi v1] D (f_Model_isSort v1 D) := by
  refine zm_P (lv := [(0, zr Z 144), (1, zi v1)]) hZ (by decide +kernel) rfl (Nat.le_of_ble_eq_true rfl) rfl (fun Γ hl X => ?_)
  subst hl
  unfold f_Model_isSort
  refine zv_iload_n X d_Model_isSort_0 rfl 1 rfl ?_
  refine zv_i2l X d_Model_isSort_1 ?_
  refine zv_lconst X (x := 0) d_Model_isSort_2 (by decide +kernel) ?_
  refine zv_aload_n X d_Model_isSort_3 rfl 0 rfl ?_
  refine zv_get X (ci := 7) rfl i_Model (za_144 hN) 2 (by decide) lk_Model_13 rfl rfl d_Model_isSort_4 ?_
  refine zv_iconst X d_Model_isSort_7 ?_
  refine zv_ialdK X (za_146 hN) (by decide) (by decide) d_Model_isSort_8 ?_
  refine zv_iconst X d_Model_isSort_9 ?_
  refine zv_isub X d_Model_isSort_10 ?_
  refine zv_i2l X d_Model_isSort_11 ?_
  refine zv_cSP1 X (av := [zl (wI v1), zl 0, zl (wI ((D 146 0) - 1))]) (st := []) (c_Model_in Γ.2.1 X.2.2.2.2.2.2.2.1 hN (wI v1) 0 (wI ((D 146 0) - 1)) D) mk_Model_82 ⟨rfl, rfl, Nat.le_of_ble_eq_true rfl, Nat.le_of_ble_eq_true rfl⟩ rfl (Nat.le_of_ble_eq_true rfl) d_Model_isSort_12 (fun r1 hr1 => ?_)
  exact zv_zretP X d_Model_isSort_15
set_option maxRecDepth 100000 in
theorem c_Model_isFace (l : Launch) {Z : Zt} (hZ : Zok Z) (hN : 166 ≤ Z.2.2.2.1) (v1 : Int)  (D : Mm) : CtP l Z y_Model_isFace prog_10_method_17_code 2 (some .boolean) rm_Model_isFace 1 [zr Z 144, zi v1] D (f_Model_isFace v1 D) := by
  refine zm_P (lv := [(0, zr Z 144), (1, zi v1)]) hZ (by decide +kernel) rfl (Nat.le_of_ble_eq_true rfl) rfl (fun Γ hl X => ?_)
  subst hl
  unfold f_Model_isFace
  refine zv_iload_n X d_Model_isFace_0 rfl 1 rfl ?_
  refine zv_i2l X d_Model_isFace_1 ?_
  refine zv_lconst X (x := 0) d_Model_isFace_2 (by decide +kernel) ?_
  refine zv_aload_n X d_Model_isFace_3 rfl 0 rfl ?_
  refine zv_get X (ci := 7) rfl i_Model (za_144 hN) 4 (by decide) lk_Model_19 rfl rfl d_Model_isFace_4 ?_
  refine zv_iconst X d_Model_isFace_7 ?_
  refine zv_ialdK X (za_148 hN) (by decide) (by decide) d_Model_isFace_8 ?_
  refine zv_iconst X d_Model_isFace_9 ?_
  refine zv_isub X d_Model_isFace_10 ?_
  refine zv_i2l X d_Model_isFace_11 ?_
  refine zv_cSP1 X (av := [zl (wI v1), zl 0, zl (wI ((D 148 0) - 1))]) (st := []) (c_Model_in Γ.2.1 X.2.2.2.2.2.2.2.1 hN (wI v1) 0 (wI ((D 148 0) - 1)) D) mk_Model_82 ⟨rfl, rfl, Nat.le_of_ble_eq_true rfl, Nat.le_of_ble_eq_true rfl⟩ rfl (Nat.le_of_ble_eq_true rfl) d_Model_isFace_12 (fun r1 hr1 => ?_)
  exact zv_zretP X d_Model_isFace_15
set_option maxRecDepth 100000 in
theorem c_Model_face (l : Launch) {Z : Zt} (hZ : Zok Z) (hN : 166 ≤ Z.2.2.2.1) (v1 v2 : Int)  (D : Mm) : CtP l Z y_Model_face prog_10_method_18_code 3 (some .int) rm_Model_face 1 [zr Z 144, zi v1, zi v2] D (f_Model_face v1 v2 D) := by
  refine zm_P (lv := [(0, zr Z 144), (1, zi v1), (2, zi v2)]) hZ (by decide +kernel) rfl (Nat.le_of_ble_eq_true rfl) rfl (fun Γ hl X => ?_)
  subst hl
  unfold f_Model_face
  refine zv_aload_n X d_Model_face_0 rfl 0 rfl ?_
  refine zv_iload_n X d_Model_face_1 rfl 1 rfl ?_
  refine zv_cVP1 X (av := [zi v1]) (st := []) (ci := 7) (c_Model_isFace Γ.2.1 X.2.2.2.2.2.2.2.1 hN v1 D) mk_Model_131 rfl (za_144 hN) ⟨rfl, rfl, Nat.le_of_ble_eq_true rfl, Nat.le_of_ble_eq_true rfl⟩ rfl (Nat.le_of_ble_eq_true rfl) d_Model_face_2 (fun r1 hr1 => ?_)
  refine zv_if_eq X (y := 0) (tgt := 20) d_Model_face_5 (by decide) (fun h5 => ?_) (fun h5 => ?_)
  · refine zv_iconst X d_Model_face_20 ?_
    exact zv_iretP X d_Model_face_21
  · refine zv_iload_n X d_Model_face_8 rfl 2 rfl ?_
    refine zv_i2l X d_Model_face_9 ?_
    refine zv_lconst X (x := 0) d_Model_face_10 (by decide +kernel) ?_
    refine zv_ldc2 X 4 kc_Model_134 (by decide +kernel) d_Model_face_11 ?_
    refine zv_cSP1 X (av := [zl (wI v2), zl 0, zl 4]) (st := []) (c_Model_in Γ.2.1 X.2.2.2.2.2.2.2.1 hN (wI v2) 0 4 D) mk_Model_82 ⟨rfl, rfl, Nat.le_of_ble_eq_true rfl, Nat.le_of_ble_eq_true rfl⟩ rfl (Nat.le_of_ble_eq_true rfl) d_Model_face_14 (fun r2 hr2 => ?_)
    refine zv_if_ne X (y := 0) (tgt := 22) d_Model_face_17 (by decide) (fun h17 => ?_) (fun h17 => ?_)
    · refine zv_iload_n X d_Model_face_22 rfl 2 rfl ?_
      refine zv_split (fun h23_0 => ?_) (fun h23_0 => ?_)
      · refine zv_tin X (tgt := 52) (off := 29) d_Model_face_23 h23_0 (by decide +kernel) (by decide) ?_
        refine zv_aload_n X d_Model_face_52 rfl 0 rfl ?_
        refine zv_get X (ci := 7) rfl i_Model (za_144 hN) 5 (by decide) lk_Model_22 rfl rfl d_Model_face_53 ?_
        refine zv_iload_n X d_Model_face_56 rfl 1 rfl ?_
        refine zv_iald X (za_149 hN) d_Model_face_57 (fun ha57 hb57 => ?_)
        exact zv_iretP X d_Model_face_58
      refine zv_split (fun h23_1 => ?_) (fun h23_1 => ?_)
      · refine zv_tin X (tgt := 59) (off := 36) d_Model_face_23 h23_1 (by decide +kernel) (by decide) ?_
        refine zv_aload_n X d_Model_face_59 rfl 0 rfl ?_
        refine zv_get X (ci := 7) rfl i_Model (za_144 hN) 6 (by decide) lk_Model_25 rfl rfl d_Model_face_60 ?_
        refine zv_iload_n X d_Model_face_63 rfl 1 rfl ?_
        refine zv_iald X (za_150 hN) d_Model_face_64 (fun ha64 hb64 => ?_)
        exact zv_iretP X d_Model_face_65
      refine zv_split (fun h23_2 => ?_) (fun h23_2 => ?_)
      · refine zv_tin X (tgt := 66) (off := 43) d_Model_face_23 h23_2 (by decide +kernel) (by decide) ?_
        refine zv_aload_n X d_Model_face_66 rfl 0 rfl ?_
        refine zv_get X (ci := 7) rfl i_Model (za_144 hN) 7 (by decide) lk_Model_28 rfl rfl d_Model_face_67 ?_
        refine zv_iload_n X d_Model_face_70 rfl 1 rfl ?_
        refine zv_iald X (za_151 hN) d_Model_face_71 (fun ha71 hb71 => ?_)
        exact zv_iretP X d_Model_face_72
      refine zv_split (fun h23_3 => ?_) (fun h23_3 => ?_)
      · refine zv_tin X (tgt := 73) (off := 50) d_Model_face_23 h23_3 (by decide +kernel) (by decide) ?_
        refine zv_aload_n X d_Model_face_73 rfl 0 rfl ?_
        refine zv_get X (ci := 7) rfl i_Model (za_144 hN) 8 (by decide) lk_Model_31 rfl rfl d_Model_face_74 ?_
        refine zv_iload_n X d_Model_face_77 rfl 1 rfl ?_
        refine zv_iald X (za_152 hN) d_Model_face_78 (fun ha78 hb78 => ?_)
        exact zv_iretP X d_Model_face_79
      refine zv_tdef X (tgt := 80) d_Model_face_23 (zt_def (cs := [0, 1, 2, 3]) (by decide +kernel) (by decide) (List.forall_mem_cons.mpr ⟨zI_nek h23_0 (by decide +kernel), List.forall_mem_cons.mpr ⟨zI_nek h23_1 (by decide +kernel), List.forall_mem_cons.mpr ⟨zI_nek h23_2 (by decide +kernel), List.forall_mem_cons.mpr ⟨zI_nek h23_3 (by decide +kernel), List.forall_mem_nil _⟩⟩⟩⟩)) (by decide) ?_
      refine zv_aload_n X d_Model_face_80 rfl 0 rfl ?_
      refine zv_get X (ci := 7) rfl i_Model (za_144 hN) 16 (by decide) lk_Model_55 rfl rfl d_Model_face_81 ?_
      refine zv_iload_n X d_Model_face_84 rfl 1 rfl ?_
      refine zv_iald X (za_160 hN) d_Model_face_85 (fun ha85 hb85 => ?_)
      exact zv_iretP X d_Model_face_86
    · refine zv_iconst X d_Model_face_20 ?_
      exact zv_iretP X d_Model_face_21
set_option maxRecDepth 100000 in
theorem v_Model_liesOf_97 {Γ : Gt} {Z : Zt} (X : Cx Γ Z prog_10_method_19_code R_Model 6 (some .int) rm_Model_liesOf) (hN : 166 ≤ Z.2.2.2.1) (v1 v2 v3 v4 v5 : Int)  (K16 : Int → Int → Option (Int)) (D : Mm) (hK16 : ∀ (v4 v5 : Int), Zv Γ Z 6 (QfP Γ Z 1 D) (K16 v4 v5) D 25 [(0, zr Z 144), (1, zi v1), (2, zi v2), (3, zi v3), (4, zi v4), (5, zi v5)] []) : Zv Γ Z 6 (QfP Γ Z 1 D) (f_Model_liesOf_97 v1 v2 v3 v4 v5 K16 D) D 97 [(0, zr Z 144), (1, zi v1), (2, zi v2), (3, zi v3), (4, zi v4), (5, zi v5)] [] := by
  unfold f_Model_liesOf_97
  refine zv_iinc X (lv2 := [(5, zi (v5 + 1)), (0, zr Z 144), (1, zi v1), (2, zi v2), (3, zi v3), (4, zi v4)]) d_Model_liesOf_97 5 rfl (by decide) rfl ?_
  refine zv_goto X (tgt := 25) d_Model_liesOf_100 (by decide) ?_
  refine zv_sub X [1, 2, 3, 4, 5, 0] rfl ?_
  exact hK16 v4 (v5 + 1)
set_option maxRecDepth 100000 in
theorem v_Model_liesOf_94 {Γ : Gt} {Z : Zt} (X : Cx Γ Z prog_10_method_19_code R_Model 6 (some .int) rm_Model_liesOf) (hN : 166 ≤ Z.2.2.2.1) (v1 v2 v3 v5 s0 s1 : Int)  (K16 : Int → Int → Option (Int)) (D : Mm) (hK16 : ∀ (v4 v5 : Int), Zv Γ Z 6 (QfP Γ Z 1 D) (K16 v4 v5) D 25 [(0, zr Z 144), (1, zi v1), (2, zi v2), (3, zi v3), (4, zi v4), (5, zi v5)] []) : Zv Γ Z 6 (QfP Γ Z 1 D) (f_Model_liesOf_94 v1 v2 v3 v5 s0 s1 K16 D) D 94 [(0, zr Z 144), (1, zi v1), (2, zi v2), (3, zi v3), (5, zi v5)] [zi s0, zi s1] := by
  unfold f_Model_liesOf_94
  refine zv_iadd X d_Model_liesOf_94 ?_
  refine zv_istore X (lv2 := [(4, zi (s1 + s0)), (0, zr Z 144), (1, zi v1), (2, zi v2), (3, zi v3), (5, zi v5)]) d_Model_liesOf_95 (by decide) rfl ?_
  refine zv_sub X [1, 2, 3, 4, 0, 5] rfl ?_
  exact v_Model_liesOf_97 X hN v1 v2 v3 (s1 + s0) v5 K16 D hK16
set_option maxRecDepth 100000 in
theorem v_Model_liesOf_25 {Γ : Gt} {Z : Zt} (X : Cx Γ Z prog_10_method_19_code R_Model 6 (some .int) rm_Model_liesOf) (hN : 166 ≤ Z.2.2.2.1) (v1 v2 v3 : Int)   (D : Mm)  : ∀ (n : Nat) (v4 v5 : Int) , Zv Γ Z 6 (QfP Γ Z 1 D) (f_Model_liesOf_25 v1 v2 v3 D n v4 v5) D 25 [(0, zr Z 144), (1, zi v1), (2, zi v2), (3, zi v3), (4, zi v4), (5, zi v5)] [] := by
  intro n
  induction n with
  | zero =>
    intro v4 v5
    exact zv_none
  | succ n ih =>
    intro v4 v5
    rw [f_Model_liesOf_25]
    refine zv_iload X d_Model_liesOf_25 5 rfl ?_
    refine zv_iconst X d_Model_liesOf_27 ?_
    refine zv_icmp_ge X (tgt := 103) d_Model_liesOf_28 (by decide) (fun h28 => ?_) (fun h28 => ?_)
    · refine zv_iload X d_Model_liesOf_103 4 rfl ?_
      exact zv_iretP X d_Model_liesOf_105
    · refine zv_aload_n X d_Model_liesOf_31 rfl 0 rfl ?_
      refine zv_get X (ci := 7) rfl i_Model (za_144 hN) 8 (by decide) lk_Model_31 rfl rfl d_Model_liesOf_32 ?_
      refine zv_iload_n X d_Model_liesOf_35 rfl 1 rfl ?_
      refine zv_iald X (za_152 hN) d_Model_liesOf_36 (fun ha36 hb36 => ?_)
      refine zv_iload X d_Model_liesOf_37 5 rfl ?_
      refine zv_cSP1 X (av := [zi (D 152 v1), zi v5]) (st := []) (c_Model_has Γ.2.1 X.2.2.2.2.2.2.2.1 hN (D 152 v1) v5 D) mk_Model_136 ⟨rfl, rfl, Nat.le_of_ble_eq_true rfl, Nat.le_of_ble_eq_true rfl⟩ rfl (Nat.le_of_ble_eq_true rfl) d_Model_liesOf_39 (fun r1 hr1 => ?_)
      refine zv_if_eq X (y := 0) (tgt := 97) d_Model_liesOf_42 (by decide) (fun h42 => ?_) (fun h42 => ?_)
      · exact v_Model_liesOf_97 X hN v1 v2 v3 v4 v5 (f_Model_liesOf_25 v1 v2 v3 D n) D ih
      · refine zv_iload X d_Model_liesOf_45 4 rfl ?_
        refine zv_iload X d_Model_liesOf_47 4 rfl ?_
        refine zv_aload_n X d_Model_liesOf_49 rfl 0 rfl ?_
        refine zv_get X (ci := 7) rfl i_Model (za_144 hN) 11 (by decide) lk_Model_40 rfl rfl d_Model_liesOf_50 ?_
        refine zv_iload X d_Model_liesOf_53 5 rfl ?_
        refine zv_iald X (za_155 hN) d_Model_liesOf_55 (fun ha55 hb55 => ?_)
        refine zv_imul X d_Model_liesOf_56 ?_
        refine zv_bipush X d_Model_liesOf_57 (by decide +kernel) ?_
        refine zv_idivK X d_Model_liesOf_59 (by decide +kernel) ?_
        refine zv_isub X d_Model_liesOf_60 ?_
        refine zv_istore X (lv2 := [(4, zi (v4 - (jdiv (v4 * (D 155 v5)) 100))), (0, zr Z 144), (1, zi v1), (2, zi v2), (3, zi v3), (5, zi v5)]) d_Model_liesOf_61 (by decide) rfl ?_
        refine zv_iload X d_Model_liesOf_63 0 rfl ?_
        refine zv_iload_n X d_Model_liesOf_65 rfl 4 rfl ?_
        refine zv_iload X d_Model_liesOf_66 5 rfl ?_
        refine zv_icmp_ne X (tgt := 93) d_Model_liesOf_68 (by decide) (fun h68 => ?_) (fun h68 => ?_)
        · refine zv_iconst X d_Model_liesOf_93 ?_
          refine zv_sub X [1, 2, 3, 4, 5] rfl ?_
          exact v_Model_liesOf_94 X hN v1 v2 v3 v5 0 (v4 - (jdiv (v4 * (D 155 v5)) 100)) (f_Model_liesOf_25 v1 v2 v3 D n) D ih
        · refine zv_aload_n X d_Model_liesOf_71 rfl 1 rfl ?_
          refine zv_get X (ci := 7) rfl i_Model (za_144 hN) 10 (by decide) lk_Model_37 rfl rfl d_Model_liesOf_72 ?_
          refine zv_bipush X d_Model_liesOf_75 (by decide +kernel) ?_
          refine zv_iload X d_Model_liesOf_77 5 rfl ?_
          refine zv_imul X d_Model_liesOf_79 ?_
          refine zv_iload_n X d_Model_liesOf_80 rfl 3 rfl ?_
          refine zv_iadd X d_Model_liesOf_81 ?_
          refine zv_iald X (za_154 hN) d_Model_liesOf_82 (fun ha82 hb82 => ?_)
          refine zv_aload_n X d_Model_liesOf_83 rfl 1 rfl ?_
          refine zv_get X (ci := 7) rfl i_Model (za_144 hN) 7 (by decide) lk_Model_28 rfl rfl d_Model_liesOf_84 ?_
          refine zv_iload_n X d_Model_liesOf_87 rfl 2 rfl ?_
          refine zv_iald X (za_151 hN) d_Model_liesOf_88 (fun ha88 hb88 => ?_)
          refine zv_imul X d_Model_liesOf_89 ?_
          refine zv_goto X (tgt := 94) d_Model_liesOf_90 (by decide) ?_
          refine zv_sub X [1, 2, 3, 4, 5] rfl ?_
          exact v_Model_liesOf_94 X hN v1 v2 v3 v5 ((D 154 ((6 * v5) + v2)) * (D 151 v1)) (v4 - (jdiv (v4 * (D 155 v5)) 100)) (f_Model_liesOf_25 v1 v2 v3 D n) D ih
set_option maxRecDepth 100000 in
theorem v_Model_liesOf_20 {Γ : Gt} {Z : Zt} (X : Cx Γ Z prog_10_method_19_code R_Model 6 (some .int) rm_Model_liesOf) (hN : 166 ≤ Z.2.2.2.1) (v1 v2 v3 s0 : Int)   (D : Mm)  : Zv Γ Z 6 (QfP Γ Z 1 D) (f_Model_liesOf_20 v1 v2 v3 s0 D) D 20 [(0, zr Z 144), (1, zi v1), (2, zi v2), (3, zi v3)] [zi s0] := by
  unfold f_Model_liesOf_20
  refine zv_istore X (lv2 := [(4, zi s0), (0, zr Z 144), (1, zi v1), (2, zi v2), (3, zi v3)]) d_Model_liesOf_20 (by decide) rfl ?_
  refine zv_iconst X d_Model_liesOf_22 ?_
  refine zv_istore X (lv2 := [(5, zi 0), (4, zi s0), (0, zr Z 144), (1, zi v1), (2, zi v2), (3, zi v3)]) d_Model_liesOf_23 (by decide) rfl ?_
  refine zv_sub X [2, 3, 4, 5, 1, 0] rfl ?_
  exact v_Model_liesOf_25 X hN v1 v2 v3 D zF s0 0
set_option maxRecDepth 100000 in
theorem c_Model_liesOf (l : Launch) {Z : Zt} (hZ : Zok Z) (hN : 166 ≤ Z.2.2.2.1) (v1 v2 v3 : Int)  (D : Mm) : CtP l Z y_Model_liesOf prog_10_method_19_code 6 (some .int) rm_Model_liesOf 1 [zr Z 144, zi v1, zi v2, zi v3] D (f_Model_liesOf v1 v2 v3 D) := by
  refine zm_P (lv := [(0, zr Z 144), (1, zi v1), (2, zi v2), (3, zi v3)]) hZ (by decide +kernel) rfl (Nat.le_of_ble_eq_true rfl) rfl (fun Γ hl X => ?_)
  subst hl
  unfold f_Model_liesOf
  refine zv_iload_n X d_Model_liesOf_0 rfl 3 rfl ?_
  refine zv_iconst X d_Model_liesOf_1 ?_
  refine zv_icmp_ne X (tgt := 19) d_Model_liesOf_2 (by decide) (fun h2 => ?_) (fun h2 => ?_)
  · refine zv_iconst X d_Model_liesOf_19 ?_
    exact v_Model_liesOf_20 X hN v1 v2 v3 0 D
  · refine zv_aload_n X d_Model_liesOf_5 rfl 0 rfl ?_
    refine zv_get X (ci := 7) rfl i_Model (za_144 hN) 9 (by decide) lk_Model_34 rfl rfl d_Model_liesOf_6 ?_
    refine zv_bipush X d_Model_liesOf_9 (by decide +kernel) ?_
    refine zv_iload_n X d_Model_liesOf_11 rfl 1 rfl ?_
    refine zv_imul X d_Model_liesOf_12 ?_
    refine zv_iload_n X d_Model_liesOf_13 rfl 2 rfl ?_
    refine zv_iadd X d_Model_liesOf_14 ?_
    refine zv_iald X (za_153 hN) d_Model_liesOf_15 (fun ha15 hb15 => ?_)
    refine zv_goto X (tgt := 20) d_Model_liesOf_16 (by decide) ?_
    exact v_Model_liesOf_20 X hN v1 v2 v3 (D 153 ((6 * v1) + v2)) D
set_option maxRecDepth 100000 in
theorem v_Model_allOf_5 {Γ : Gt} {Z : Zt} (X : Cx Γ Z prog_10_method_20_code R_Model 5 (some .int) rm_Model_allOf) (hN : 166 ≤ Z.2.2.2.1) (v1 v2 : Int)   (D : Mm)  : ∀ (n : Nat) (v3 v4 : Int) , Zv Γ Z 5 (QfP Γ Z 1 D) (f_Model_allOf_5 v1 v2 D n v3 v4) D 5 [(0, zr Z 144), (1, zi v1), (2, zi v2), (3, zi v3), (4, zi v4)] [] := by
  intro n
  induction n with
  | zero =>
    intro v3 v4
    exact zv_none
  | succ n ih =>
    intro v3 v4
    rw [f_Model_allOf_5]
    refine zv_iload X d_Model_allOf_5 4 rfl ?_
    refine zv_iconst X d_Model_allOf_7 ?_
    refine zv_icmp_ge X (tgt := 28) d_Model_allOf_8 (by decide) (fun h8 => ?_) (fun h8 => ?_)
    · refine zv_iload_n X d_Model_allOf_28 rfl 3 rfl ?_
      exact zv_iretP X d_Model_allOf_29
    · refine zv_iload_n X d_Model_allOf_11 rfl 3 rfl ?_
      refine zv_aload_n X d_Model_allOf_12 rfl 0 rfl ?_
      refine zv_iload_n X d_Model_allOf_13 rfl 1 rfl ?_
      refine zv_iload_n X d_Model_allOf_14 rfl 2 rfl ?_
      refine zv_iload X d_Model_allOf_15 4 rfl ?_
      refine zv_cVP1 X (av := [zi v1, zi v2, zi v4]) (st := [zi v3]) (ci := 7) (c_Model_liesOf Γ.2.1 X.2.2.2.2.2.2.2.1 hN v1 v2 v4 D) mk_Model_140 rfl (za_144 hN) ⟨rfl, rfl, Nat.le_of_ble_eq_true rfl, Nat.le_of_ble_eq_true rfl⟩ rfl (Nat.le_of_ble_eq_true rfl) d_Model_allOf_17 (fun r1 hr1 => ?_)
      refine zv_iadd X d_Model_allOf_20 ?_
      refine zv_istore_n X (lv2 := [(3, zi (v3 + r1)), (0, zr Z 144), (1, zi v1), (2, zi v2), (4, zi v4)]) d_Model_allOf_21 rfl (by decide) rfl ?_
      refine zv_iinc X (lv2 := [(4, zi (v4 + 1)), (3, zi (v3 + r1)), (0, zr Z 144), (1, zi v1), (2, zi v2)]) d_Model_allOf_22 4 rfl (by decide) rfl ?_
      refine zv_goto X (tgt := 5) d_Model_allOf_25 (by decide) ?_
      refine zv_sub X [2, 3, 4, 1, 0] rfl ?_
      exact ih (v3 + r1) (v4 + 1)
set_option maxRecDepth 100000 in
theorem c_Model_allOf (l : Launch) {Z : Zt} (hZ : Zok Z) (hN : 166 ≤ Z.2.2.2.1) (v1 v2 : Int)  (D : Mm) : CtP l Z y_Model_allOf prog_10_method_20_code 5 (some .int) rm_Model_allOf 1 [zr Z 144, zi v1, zi v2] D (f_Model_allOf v1 v2 D) := by
  refine zm_P (lv := [(0, zr Z 144), (1, zi v1), (2, zi v2)]) hZ (by decide +kernel) rfl (Nat.le_of_ble_eq_true rfl) rfl (fun Γ hl X => ?_)
  subst hl
  unfold f_Model_allOf
  refine zv_iconst X d_Model_allOf_0 ?_
  refine zv_istore_n X (lv2 := [(3, zi 0), (0, zr Z 144), (1, zi v1), (2, zi v2)]) d_Model_allOf_1 rfl (by decide) rfl ?_
  refine zv_iconst X d_Model_allOf_2 ?_
  refine zv_istore X (lv2 := [(4, zi 0), (3, zi 0), (0, zr Z 144), (1, zi v1), (2, zi v2)]) d_Model_allOf_3 (by decide) rfl ?_
  refine zv_sub X [2, 3, 4, 1, 0] rfl ?_
  exact v_Model_allOf_5 X hN v1 v2 D zF 0 0
set_option maxRecDepth 100000 in
theorem c_Model_lies (l : Launch) {Z : Zt} (hZ : Zok Z) (hN : 166 ≤ Z.2.2.2.1) (v1 v2 v3 : Int)  (D : Mm) : CtP l Z y_Model_lies prog_10_method_21_code 4 (some .int) rm_Model_lies 1 [zr Z 144, zi v1, zi v2, zi v3] D (f_Model_lies v1 v2 v3 D) := by
  refine zm_P (lv := [(0, zr Z 144), (1, zi v1), (2, zi v2), (3, zi v3)]) hZ (by decide +kernel) rfl (Nat.le_of_ble_eq_true rfl) rfl (fun Γ hl X => ?_)
  subst hl
  unfold f_Model_lies
  refine zv_aload_n X d_Model_lies_0 rfl 0 rfl ?_
  refine zv_iload_n X d_Model_lies_1 rfl 1 rfl ?_
  refine zv_cVP1 X (av := [zi v1]) (st := []) (ci := 7) (c_Model_isFace Γ.2.1 X.2.2.2.2.2.2.2.1 hN v1 D) mk_Model_131 rfl (za_144 hN) ⟨rfl, rfl, Nat.le_of_ble_eq_true rfl, Nat.le_of_ble_eq_true rfl⟩ rfl (Nat.le_of_ble_eq_true rfl) d_Model_lies_2 (fun r1 hr1 => ?_)
  refine zv_if_eq X (y := 0) (tgt := 30) d_Model_lies_5 (by decide) (fun h5 => ?_) (fun h5 => ?_)
  · refine zv_iconst X d_Model_lies_30 ?_
    exact zv_iretP X d_Model_lies_31
  · refine zv_aload_n X d_Model_lies_8 rfl 0 rfl ?_
    refine zv_iload_n X d_Model_lies_9 rfl 2 rfl ?_
    refine zv_cVP1 X (av := [zi v2]) (st := []) (ci := 7) (c_Model_isSort Γ.2.1 X.2.2.2.2.2.2.2.1 hN v2 D) mk_Model_144 rfl (za_144 hN) ⟨rfl, rfl, Nat.le_of_ble_eq_true rfl, Nat.le_of_ble_eq_true rfl⟩ rfl (Nat.le_of_ble_eq_true rfl) d_Model_lies_10 (fun r2 hr2 => ?_)
    refine zv_if_eq X (y := 0) (tgt := 30) d_Model_lies_13 (by decide) (fun h13 => ?_) (fun h13 => ?_)
    · refine zv_iconst X d_Model_lies_30 ?_
      exact zv_iretP X d_Model_lies_31
    · refine zv_iload_n X d_Model_lies_16 rfl 3 rfl ?_
      refine zv_i2l X d_Model_lies_17 ?_
      refine zv_ldc2 X (-1) kc_Model_147 (by decide +kernel) d_Model_lies_18 ?_
      refine zv_ldc2 X 4 kc_Model_134 (by decide +kernel) d_Model_lies_21 ?_
      refine zv_cSP1 X (av := [zl (wI v3), zl (-1), zl 4]) (st := []) (c_Model_in Γ.2.1 X.2.2.2.2.2.2.2.1 hN (wI v3) (-1) 4 D) mk_Model_82 ⟨rfl, rfl, Nat.le_of_ble_eq_true rfl, Nat.le_of_ble_eq_true rfl⟩ rfl (Nat.le_of_ble_eq_true rfl) d_Model_lies_24 (fun r3 hr3 => ?_)
      refine zv_if_ne X (y := 0) (tgt := 32) d_Model_lies_27 (by decide) (fun h27 => ?_) (fun h27 => ?_)
      · refine zv_iload_n X d_Model_lies_32 rfl 3 rfl ?_
        refine zv_if_ge X (y := 0) (tgt := 45) d_Model_lies_33 (by decide) (fun h33 => ?_) (fun h33 => ?_)
        · refine zv_aload_n X d_Model_lies_45 rfl 0 rfl ?_
          refine zv_iload_n X d_Model_lies_46 rfl 1 rfl ?_
          refine zv_iload_n X d_Model_lies_47 rfl 2 rfl ?_
          refine zv_iload_n X d_Model_lies_48 rfl 3 rfl ?_
          refine zv_cVP1 X (av := [zi v1, zi v2, zi v3]) (st := []) (ci := 7) (c_Model_liesOf Γ.2.1 X.2.2.2.2.2.2.2.1 hN v1 v2 v3 D) mk_Model_140 rfl (za_144 hN) ⟨rfl, rfl, Nat.le_of_ble_eq_true rfl, Nat.le_of_ble_eq_true rfl⟩ rfl (Nat.le_of_ble_eq_true rfl) d_Model_lies_49 (fun r4 hr4 => ?_)
          exact zv_iretP X d_Model_lies_52
        · refine zv_aload_n X d_Model_lies_36 rfl 0 rfl ?_
          refine zv_iload_n X d_Model_lies_37 rfl 1 rfl ?_
          refine zv_iload_n X d_Model_lies_38 rfl 2 rfl ?_
          refine zv_cVP1 X (av := [zi v1, zi v2]) (st := []) (ci := 7) (c_Model_allOf Γ.2.1 X.2.2.2.2.2.2.2.1 hN v1 v2 D) mk_Model_149 rfl (za_144 hN) ⟨rfl, rfl, Nat.le_of_ble_eq_true rfl, Nat.le_of_ble_eq_true rfl⟩ rfl (Nat.le_of_ble_eq_true rfl) d_Model_lies_39 (fun r5 hr5 => ?_)
          refine zv_goto X (tgt := 52) d_Model_lies_42 (by decide) ?_
          exact zv_iretP X d_Model_lies_52
      · refine zv_iconst X d_Model_lies_30 ?_
        exact zv_iretP X d_Model_lies_31
set_option maxRecDepth 100000 in
theorem c_Model_draw (l : Launch) {Z : Zt} (hZ : Zok Z) (hN : 166 ≤ Z.2.2.2.1) (v0 v1 v2 : Int)  (D : Mm) : CtP l Z y_Model_draw prog_10_method_22_code 5 (some .int) rm_Model_draw 1 [zi v0, zi v1, zi v2] D (f_Model_draw v0 v1 v2 D) := by
  refine zm_P (lv := [(0, zi v0), (1, zi v1), (2, zi v2)]) hZ (by decide +kernel) rfl (Nat.le_of_ble_eq_true rfl) rfl (fun Γ hl X => ?_)
  subst hl
  unfold f_Model_draw
  refine zv_ldc2 X 7919 kc_Model_153 (by decide +kernel) d_Model_draw_0 ?_
  refine zv_iload_n X d_Model_draw_3 rfl 0 rfl ?_
  refine zv_i2l X d_Model_draw_4 ?_
  refine zv_lmul X d_Model_draw_5 ?_
  refine zv_ldc2 X 6151 kc_Model_155 (by decide +kernel) d_Model_draw_6 ?_
  refine zv_iload_n X d_Model_draw_9 rfl 1 rfl ?_
  refine zv_i2l X d_Model_draw_10 ?_
  refine zv_lmul X d_Model_draw_11 ?_
  refine zv_ladd X d_Model_draw_12 ?_
  refine zv_ldc2 X 3571 kc_Model_157 (by decide +kernel) d_Model_draw_13 ?_
  refine zv_iload_n X d_Model_draw_16 rfl 2 rfl ?_
  refine zv_i2l X d_Model_draw_17 ?_
  refine zv_lmul X d_Model_draw_18 ?_
  refine zv_ladd X d_Model_draw_19 ?_
  refine zv_lconst X (x := 1) d_Model_draw_20 (by decide +kernel) ?_
  refine zv_ladd X d_Model_draw_21 ?_
  refine zv_letl (fun x1 => ?_)
  refine zv_lstore_n X (lv2 := [(3, zl x1), (0, zi v0), (1, zi v1), (2, zi v2)]) d_Model_draw_22 rfl (by decide) rfl ?_
  refine zv_lload_n X d_Model_draw_23 rfl 0 rfl ?_
  refine zv_lload_n X d_Model_draw_24 rfl 0 rfl ?_
  refine zv_lmul X d_Model_draw_25 ?_
  refine zv_ldc2 X 65521 kc_Model_159 (by decide +kernel) d_Model_draw_26 ?_
  refine zv_lremK X d_Model_draw_29 (by decide +kernel) ?_
  refine zv_ldc2 X 100 kc_Model_161 (by decide +kernel) d_Model_draw_30 ?_
  refine zv_lremK X d_Model_draw_33 (by decide +kernel) ?_
  refine zv_l2i X d_Model_draw_34 ?_
  exact zv_iretP X d_Model_draw_35
set_option maxRecDepth 100000 in
theorem v_Model_calledBy_55 {Γ : Gt} {Z : Zt} (X : Cx Γ Z prog_10_method_23_code R_Model 5 (some .int) rm_Model_calledBy) (hN : 166 ≤ Z.2.2.2.1) (v1 v2 v3 v4 : Int)  (K4 : Int → Int → Option (Int)) (D : Mm) (hK4 : ∀ (v3 v4 : Int), Zv Γ Z 5 (QfP Γ Z 1 D) (K4 v3 v4) D 5 [(0, zr Z 144), (1, zi v1), (2, zi v2), (3, zi v3), (4, zi v4)] []) : Zv Γ Z 5 (QfP Γ Z 1 D) (f_Model_calledBy_55 v1 v2 v3 v4 K4 D) D 55 [(0, zr Z 144), (1, zi v1), (2, zi v2), (3, zi v3), (4, zi v4)] [] := by
  unfold f_Model_calledBy_55
  refine zv_iinc X (lv2 := [(4, zi (v4 + 1)), (0, zr Z 144), (1, zi v1), (2, zi v2), (3, zi v3)]) d_Model_calledBy_55 4 rfl (by decide) rfl ?_
  refine zv_goto X (tgt := 5) d_Model_calledBy_58 (by decide) ?_
  refine zv_sub X [1, 2, 3, 4, 0] rfl ?_
  exact hK4 v3 (v4 + 1)
set_option maxRecDepth 100000 in
theorem v_Model_calledBy_39 {Γ : Gt} {Z : Zt} (X : Cx Γ Z prog_10_method_23_code R_Model 5 (some .int) rm_Model_calledBy) (hN : 166 ≤ Z.2.2.2.1) (v1 v2 v4 s0 s1 : Int)  (K4 : Int → Int → Option (Int)) (D : Mm) (hK4 : ∀ (v3 v4 : Int), Zv Γ Z 5 (QfP Γ Z 1 D) (K4 v3 v4) D 5 [(0, zr Z 144), (1, zi v1), (2, zi v2), (3, zi v3), (4, zi v4)] []) : Zv Γ Z 5 (QfP Γ Z 1 D) (f_Model_calledBy_39 v1 v2 v4 s0 s1 K4 D) D 39 [(0, zr Z 144), (1, zi v1), (2, zi v2), (4, zi v4)] [zi s0, zi s1] := by
  unfold f_Model_calledBy_39
  refine zv_iadd X d_Model_calledBy_39 ?_
  refine zv_istore_n X (lv2 := [(3, zi (s1 + s0)), (0, zr Z 144), (1, zi v1), (2, zi v2), (4, zi v4)]) d_Model_calledBy_40 rfl (by decide) rfl ?_
  refine zv_iload X d_Model_calledBy_41 4 rfl ?_
  refine zv_iload_n X d_Model_calledBy_43 rfl 2 rfl ?_
  refine zv_icmp_eq X (tgt := 55) d_Model_calledBy_44 (by decide) (fun h44 => ?_) (fun h44 => ?_)
  · refine zv_sub X [1, 2, 3, 0, 4] rfl ?_
    exact v_Model_calledBy_55 X hN v1 v2 (s1 + s0) v4 K4 D hK4
  · refine zv_iload_n X d_Model_calledBy_47 rfl 3 rfl ?_
    refine zv_iload_n X d_Model_calledBy_48 rfl 0 rfl ?_
    refine zv_icmp_ge X (tgt := 55) d_Model_calledBy_49 (by decide) (fun h49 => ?_) (fun h49 => ?_)
    · refine zv_sub X [1, 2, 3, 0, 4] rfl ?_
      exact v_Model_calledBy_55 X hN v1 v2 (s1 + s0) v4 K4 D hK4
    · refine zv_iload X d_Model_calledBy_52 4 rfl ?_
      exact zv_iretP X d_Model_calledBy_54
set_option maxRecDepth 100000 in
theorem v_Model_calledBy_5 {Γ : Gt} {Z : Zt} (X : Cx Γ Z prog_10_method_23_code R_Model 5 (some .int) rm_Model_calledBy) (hN : 166 ≤ Z.2.2.2.1) (v1 v2 : Int)   (D : Mm)  : ∀ (n : Nat) (v3 v4 : Int) , Zv Γ Z 5 (QfP Γ Z 1 D) (f_Model_calledBy_5 v1 v2 D n v3 v4) D 5 [(0, zr Z 144), (1, zi v1), (2, zi v2), (3, zi v3), (4, zi v4)] [] := by
  intro n
  induction n with
  | zero =>
    intro v3 v4
    exact zv_none
  | succ n ih =>
    intro v3 v4
    rw [f_Model_calledBy_5]
    refine zv_iload X d_Model_calledBy_5 4 rfl ?_
    refine zv_aload_n X d_Model_calledBy_7 rfl 0 rfl ?_
    refine zv_get X (ci := 7) rfl i_Model (za_144 hN) 2 (by decide) lk_Model_13 rfl rfl d_Model_calledBy_8 ?_
    refine zv_iconst X d_Model_calledBy_11 ?_
    refine zv_ialdK X (za_146 hN) (by decide) (by decide) d_Model_calledBy_12 ?_
    refine zv_icmp_ge X (tgt := 61) d_Model_calledBy_13 (by decide) (fun h13 => ?_) (fun h13 => ?_)
    · refine zv_iload_n X d_Model_calledBy_61 rfl 1 rfl ?_
      exact zv_iretP X d_Model_calledBy_62
    · refine zv_iload_n X d_Model_calledBy_16 rfl 3 rfl ?_
      refine zv_iload X d_Model_calledBy_17 4 rfl ?_
      refine zv_iload_n X d_Model_calledBy_19 rfl 1 rfl ?_
      refine zv_icmp_ne X (tgt := 27) d_Model_calledBy_20 (by decide) (fun h20 => ?_) (fun h20 => ?_)
      · refine zv_aload_n X d_Model_calledBy_27 rfl 0 rfl ?_
        refine zv_get X (ci := 7) rfl i_Model (za_144 hN) 14 (by decide) lk_Model_49 rfl rfl d_Model_calledBy_28 ?_
        refine zv_bipush X d_Model_calledBy_31 (by decide +kernel) ?_
        refine zv_iload_n X d_Model_calledBy_33 rfl 1 rfl ?_
        refine zv_imul X d_Model_calledBy_34 ?_
        refine zv_iload X d_Model_calledBy_35 4 rfl ?_
        refine zv_iadd X d_Model_calledBy_37 ?_
        refine zv_iald X (za_158 hN) d_Model_calledBy_38 (fun ha38 hb38 => ?_)
        refine zv_sub X [0, 1, 2, 4] rfl ?_
        exact v_Model_calledBy_39 X hN v1 v2 v4 (D 158 ((6 * v1) + v4)) v3 (f_Model_calledBy_5 v1 v2 D n) D ih
      · refine zv_iconst X d_Model_calledBy_23 ?_
        refine zv_goto X (tgt := 39) d_Model_calledBy_24 (by decide) ?_
        refine zv_sub X [0, 1, 2, 4] rfl ?_
        exact v_Model_calledBy_39 X hN v1 v2 v4 0 v3 (f_Model_calledBy_5 v1 v2 D n) D ih
set_option maxRecDepth 100000 in
theorem c_Model_calledBy (l : Launch) {Z : Zt} (hZ : Zok Z) (hN : 166 ≤ Z.2.2.2.1) (v1 v2 : Int)  (D : Mm) : CtP l Z y_Model_calledBy prog_10_method_23_code 5 (some .int) rm_Model_calledBy 1 [zr Z 144, zi v1, zi v2] D (f_Model_calledBy v1 v2 D) := by
  refine zm_P (lv := [(0, zr Z 144), (1, zi v1), (2, zi v2)]) hZ (by decide +kernel) rfl (Nat.le_of_ble_eq_true rfl) rfl (fun Γ hl X => ?_)
  subst hl
  unfold f_Model_calledBy
  refine zv_iconst X d_Model_calledBy_0 ?_
  refine zv_istore_n X (lv2 := [(3, zi 0), (0, zr Z 144), (1, zi v1), (2, zi v2)]) d_Model_calledBy_1 rfl (by decide) rfl ?_
  refine zv_iconst X d_Model_calledBy_2 ?_
  refine zv_istore X (lv2 := [(4, zi 0), (3, zi 0), (0, zr Z 144), (1, zi v1), (2, zi v2)]) d_Model_calledBy_3 (by decide) rfl ?_
  refine zv_sub X [2, 3, 4, 1, 0] rfl ?_
  exact v_Model_calledBy_5 X hN v1 v2 D zF 0 0
set_option maxRecDepth 100000 in
theorem v_Model_read_93 {Γ : Gt} {Z : Zt} (X : Cx Γ Z prog_10_method_24_code R_Model 9 (some .int) rm_Model_read) (hN : 166 ≤ Z.2.2.2.1) (v1 v2 v3 v5 v6 v7 v8 s0 s1 : Int)  (K35 : Int → Int → Int → Option (Int)) (D : Mm) (hK35 : ∀ (v4 v5 v8 : Int), Zv Γ Z 9 (QfP Γ Z 1 D) (K35 v4 v5 v8) D 62 [(0, zr Z 144), (1, zi v1), (2, zi v2), (3, zi v3), (4, zi v4), (5, zi v5), (6, zi v6), (7, zi v7), (8, zi v8)] []) : Zv Γ Z 9 (QfP Γ Z 1 D) (f_Model_read_93 v1 v2 v3 v5 v6 v7 v8 s0 s1 K35 D) D 93 [(0, zr Z 144), (1, zi v1), (2, zi v2), (3, zi v3), (5, zi v5), (6, zi v6), (7, zi v7), (8, zi v8)] [zi s0, zi s1] := by
  unfold f_Model_read_93
  refine zv_iadd X d_Model_read_93 ?_
  refine zv_istore X (lv2 := [(4, zi (s1 + s0)), (0, zr Z 144), (1, zi v1), (2, zi v2), (3, zi v3), (5, zi v5), (6, zi v6), (7, zi v7), (8, zi v8)]) d_Model_read_94 (by decide) rfl ?_
  refine zv_iinc X (lv2 := [(5, zi (v5 + 1)), (4, zi (s1 + s0)), (0, zr Z 144), (1, zi v1), (2, zi v2), (3, zi v3), (6, zi v6), (7, zi v7), (8, zi v8)]) d_Model_read_96 5 rfl (by decide) rfl ?_
  refine zv_iinc X (lv2 := [(8, zi (v8 + 1)), (5, zi (v5 + 1)), (4, zi (s1 + s0)), (0, zr Z 144), (1, zi v1), (2, zi v2), (3, zi v3), (6, zi v6), (7, zi v7)]) d_Model_read_99 8 rfl (by decide) rfl ?_
  refine zv_goto X (tgt := 62) d_Model_read_102 (by decide) ?_
  refine zv_sub X [3, 4, 5, 6, 2, 1, 7, 8, 0] rfl ?_
  exact hK35 (s1 + s0) (v5 + 1) (v8 + 1)
set_option maxRecDepth 100000 in
theorem v_Model_read_62 {Γ : Gt} {Z : Zt} (X : Cx Γ Z prog_10_method_24_code R_Model 9 (some .int) rm_Model_read) (hN : 166 ≤ Z.2.2.2.1) (v1 v2 v3 v6 v7 : Int)  (K22 : Int → Int → Int → Option (Int)) (D : Mm)  (hK22 : ∀ (v4 v5 v6 : Int), Zv Γ Z 9 (QfP Γ Z 1 D) (K22 v4 v5 v6) D 39 [(0, zr Z 144), (1, zi v1), (2, zi v2), (3, zi v3), (4, zi v4), (5, zi v5), (6, zi v6)] []): ∀ (n : Nat) (v4 v5 v8 : Int) , Zv Γ Z 9 (QfP Γ Z 1 D) (f_Model_read_62 v1 v2 v3 v6 v7 K22 D n v4 v5 v8) D 62 [(0, zr Z 144), (1, zi v1), (2, zi v2), (3, zi v3), (4, zi v4), (5, zi v5), (6, zi v6), (7, zi v7), (8, zi v8)] [] := by
  intro n
  induction n with
  | zero =>
    intro v4 v5 v8
    exact zv_none
  | succ n ih =>
    intro v4 v5 v8
    rw [f_Model_read_62]
    refine zv_iload X d_Model_read_62 8 rfl ?_
    refine zv_iload X d_Model_read_64 7 rfl ?_
    refine zv_icmp_ge X (tgt := 105) d_Model_read_66 (by decide) (fun h66 => ?_) (fun h66 => ?_)
    · refine zv_iinc X (lv2 := [(6, zi (v6 + 1)), (0, zr Z 144), (1, zi v1), (2, zi v2), (3, zi v3), (4, zi v4), (5, zi v5), (7, zi v7), (8, zi v8)]) d_Model_read_105 6 rfl (by decide) rfl ?_
      refine zv_goto X (tgt := 39) d_Model_read_108 (by decide) ?_
      refine zv_sub X [1, 2, 3, 4, 5, 6, 0] rfl ?_
      exact hK22 v4 v5 (v6 + 1)
    · refine zv_iload X d_Model_read_69 4 rfl ?_
      refine zv_aload_n X d_Model_read_71 rfl 0 rfl ?_
      refine zv_iload X d_Model_read_72 6 rfl ?_
      refine zv_iload_n X d_Model_read_74 rfl 2 rfl ?_
      refine zv_iload X d_Model_read_75 5 rfl ?_
      refine zv_iload_n X d_Model_read_77 rfl 1 rfl ?_
      refine zv_cSP1 X (av := [zi v2, zi v5, zi v1]) (st := [zi v6, zr Z 144, zi v4]) (c_Model_draw Γ.2.1 X.2.2.2.2.2.2.2.1 hN v2 v5 v1 D) mk_Model_165 ⟨rfl, rfl, Nat.le_of_ble_eq_true rfl, Nat.le_of_ble_eq_true rfl⟩ rfl (Nat.le_of_ble_eq_true rfl) d_Model_read_78 (fun r1 hr1 => ?_)
      refine zv_cVP1 X (av := [zi v6, zi r1]) (st := [zi v4]) (ci := 7) (c_Model_calledBy Γ.2.1 X.2.2.2.2.2.2.2.1 hN v6 r1 D) mk_Model_168 rfl (za_144 hN) ⟨rfl, rfl, Nat.le_of_ble_eq_true rfl, Nat.le_of_ble_eq_true rfl⟩ rfl (Nat.le_of_ble_eq_true rfl) d_Model_read_81 (fun r2 hr2 => ?_)
      refine zv_iload_n X d_Model_read_84 rfl 3 rfl ?_
      refine zv_icmp_ne X (tgt := 92) d_Model_read_85 (by decide) (fun h85 => ?_) (fun h85 => ?_)
      · refine zv_iconst X d_Model_read_92 ?_
        refine zv_sub X [0, 1, 2, 3, 5, 6, 7, 8] rfl ?_
        exact v_Model_read_93 X hN v1 v2 v3 v5 v6 v7 v8 0 v4 (f_Model_read_62 v1 v2 v3 v6 v7 K22 D n) D ih
      · refine zv_iconst X d_Model_read_88 ?_
        refine zv_goto X (tgt := 93) d_Model_read_89 (by decide) ?_
        refine zv_sub X [0, 1, 2, 3, 5, 6, 7, 8] rfl ?_
        exact v_Model_read_93 X hN v1 v2 v3 v5 v6 v7 v8 1 v4 (f_Model_read_62 v1 v2 v3 v6 v7 K22 D n) D ih
set_option maxRecDepth 100000 in
theorem v_Model_read_39 {Γ : Gt} {Z : Zt} (X : Cx Γ Z prog_10_method_24_code R_Model 9 (some .int) rm_Model_read) (hN : 166 ≤ Z.2.2.2.1) (v1 v2 v3 : Int)   (D : Mm)  : ∀ (n : Nat) (v4 v5 v6 : Int) , Zv Γ Z 9 (QfP Γ Z 1 D) (f_Model_read_39 v1 v2 v3 D n v4 v5 v6) D 39 [(0, zr Z 144), (1, zi v1), (2, zi v2), (3, zi v3), (4, zi v4), (5, zi v5), (6, zi v6)] [] := by
  intro n
  induction n with
  | zero =>
    intro v4 v5 v6
    exact zv_none
  | succ n ih =>
    intro v4 v5 v6
    rw [f_Model_read_39]
    refine zv_iload X d_Model_read_39 6 rfl ?_
    refine zv_aload_n X d_Model_read_41 rfl 0 rfl ?_
    refine zv_get X (ci := 7) rfl i_Model (za_144 hN) 2 (by decide) lk_Model_13 rfl rfl d_Model_read_42 ?_
    refine zv_iconst X d_Model_read_45 ?_
    refine zv_ialdK X (za_146 hN) (by decide) (by decide) d_Model_read_46 ?_
    refine zv_icmp_ge X (tgt := 111) d_Model_read_47 (by decide) (fun h47 => ?_) (fun h47 => ?_)
    · refine zv_iload X d_Model_read_111 4 rfl ?_
      exact zv_iretP X d_Model_read_113
    · refine zv_aload_n X d_Model_read_50 rfl 0 rfl ?_
      refine zv_iload_n X d_Model_read_51 rfl 1 rfl ?_
      refine zv_iload X d_Model_read_52 6 rfl ?_
      refine zv_cVP1 X (av := [zi v1, zi v6]) (st := []) (ci := 7) (c_Model_allOf Γ.2.1 X.2.2.2.2.2.2.2.1 hN v1 v6 D) mk_Model_149 rfl (za_144 hN) ⟨rfl, rfl, Nat.le_of_ble_eq_true rfl, Nat.le_of_ble_eq_true rfl⟩ rfl (Nat.le_of_ble_eq_true rfl) d_Model_read_54 (fun r1 hr1 => ?_)
      refine zv_istore X (lv2 := [(7, zi r1), (0, zr Z 144), (1, zi v1), (2, zi v2), (3, zi v3), (4, zi v4), (5, zi v5), (6, zi v6)]) d_Model_read_57 (by decide) rfl ?_
      refine zv_iconst X d_Model_read_59 ?_
      refine zv_istore X (lv2 := [(8, zi 0), (7, zi r1), (0, zr Z 144), (1, zi v1), (2, zi v2), (3, zi v3), (4, zi v4), (5, zi v5), (6, zi v6)]) d_Model_read_60 (by decide) rfl ?_
      refine zv_sub X [2, 3, 4, 5, 6, 7, 8, 1, 0] rfl ?_
      exact v_Model_read_62 X hN v1 v2 v3 v6 r1 (f_Model_read_39 v1 v2 v3 D n) D ih zF v4 v5 0
set_option maxRecDepth 100000 in
theorem c_Model_read (l : Launch) {Z : Zt} (hZ : Zok Z) (hN : 166 ≤ Z.2.2.2.1) (v1 v2 v3 : Int)  (D : Mm) : CtP l Z y_Model_read prog_10_method_24_code 9 (some .int) rm_Model_read 1 [zr Z 144, zi v1, zi v2, zi v3] D (f_Model_read v1 v2 v3 D) := by
  refine zm_P (lv := [(0, zr Z 144), (1, zi v1), (2, zi v2), (3, zi v3)]) hZ (by decide +kernel) rfl (Nat.le_of_ble_eq_true rfl) rfl (fun Γ hl X => ?_)
  subst hl
  unfold f_Model_read
  refine zv_aload_n X d_Model_read_0 rfl 0 rfl ?_
  refine zv_iload_n X d_Model_read_1 rfl 1 rfl ?_
  refine zv_cVP1 X (av := [zi v1]) (st := []) (ci := 7) (c_Model_isFace Γ.2.1 X.2.2.2.2.2.2.2.1 hN v1 D) mk_Model_131 rfl (za_144 hN) ⟨rfl, rfl, Nat.le_of_ble_eq_true rfl, Nat.le_of_ble_eq_true rfl⟩ rfl (Nat.le_of_ble_eq_true rfl) d_Model_read_2 (fun r1 hr1 => ?_)
  refine zv_if_eq X (y := 0) (tgt := 28) d_Model_read_5 (by decide) (fun h5 => ?_) (fun h5 => ?_)
  · refine zv_iconst X d_Model_read_28 ?_
    exact zv_iretP X d_Model_read_29
  · refine zv_iload_n X d_Model_read_8 rfl 2 rfl ?_
    refine zv_i2l X d_Model_read_9 ?_
    refine zv_lconst X (x := 0) d_Model_read_10 (by decide +kernel) ?_
    refine zv_ldc2 X 9999 kc_Model_163 (by decide +kernel) d_Model_read_11 ?_
    refine zv_cSP1 X (av := [zl (wI v2), zl 0, zl 9999]) (st := []) (c_Model_in Γ.2.1 X.2.2.2.2.2.2.2.1 hN (wI v2) 0 9999 D) mk_Model_82 ⟨rfl, rfl, Nat.le_of_ble_eq_true rfl, Nat.le_of_ble_eq_true rfl⟩ rfl (Nat.le_of_ble_eq_true rfl) d_Model_read_14 (fun r2 hr2 => ?_)
    refine zv_if_eq X (y := 0) (tgt := 28) d_Model_read_17 (by decide) (fun h17 => ?_) (fun h17 => ?_)
    · refine zv_iconst X d_Model_read_28 ?_
      exact zv_iretP X d_Model_read_29
    · refine zv_aload_n X d_Model_read_20 rfl 0 rfl ?_
      refine zv_iload_n X d_Model_read_21 rfl 3 rfl ?_
      refine zv_cVP1 X (av := [zi v3]) (st := []) (ci := 7) (c_Model_isSort Γ.2.1 X.2.2.2.2.2.2.2.1 hN v3 D) mk_Model_144 rfl (za_144 hN) ⟨rfl, rfl, Nat.le_of_ble_eq_true rfl, Nat.le_of_ble_eq_true rfl⟩ rfl (Nat.le_of_ble_eq_true rfl) d_Model_read_22 (fun r3 hr3 => ?_)
      refine zv_if_ne X (y := 0) (tgt := 30) d_Model_read_25 (by decide) (fun h25 => ?_) (fun h25 => ?_)
      · refine zv_iconst X d_Model_read_30 ?_
        refine zv_istore X (lv2 := [(4, zi 0), (0, zr Z 144), (1, zi v1), (2, zi v2), (3, zi v3)]) d_Model_read_31 (by decide) rfl ?_
        refine zv_iconst X d_Model_read_33 ?_
        refine zv_istore X (lv2 := [(5, zi 0), (4, zi 0), (0, zr Z 144), (1, zi v1), (2, zi v2), (3, zi v3)]) d_Model_read_34 (by decide) rfl ?_
        refine zv_iconst X d_Model_read_36 ?_
        refine zv_istore X (lv2 := [(6, zi 0), (5, zi 0), (4, zi 0), (0, zr Z 144), (1, zi v1), (2, zi v2), (3, zi v3)]) d_Model_read_37 (by decide) rfl ?_
        refine zv_sub X [3, 4, 5, 6, 2, 1, 0] rfl ?_
        exact v_Model_read_39 X hN v1 v2 v3 D zF 0 0 0
      · refine zv_iconst X d_Model_read_28 ?_
        exact zv_iretP X d_Model_read_29
set_option maxRecDepth 100000 in
theorem v_Model_power_5 {Γ : Gt} {Z : Zt} (X : Cx Γ Z prog_10_method_25_code R_Model 6 (some .long) rm_Model_power) (hN : 166 ≤ Z.2.2.2.1) (v0 v2 : Int)   (D : Mm)  : ∀ (n : Nat) (v3 v5 : Int) , Zv Γ Z 6 (QfP Γ Z 2 D) (f_Model_power_5 v0 v2 D n v3 v5) D 5 [(0, zl v0), (2, zi v2), (3, zl v3), (5, zi v5)] [] := by
  intro n
  induction n with
  | zero =>
    intro v3 v5
    exact zv_none
  | succ n ih =>
    intro v3 v5
    rw [f_Model_power_5]
    refine zv_iload X d_Model_power_5 3 rfl ?_
    refine zv_iload_n X d_Model_power_7 rfl 1 rfl ?_
    refine zv_icmp_ge X (tgt := 21) d_Model_power_8 (by decide) (fun h8 => ?_) (fun h8 => ?_)
    · refine zv_lload_n X d_Model_power_21 rfl 2 rfl ?_
      exact zv_lretP X d_Model_power_22
    · refine zv_lload_n X d_Model_power_11 rfl 2 rfl ?_
      refine zv_lload_n X d_Model_power_12 rfl 0 rfl ?_
      refine zv_lmul X d_Model_power_13 ?_
      refine zv_lstore_n X (lv2 := [(3, zl (v3 * v0)), (0, zl v0), (2, zi v2), (5, zi v5)]) d_Model_power_14 rfl (by decide) rfl ?_
      refine zv_iinc X (lv2 := [(5, zi (v5 + 1)), (3, zl (v3 * v0)), (0, zl v0), (2, zi v2)]) d_Model_power_15 3 rfl (by decide) rfl ?_
      refine zv_goto X (tgt := 5) d_Model_power_18 (by decide) ?_
      refine zv_sub X [2, 3, 1, 0] rfl ?_
      exact ih (v3 * v0) (v5 + 1)
set_option maxRecDepth 100000 in
theorem c_Model_power (l : Launch) {Z : Zt} (hZ : Zok Z) (hN : 166 ≤ Z.2.2.2.1) (v0 v2 : Int)  (D : Mm) : CtP l Z y_Model_power prog_10_method_25_code 6 (some .long) rm_Model_power 2 [zl v0, zi v2] D (f_Model_power v0 v2 D) := by
  refine zm_P (lv := [(0, zl v0), (2, zi v2)]) hZ (by decide +kernel) rfl (Nat.le_of_ble_eq_true rfl) rfl (fun Γ hl X => ?_)
  subst hl
  unfold f_Model_power
  refine zv_lconst X (x := 1) d_Model_power_0 (by decide +kernel) ?_
  refine zv_lstore_n X (lv2 := [(3, zl 1), (0, zl v0), (2, zi v2)]) d_Model_power_1 rfl (by decide) rfl ?_
  refine zv_iconst X d_Model_power_2 ?_
  refine zv_istore X (lv2 := [(5, zi 0), (3, zl 1), (0, zl v0), (2, zi v2)]) d_Model_power_3 (by decide) rfl ?_
  refine zv_sub X [2, 3, 1, 0] rfl ?_
  exact v_Model_power_5 X hN v0 v2 D zF 1 0
set_option maxRecDepth 100000 in
theorem v_Model_common_6 {Γ : Gt} {Z : Zt} (X : Cx Γ Z prog_10_method_26_code R_Model 10 (some .long) rm_Model_common) (hN : 166 ≤ Z.2.2.2.1)   (D : Mm)  : ∀ (n : Nat) (v4 v6 : Int) , Zv Γ Z 10 (QfP Γ Z 2 D) (f_Model_common_6 D n v4 v6) D 6 [(4, zl v4), (6, zl v6)] [] := by
  intro n
  induction n with
  | zero =>
    intro v4 v6
    exact zv_none
  | succ n ih =>
    intro v4 v6
    rw [f_Model_common_6]
    refine zv_lload X d_Model_common_6 1 rfl ?_
    refine zv_lconst X (x := 0) d_Model_common_8 (by decide +kernel) ?_
    refine zv_lcmp_eq X (tgt := 31) d_Model_common_9 d_Model_common_10 (by decide) (fun h9 => ?_) (fun h9 => ?_)
    · refine zv_lload X d_Model_common_31 0 rfl ?_
      exact zv_lretP X d_Model_common_33
    · refine zv_lload X d_Model_common_13 0 rfl ?_
      refine zv_lload X d_Model_common_15 1 rfl ?_
      refine zv_lrem X d_Model_common_17 (fun h17 => ?_)
      refine zv_lstore X (lv2 := [(8, zl (jlrem v4 v6)), (4, zl v4), (6, zl v6)]) d_Model_common_18 (by decide) rfl ?_
      refine zv_lload X d_Model_common_20 2 rfl ?_
      refine zv_lstore X (lv2 := [(4, zl v6), (8, zl (jlrem v4 v6)), (6, zl v6)]) d_Model_common_22 (by decide) rfl ?_
      refine zv_lload X d_Model_common_24 1 rfl ?_
      refine zv_lstore X (lv2 := [(6, zl (jlrem v4 v6)), (4, zl v6), (8, zl (jlrem v4 v6))]) d_Model_common_26 (by decide) rfl ?_
      refine zv_goto X (tgt := 6) d_Model_common_28 (by decide) ?_
      refine zv_sub X [1, 0] rfl ?_
      exact ih v6 (jlrem v4 v6)
set_option maxRecDepth 100000 in
theorem c_Model_common (l : Launch) {Z : Zt} (hZ : Zok Z) (hN : 166 ≤ Z.2.2.2.1) (v0 v2 : Int)  (D : Mm) : CtP l Z y_Model_common prog_10_method_26_code 10 (some .long) rm_Model_common 2 [zl v0, zl v2] D (f_Model_common v0 v2 D) := by
  refine zm_P (lv := [(0, zl v0), (2, zl v2)]) hZ (by decide +kernel) rfl (Nat.le_of_ble_eq_true rfl) rfl (fun Γ hl X => ?_)
  subst hl
  unfold f_Model_common
  refine zv_lload_n X d_Model_common_0 rfl 0 rfl ?_
  refine zv_lstore X (lv2 := [(4, zl v0), (0, zl v0), (2, zl v2)]) d_Model_common_1 (by decide) rfl ?_
  refine zv_lload_n X d_Model_common_3 rfl 2 rfl ?_
  refine zv_lstore X (lv2 := [(6, zl v2), (4, zl v0), (0, zl v0), (2, zl v2)]) d_Model_common_4 (by decide) rfl ?_
  refine zv_sub X [1, 0] rfl ?_
  exact v_Model_common_6 X hN D zF v0 v2
set_option maxRecDepth 100000 in
theorem c_Model_isArea (l : Launch) {Z : Zt} (hZ : Zok Z) (hN : 166 ≤ Z.2.2.2.1) (v0 : Int)  (D : Mm) : CtP l Z y_Model_isArea prog_10_method_27_code 1 (some .boolean) rm_Model_isArea 1 [zi v0] D (f_Model_isArea v0 D) := by
  refine zm_P (lv := [(0, zi v0)]) hZ (by decide +kernel) rfl (Nat.le_of_ble_eq_true rfl) rfl (fun Γ hl X => ?_)
  subst hl
  unfold f_Model_isArea
  refine zv_iload_n X d_Model_isArea_0 rfl 0 rfl ?_
  refine zv_i2l X d_Model_isArea_1 ?_
  refine zv_lconst X (x := 1) d_Model_isArea_2 (by decide +kernel) ?_
  refine zv_ldc2 X 9 kc_Model_109 (by decide +kernel) d_Model_isArea_3 ?_
  refine zv_cSP1 X (av := [zl (wI v0), zl 1, zl 9]) (st := []) (c_Model_in Γ.2.1 X.2.2.2.2.2.2.2.1 hN (wI v0) 1 9 D) mk_Model_82 ⟨rfl, rfl, Nat.le_of_ble_eq_true rfl, Nat.le_of_ble_eq_true rfl⟩ rfl (Nat.le_of_ble_eq_true rfl) d_Model_isArea_6 (fun r1 hr1 => ?_)
  exact zv_zretP X d_Model_isArea_9
set_option maxRecDepth 100000 in
theorem v_Model_more_111 {Γ : Gt} {Z : Zt} (X : Cx Γ Z prog_10_method_28_code R_Model 15 (some .long) rm_Model_more) (hN : 166 ≤ Z.2.2.2.1) (v1 v2 v4 v5 v6 v9 v11 s0 s1 : Int)  (K39 : Int → Int → Int → Option (Int)) (D : Mm) (hK39 : ∀ (v7 v9 v11 : Int), Zv Γ Z 15 (QfP Γ Z 2 D) (K39 v7 v9 v11) D 70 [(1, zi v1), (2, zi v2), (4, zi v4), (5, zi v5), (6, zi v6), (7, zl v7), (9, zl v9), (11, zi v11)] []) : Zv Γ Z 15 (QfP Γ Z 2 D) (f_Model_more_111 v1 v2 v4 v5 v6 v9 v11 s0 s1 K39 D) D 111 [(1, zi v1), (2, zi v2), (4, zi v4), (5, zi v5), (6, zi v6), (9, zl v9), (11, zi v11)] [zl s0, zl s1] := by
  unfold f_Model_more_111
  refine zv_ladd X d_Model_more_111 ?_
  refine zv_lstore X (lv2 := [(7, zl (s1 + s0)), (1, zi v1), (2, zi v2), (4, zi v4), (5, zi v5), (6, zi v6), (9, zl v9), (11, zi v11)]) d_Model_more_112 (by decide) rfl ?_
  refine zv_lload X d_Model_more_114 6 rfl ?_
  refine zv_iload X d_Model_more_116 5 rfl ?_
  refine zv_iload X d_Model_more_118 7 rfl ?_
  refine zv_isub X d_Model_more_120 ?_
  refine zv_i2l X d_Model_more_121 ?_
  refine zv_lmul X d_Model_more_122 ?_
  refine zv_iload X d_Model_more_123 7 rfl ?_
  refine zv_iconst X d_Model_more_125 ?_
  refine zv_iadd X d_Model_more_126 ?_
  refine zv_i2l X d_Model_more_127 ?_
  refine zv_ldiv X d_Model_more_128 (fun h128 => ?_)
  refine zv_lstore X (lv2 := [(9, zl (jldiv (v9 * (wI (v6 - v11))) (wI (v11 + 1)))), (7, zl (s1 + s0)), (1, zi v1), (2, zi v2), (4, zi v4), (5, zi v5), (6, zi v6), (11, zi v11)]) d_Model_more_129 (by decide) rfl ?_
  refine zv_iinc X (lv2 := [(11, zi (v11 + 1)), (9, zl (jldiv (v9 * (wI (v6 - v11))) (wI (v11 + 1)))), (7, zl (s1 + s0)), (1, zi v1), (2, zi v2), (4, zi v4), (5, zi v5), (6, zi v6)]) d_Model_more_131 7 rfl (by decide) rfl ?_
  refine zv_goto X (tgt := 70) d_Model_more_134 (by decide) ?_
  refine zv_sub X [3, 4, 5, 6, 7, 2, 1, 0] rfl ?_
  exact hK39 (s1 + s0) (jldiv (v9 * (wI (v6 - v11))) (wI (v11 + 1))) (v11 + 1)
set_option maxRecDepth 100000 in
theorem v_Model_more_70 {Γ : Gt} {Z : Zt} (X : Cx Γ Z prog_10_method_28_code R_Model 15 (some .long) rm_Model_more) (hN : 166 ≤ Z.2.2.2.1) (v1 v2 v4 v5 v6 : Int)   (D : Mm)  : ∀ (n : Nat) (v7 v9 v11 : Int) , Zv Γ Z 15 (QfP Γ Z 2 D) (f_Model_more_70 v1 v2 v4 v5 v6 D n v7 v9 v11) D 70 [(1, zi v1), (2, zi v2), (4, zi v4), (5, zi v5), (6, zi v6), (7, zl v7), (9, zl v9), (11, zi v11)] [] := by
  intro n
  induction n with
  | zero =>
    intro v7 v9 v11
    exact zv_none
  | succ n ih =>
    intro v7 v9 v11
    rw [f_Model_more_70]
    refine zv_iload X d_Model_more_70 7 rfl ?_
    refine zv_iload X d_Model_more_72 4 rfl ?_
    refine zv_icmp_gt X (tgt := 137) d_Model_more_74 (by decide) (fun h74 => ?_) (fun h74 => ?_)
    · refine zv_iload_n X d_Model_more_137 rfl 1 rfl ?_
      refine zv_iload X d_Model_more_138 2 rfl ?_
      refine zv_iadd X d_Model_more_140 ?_
      refine zv_i2l X d_Model_more_141 ?_
      refine zv_iload X d_Model_more_142 4 rfl ?_
      refine zv_cSP2 X (av := [zl (wI (v2 + v4)), zi v6]) (st := []) (c_Model_power Γ.2.1 X.2.2.2.2.2.2.2.1 hN (wI (v2 + v4)) v6 D) mk_Model_176 ⟨rfl, rfl, Nat.le_of_ble_eq_true rfl, Nat.le_of_ble_eq_true rfl⟩ rfl (Nat.le_of_ble_eq_true rfl) d_Model_more_144 (fun r1 hr1 => ?_)
      refine zv_lstore X (lv2 := [(11, zl r1), (1, zi v1), (2, zi v2), (4, zi v4), (5, zi v5), (6, zi v6), (7, zl v7), (9, zl v9)]) d_Model_more_147 (by decide) rfl ?_
      refine zv_lload X d_Model_more_149 6 rfl ?_
      refine zv_lload X d_Model_more_151 0 rfl ?_
      refine zv_cSP2 X (av := [zl v7, zl r1]) (st := []) (c_Model_common Γ.2.1 X.2.2.2.2.2.2.2.1 hN v7 r1 D) mk_Model_180 ⟨rfl, rfl, Nat.le_of_ble_eq_true rfl, Nat.le_of_ble_eq_true rfl⟩ rfl (Nat.le_of_ble_eq_true rfl) d_Model_more_153 (fun r2 hr2 => ?_)
      refine zv_lstore X (lv2 := [(13, zl r2), (11, zl r1), (1, zi v1), (2, zi v2), (4, zi v4), (5, zi v5), (6, zi v6), (7, zl v7), (9, zl v9)]) d_Model_more_156 (by decide) rfl ?_
      refine zv_iload X d_Model_more_158 5 rfl ?_
      refine zv_if_ne X (y := 0) (tgt := 171) d_Model_more_160 (by decide) (fun h160 => ?_) (fun h160 => ?_)
      · refine zv_lload X d_Model_more_171 1 rfl ?_
        refine zv_lload X d_Model_more_173 0 rfl ?_
        refine zv_ldiv X d_Model_more_175 (fun h175 => ?_)
        exact zv_lretP X d_Model_more_176
      · refine zv_lload X d_Model_more_163 7 rfl ?_
        refine zv_lload X d_Model_more_165 0 rfl ?_
        refine zv_ldiv X d_Model_more_167 (fun h167 => ?_)
        refine zv_goto X (tgt := 176) d_Model_more_168 (by decide) ?_
        exact zv_lretP X d_Model_more_176
    · refine zv_lload X d_Model_more_77 5 rfl ?_
      refine zv_iload X d_Model_more_79 7 rfl ?_
      refine zv_iload_n X d_Model_more_81 rfl 0 rfl ?_
      refine zv_icmp_lt X (tgt := 110) d_Model_more_82 (by decide) (fun h82 => ?_) (fun h82 => ?_)
      · refine zv_lconst X (x := 0) d_Model_more_110 (by decide +kernel) ?_
        refine zv_sub X [0, 1, 2, 3, 4, 6, 7] rfl ?_
        exact v_Model_more_111 X hN v1 v2 v4 v5 v6 v9 v11 0 v7 (f_Model_more_70 v1 v2 v4 v5 v6 D n) D ih
      · refine zv_lload X d_Model_more_85 6 rfl ?_
        refine zv_iload_n X d_Model_more_87 rfl 1 rfl ?_
        refine zv_i2l X d_Model_more_88 ?_
        refine zv_iload X d_Model_more_89 7 rfl ?_
        refine zv_cSP2 X (av := [zl (wI v2), zi v11]) (st := [zl v9, zl v7]) (c_Model_power Γ.2.1 X.2.2.2.2.2.2.2.1 hN (wI v2) v11 D) mk_Model_176 ⟨rfl, rfl, Nat.le_of_ble_eq_true rfl, Nat.le_of_ble_eq_true rfl⟩ rfl (Nat.le_of_ble_eq_true rfl) d_Model_more_91 (fun r3 hr3 => ?_)
        refine zv_lmul X d_Model_more_94 ?_
        refine zv_iload X d_Model_more_95 2 rfl ?_
        refine zv_i2l X d_Model_more_97 ?_
        refine zv_iload X d_Model_more_98 4 rfl ?_
        refine zv_iload X d_Model_more_100 7 rfl ?_
        refine zv_isub X d_Model_more_102 ?_
        refine zv_cSP2 X (av := [zl (wI v4), zi (v6 - v11)]) (st := [zl (v9 * r3), zl v7]) (c_Model_power Γ.2.1 X.2.2.2.2.2.2.2.1 hN (wI v4) (v6 - v11) D) mk_Model_176 ⟨rfl, rfl, Nat.le_of_ble_eq_true rfl, Nat.le_of_ble_eq_true rfl⟩ rfl (Nat.le_of_ble_eq_true rfl) d_Model_more_103 (fun r4 hr4 => ?_)
        refine zv_lmul X d_Model_more_106 ?_
        refine zv_goto X (tgt := 111) d_Model_more_107 (by decide) ?_
        refine zv_sub X [0, 1, 2, 3, 4, 6, 7] rfl ?_
        exact v_Model_more_111 X hN v1 v2 v4 v5 v6 v9 v11 ((v9 * r3) * r4) v7 (f_Model_more_70 v1 v2 v4 v5 v6 D n) D ih
set_option maxRecDepth 100000 in
theorem v_Model_more_52 {Γ : Gt} {Z : Zt} (X : Cx Γ Z prog_10_method_28_code R_Model 15 (some .long) rm_Model_more) (hN : 166 ≤ Z.2.2.2.1)   (D : Mm)  : Zv Γ Z 15 (QfP Γ Z 2 D) (f_Model_more_52 D) D 52 [] [] := by
  unfold f_Model_more_52
  refine zv_ldc2 X (-1) kc_Model_147 (by decide +kernel) d_Model_more_52 ?_
  exact zv_lretP X d_Model_more_55
set_option maxRecDepth 100000 in
theorem c_Model_more (l : Launch) {Z : Zt} (hZ : Zok Z) (hN : 166 ≤ Z.2.2.2.1) (v1 v2 v3 v4 v5 : Int)  (D : Mm) : CtP l Z y_Model_more prog_10_method_28_code 15 (some .long) rm_Model_more 2 [zr Z 144, zi v1, zi v2, zi v3, zi v4, zi v5] D (f_Model_more v1 v2 v3 v4 v5 D) := by
  refine zm_P (lv := [(0, zr Z 144), (1, zi v1), (2, zi v2), (3, zi v3), (4, zi v4), (5, zi v5)]) hZ (by decide +kernel) rfl (Nat.le_of_ble_eq_true rfl) rfl (fun Γ hl X => ?_)
  subst hl
  unfold f_Model_more
  refine zv_iload_n X d_Model_more_0 rfl 1 rfl ?_
  refine zv_i2l X d_Model_more_1 ?_
  refine zv_lconst X (x := 0) d_Model_more_2 (by decide +kernel) ?_
  refine zv_ldc2 X 12 kc_Model_171 (by decide +kernel) d_Model_more_3 ?_
  refine zv_cSP1 X (av := [zl (wI v1), zl 0, zl 12]) (st := []) (c_Model_in Γ.2.1 X.2.2.2.2.2.2.2.1 hN (wI v1) 0 12 D) mk_Model_82 ⟨rfl, rfl, Nat.le_of_ble_eq_true rfl, Nat.le_of_ble_eq_true rfl⟩ rfl (Nat.le_of_ble_eq_true rfl) d_Model_more_6 (fun r1 hr1 => ?_)
  refine zv_if_eq X (y := 0) (tgt := 52) d_Model_more_9 (by decide) (fun h9 => ?_) (fun h9 => ?_)
  · refine zv_sub X [] rfl ?_
    exact v_Model_more_52 X hN D
  · refine zv_iload_n X d_Model_more_12 rfl 2 rfl ?_
    refine zv_cSP1 X (av := [zi v2]) (st := []) (c_Model_isArea Γ.2.1 X.2.2.2.2.2.2.2.1 hN v2 D) mk_Model_173 ⟨rfl, rfl, Nat.le_of_ble_eq_true rfl, Nat.le_of_ble_eq_true rfl⟩ rfl (Nat.le_of_ble_eq_true rfl) d_Model_more_13 (fun r2 hr2 => ?_)
    refine zv_if_eq X (y := 0) (tgt := 52) d_Model_more_16 (by decide) (fun h16 => ?_) (fun h16 => ?_)
    · refine zv_sub X [] rfl ?_
      exact v_Model_more_52 X hN D
    · refine zv_iload_n X d_Model_more_19 rfl 3 rfl ?_
      refine zv_i2l X d_Model_more_20 ?_
      refine zv_lconst X (x := 0) d_Model_more_21 (by decide +kernel) ?_
      refine zv_bipush X d_Model_more_22 (by decide +kernel) ?_
      refine zv_iload_n X d_Model_more_24 rfl 1 rfl ?_
      refine zv_isub X d_Model_more_25 ?_
      refine zv_i2l X d_Model_more_26 ?_
      refine zv_cSP1 X (av := [zl (wI v3), zl 0, zl (wI (12 - v1))]) (st := []) (c_Model_in Γ.2.1 X.2.2.2.2.2.2.2.1 hN (wI v3) 0 (wI (12 - v1)) D) mk_Model_82 ⟨rfl, rfl, Nat.le_of_ble_eq_true rfl, Nat.le_of_ble_eq_true rfl⟩ rfl (Nat.le_of_ble_eq_true rfl) d_Model_more_27 (fun r3 hr3 => ?_)
      refine zv_if_eq X (y := 0) (tgt := 52) d_Model_more_30 (by decide) (fun h30 => ?_) (fun h30 => ?_)
      · refine zv_sub X [] rfl ?_
        exact v_Model_more_52 X hN D
      · refine zv_iload X d_Model_more_33 4 rfl ?_
        refine zv_cSP1 X (av := [zi v4]) (st := []) (c_Model_isArea Γ.2.1 X.2.2.2.2.2.2.2.1 hN v4 D) mk_Model_173 ⟨rfl, rfl, Nat.le_of_ble_eq_true rfl, Nat.le_of_ble_eq_true rfl⟩ rfl (Nat.le_of_ble_eq_true rfl) d_Model_more_35 (fun r4 hr4 => ?_)
        refine zv_if_eq X (y := 0) (tgt := 52) d_Model_more_38 (by decide) (fun h38 => ?_) (fun h38 => ?_)
        · refine zv_sub X [] rfl ?_
          exact v_Model_more_52 X hN D
        · refine zv_iload X d_Model_more_41 5 rfl ?_
          refine zv_i2l X d_Model_more_43 ?_
          refine zv_lconst X (x := 0) d_Model_more_44 (by decide +kernel) ?_
          refine zv_lconst X (x := 1) d_Model_more_45 (by decide +kernel) ?_
          refine zv_cSP1 X (av := [zl (wI v5), zl 0, zl 1]) (st := []) (c_Model_in Γ.2.1 X.2.2.2.2.2.2.2.1 hN (wI v5) 0 1 D) mk_Model_82 ⟨rfl, rfl, Nat.le_of_ble_eq_true rfl, Nat.le_of_ble_eq_true rfl⟩ rfl (Nat.le_of_ble_eq_true rfl) d_Model_more_46 (fun r5 hr5 => ?_)
          refine zv_if_ne X (y := 0) (tgt := 56) d_Model_more_49 (by decide) (fun h49 => ?_) (fun h49 => ?_)
          · refine zv_iload_n X d_Model_more_56 rfl 1 rfl ?_
            refine zv_iload_n X d_Model_more_57 rfl 3 rfl ?_
            refine zv_iadd X d_Model_more_58 ?_
            refine zv_istore X (lv2 := [(6, zi (v1 + v3)), (0, zr Z 144), (1, zi v1), (2, zi v2), (3, zi v3), (4, zi v4), (5, zi v5)]) d_Model_more_59 (by decide) rfl ?_
            refine zv_lconst X (x := 0) d_Model_more_61 (by decide +kernel) ?_
            refine zv_lstore X (lv2 := [(7, zl 0), (6, zi (v1 + v3)), (0, zr Z 144), (1, zi v1), (2, zi v2), (3, zi v3), (4, zi v4), (5, zi v5)]) d_Model_more_62 (by decide) rfl ?_
            refine zv_lconst X (x := 1) d_Model_more_64 (by decide +kernel) ?_
            refine zv_lstore X (lv2 := [(9, zl 1), (7, zl 0), (6, zi (v1 + v3)), (0, zr Z 144), (1, zi v1), (2, zi v2), (3, zi v3), (4, zi v4), (5, zi v5)]) d_Model_more_65 (by decide) rfl ?_
            refine zv_iconst X d_Model_more_67 ?_
            refine zv_istore X (lv2 := [(11, zi 0), (9, zl 1), (7, zl 0), (6, zi (v1 + v3)), (0, zr Z 144), (1, zi v1), (2, zi v2), (3, zi v3), (4, zi v4), (5, zi v5)]) d_Model_more_68 (by decide) rfl ?_
            refine zv_sub X [5, 6, 8, 9, 3, 2, 1, 0] rfl ?_
            exact v_Model_more_70 X hN v1 v2 v4 v5 (v1 + v3) D zF 0 1 0
          · refine zv_sub X [] rfl ?_
            exact v_Model_more_52 X hN D
set_option maxRecDepth 100000 in
theorem c_Model_isRare (l : Launch) {Z : Zt} (hZ : Zok Z) (hN : 166 ≤ Z.2.2.2.1) (v0 v1 v2 v3 : Int)  (D : Mm) : CtP l Z y_Model_isRare prog_10_method_29_code 4 (some .boolean) rm_Model_isRare 1 [zi v0, zi v1, zi v2, zi v3] D (f_Model_isRare v0 v1 v2 v3 D) := by
  refine zm_P (lv := [(0, zi v0), (1, zi v1), (2, zi v2), (3, zi v3)]) hZ (by decide +kernel) rfl (Nat.le_of_ble_eq_true rfl) rfl (fun Γ hl X => ?_)
  subst hl
  unfold f_Model_isRare
  refine zv_iload_n X d_Model_isRare_0 rfl 3 rfl ?_
  refine zv_i2l X d_Model_isRare_1 ?_
  refine zv_iload_n X d_Model_isRare_2 rfl 1 rfl ?_
  refine zv_i2l X d_Model_isRare_3 ?_
  refine zv_iload_n X d_Model_isRare_4 rfl 0 rfl ?_
  refine zv_cSP2 X (av := [zl (wI v1), zi v0]) (st := [zl (wI v3)]) (c_Model_power Γ.2.1 X.2.2.2.2.2.2.2.1 hN (wI v1) v0 D) mk_Model_176 ⟨rfl, rfl, Nat.le_of_ble_eq_true rfl, Nat.le_of_ble_eq_true rfl⟩ rfl (Nat.le_of_ble_eq_true rfl) d_Model_isRare_5 (fun r1 hr1 => ?_)
  refine zv_lmul X d_Model_isRare_8 ?_
  refine zv_iload_n X d_Model_isRare_9 rfl 1 rfl ?_
  refine zv_iload_n X d_Model_isRare_10 rfl 2 rfl ?_
  refine zv_iadd X d_Model_isRare_11 ?_
  refine zv_i2l X d_Model_isRare_12 ?_
  refine zv_iload_n X d_Model_isRare_13 rfl 0 rfl ?_
  refine zv_cSP2 X (av := [zl (wI (v1 + v2)), zi v0]) (st := [zl ((wI v3) * r1)]) (c_Model_power Γ.2.1 X.2.2.2.2.2.2.2.1 hN (wI (v1 + v2)) v0 D) mk_Model_176 ⟨rfl, rfl, Nat.le_of_ble_eq_true rfl, Nat.le_of_ble_eq_true rfl⟩ rfl (Nat.le_of_ble_eq_true rfl) d_Model_isRare_14 (fun r2 hr2 => ?_)
  refine zv_lcmp_gt X (tgt := 25) d_Model_isRare_17 d_Model_isRare_18 (by decide) (fun h17 => ?_) (fun h17 => ?_)
  · refine zv_iconst X d_Model_isRare_25 ?_
    exact zv_zretPK X (Or.inl rfl) d_Model_isRare_26
  · refine zv_iconst X d_Model_isRare_21 ?_
    refine zv_goto X (tgt := 26) d_Model_isRare_22 (by decide) ?_
    exact zv_zretPK X (Or.inr rfl) d_Model_isRare_26

set_option maxRecDepth 100000 in
theorem c_Main_within (l : Launch) {Z : Zt} (hZ : Zok Z) (hN : 143 ≤ Z.2.2.2.1) (v0 v1 v2 : Int)  (D : Mm) : CtP l Z y_Main_within prog_1_method_36_code 3 (some .boolean) rm_Main_within 1 [zi v0, zi v1, zi v2] D (f_Main_within v0 v1 v2 D) := by
  refine zm_P (lv := [(0, zi v0), (1, zi v1), (2, zi v2)]) hZ (by decide +kernel) rfl (Nat.le_of_ble_eq_true rfl) rfl (fun Γ hl X => ?_)
  subst hl
  unfold f_Main_within
  refine zv_iload_n X d_Main_within_0 rfl 0 rfl ?_
  refine zv_iload_n X d_Main_within_1 rfl 1 rfl ?_
  refine zv_icmp_lt X (tgt := 14) d_Main_within_2 (by decide) (fun h2 => ?_) (fun h2 => ?_)
  · refine zv_iconst X d_Main_within_14 ?_
    exact zv_zretPK X (Or.inl rfl) d_Main_within_15
  · refine zv_iload_n X d_Main_within_5 rfl 0 rfl ?_
    refine zv_iload_n X d_Main_within_6 rfl 2 rfl ?_
    refine zv_icmp_gt X (tgt := 14) d_Main_within_7 (by decide) (fun h7 => ?_) (fun h7 => ?_)
    · refine zv_iconst X d_Main_within_14 ?_
      exact zv_zretPK X (Or.inl rfl) d_Main_within_15
    · refine zv_iconst X d_Main_within_10 ?_
      refine zv_goto X (tgt := 15) d_Main_within_11 (by decide) ?_
      exact zv_zretPK X (Or.inr rfl) d_Main_within_15
set_option maxRecDepth 100000 in
theorem c_Text_put (l : Launch) {Z : Zt} (hZ : Zok Z) (hN : 143 ≤ Z.2.2.2.1) (v1 : Int)  (D : Mm) : CtM l Z y_Text_put prog_8_method_2_code 2 none rm_Text_put 0 [zr Z 2, zi v1] D (f_Text_put v1 D) := by
  refine zm_M (lv := [(0, zr Z 2), (1, zi v1)]) hZ (by decide +kernel) rfl (Nat.le_of_ble_eq_true rfl) rfl (fun Γ hl X => ?_)
  subst hl
  unfold f_Text_put
  refine zv_aload_n X d_Text_put_0 rfl 0 rfl ?_
  refine zv_get X (ci := 0) rfl i_Text (za_2 hN) 1 (by decide) lk_Text_15 rfl rfl d_Text_put_1 ?_
  refine zv_sipush X d_Text_put_4 (by decide +kernel) ?_
  refine zv_icmp_ge X (tgt := 30) d_Text_put_7 (by decide) (fun h7 => ?_) (fun h7 => ?_)
  · exact zv_vretM X d_Text_put_30
  · refine zv_aload_n X d_Text_put_10 rfl 0 rfl ?_
    refine zv_get X (ci := 0) rfl i_Text (za_2 hN) 0 (by decide) lk_Text_9 rfl rfl d_Text_put_11 ?_
    refine zv_aload_n X d_Text_put_14 rfl 0 rfl ?_
    refine zv_get X (ci := 0) rfl i_Text (za_2 hN) 1 (by decide) lk_Text_15 rfl rfl d_Text_put_15 ?_
    refine zv_iload_n X d_Text_put_18 rfl 1 rfl ?_
    refine zv_iastC X (za_3 hN) d_Text_put_19 (fun ha19 hb19 D1 => ?_)
    refine zv_aload_n X d_Text_put_20 rfl 0 rfl ?_
    refine zv_dup X d_Text_put_21 rfl ?_
    refine zv_get X (ci := 0) rfl i_Text (za_2 hN) 1 (by decide) lk_Text_15 rfl rfl d_Text_put_22 ?_
    refine zv_iconst X d_Text_put_25 ?_
    refine zv_iadd X d_Text_put_26 ?_
    refine zv_putC X (ci := 0) rfl i_Text t_Text t_Text_ok n_Text (za_2 hN) 1 rfl (by decide) lk_Text_15 rfl rfl (ps_0_1 ..) (Nat.le_of_ble_eq_true rfl) rfl rfl d_Text_put_27 (fun D2 => ?_)
    exact zv_vretM X d_Text_put_30
set_option maxRecDepth 100000 in
theorem v_Main_write_35 {Γ : Gt} {Z : Zt} (X : Cx Γ Z prog_1_method_2_code R_Main 5 (some .int) rm_Main_write) (hN : 143 ≤ Z.2.2.2.1) (v2 : Int)    : ∀ (n : Nat) (v4 : Int) (D : Mm), Zv Γ Z 5 (QfM Γ Z 1) (f_Main_write_35 v2 n v4 D) D 35 [(0, zr Z 1), (2, zl v2), (4, zi v4)] [] := by
  intro n
  induction n with
  | zero =>
    intro v4 D
    exact zv_none
  | succ n ih =>
    intro v4 D
    rw [f_Main_write_35]
    refine zv_iload X d_Main_write_35 2 rfl ?_
    refine zv_if_lt X (y := 0) (tgt := 65) d_Main_write_37 (by decide) (fun h37 => ?_) (fun h37 => ?_)
    · refine zv_aload_n X d_Main_write_65 rfl 0 rfl ?_
      refine zv_get X (ci := 6) rfl i_Main (za_1 hN) 0 (by decide) lk_Main_10 rfl rfl d_Main_write_66 ?_
      refine zv_get X (ci := 0) rfl i_Text (za_2 hN) 1 (by decide) lk_Main_65 rfl rfl d_Main_write_69 ?_
      exact zv_iretM X d_Main_write_72
    · refine zv_aload_n X d_Main_write_40 rfl 0 rfl ?_
      refine zv_get X (ci := 6) rfl i_Main (za_1 hN) 0 (by decide) lk_Main_10 rfl rfl d_Main_write_41 ?_
      refine zv_lload_n X d_Main_write_44 rfl 1 rfl ?_
      refine zv_bipush X d_Main_write_45 (by decide +kernel) ?_
      refine zv_iload X d_Main_write_47 2 rfl ?_
      refine zv_imul X d_Main_write_49 ?_
      refine zv_lushr X d_Main_write_50 ?_
      refine zv_l2i X d_Main_write_51 ?_
      refine zv_sipush X d_Main_write_52 (by decide +kernel) ?_
      refine zv_iand X d_Main_write_55 ?_
      refine zv_cVM0 X (av := [zi (jand (jlushr v2 (8 * v4)) 255)]) (st := []) (ci := 0) (c_Text_put Γ.2.1 X.2.2.2.2.2.2.2.1 hN (jand (jlushr v2 (8 * v4)) 255) D) mk_Main_69 rfl (za_2 hN) ⟨rfl, rfl, Nat.le_of_ble_eq_true rfl, Nat.le_of_ble_eq_true rfl⟩ rfl (Nat.le_of_ble_eq_true rfl) d_Main_write_56 (fun _ D2 hr1 => ?_)
      refine zv_iinc X (lv2 := [(4, zi (v4 + (-1))), (0, zr Z 1), (2, zl v2)]) d_Main_write_59 2 rfl (by decide) rfl ?_
      refine zv_goto X (tgt := 35) d_Main_write_62 (by decide) ?_
      refine zv_sub X [1, 2, 0] rfl ?_
      exact ih (v4 + (-1)) D2
set_option maxRecDepth 100000 in
theorem c_Main_write (l : Launch) {Z : Zt} (hZ : Zok Z) (hN : 143 ≤ Z.2.2.2.1) (v1 v2 : Int)  (D : Mm) : CtM l Z y_Main_write prog_1_method_2_code 5 (some .int) rm_Main_write 1 [zr Z 1, zi v1, zl v2] D (f_Main_write v1 v2 D) := by
  refine zm_M (lv := [(0, zr Z 1), (1, zi v1), (2, zl v2)]) hZ (by decide +kernel) rfl (Nat.le_of_ble_eq_true rfl) rfl (fun Γ hl X => ?_)
  subst hl
  unfold f_Main_write
  refine zv_iload_n X d_Main_write_0 rfl 1 rfl ?_
  refine zv_iconst X d_Main_write_1 ?_
  refine zv_bipush X d_Main_write_2 (by decide +kernel) ?_
  refine zv_cSP1 X (av := [zi v1, zi 1, zi 8]) (st := []) (c_Main_within Γ.2.1 X.2.2.2.2.2.2.2.1 hN v1 1 8 D) mk_Main_61 ⟨rfl, rfl, Nat.le_of_ble_eq_true rfl, Nat.le_of_ble_eq_true rfl⟩ rfl (Nat.le_of_ble_eq_true rfl) d_Main_write_4 (fun r1 hr1 => ?_)
  refine zv_if_ne X (y := 0) (tgt := 12) d_Main_write_7 (by decide) (fun h7 => ?_) (fun h7 => ?_)
  · refine zv_aload_n X d_Main_write_12 rfl 0 rfl ?_
    refine zv_get X (ci := 6) rfl i_Main (za_1 hN) 0 (by decide) lk_Main_10 rfl rfl d_Main_write_13 ?_
    refine zv_get X (ci := 0) rfl i_Text (za_2 hN) 1 (by decide) lk_Main_65 rfl rfl d_Main_write_16 ?_
    refine zv_iload_n X d_Main_write_19 rfl 1 rfl ?_
    refine zv_iadd X d_Main_write_20 ?_
    refine zv_sipush X d_Main_write_21 (by decide +kernel) ?_
    refine zv_icmp_le X (tgt := 30) d_Main_write_24 (by decide) (fun h24 => ?_) (fun h24 => ?_)
    · refine zv_iload_n X d_Main_write_30 rfl 1 rfl ?_
      refine zv_iconst X d_Main_write_31 ?_
      refine zv_isub X d_Main_write_32 ?_
      refine zv_istore X (lv2 := [(4, zi (v1 - 1)), (0, zr Z 1), (1, zi v1), (2, zl v2)]) d_Main_write_33 (by decide) rfl ?_
      refine zv_sub X [1, 3, 0] rfl ?_
      exact v_Main_write_35 X hN v2 zF (v1 - 1) D
    · refine zv_bipush X d_Main_write_27 (by decide +kernel) ?_
      exact zv_iretM X d_Main_write_29
  · refine zv_iconst X d_Main_write_10 ?_
    exact zv_iretM X d_Main_write_11
set_option maxRecDepth 100000 in
theorem c_Text_clear (l : Launch) {Z : Zt} (hZ : Zok Z) (hN : 143 ≤ Z.2.2.2.1)  (D : Mm) : CtM l Z y_Text_clear prog_8_method_3_code 1 none rm_Text_clear 0 [zr Z 2] D (f_Text_clear D) := by
  refine zm_M (lv := [(0, zr Z 2)]) hZ (by decide +kernel) rfl (Nat.le_of_ble_eq_true rfl) rfl (fun Γ hl X => ?_)
  subst hl
  unfold f_Text_clear
  refine zv_aload_n X d_Text_clear_0 rfl 0 rfl ?_
  refine zv_iconst X d_Text_clear_1 ?_
  refine zv_putC X (ci := 0) rfl i_Text t_Text t_Text_ok n_Text (za_2 hN) 1 rfl (by decide) lk_Text_15 rfl rfl (ps_0_1 ..) (Nat.le_of_ble_eq_true rfl) rfl rfl d_Text_clear_2 (fun D1 => ?_)
  exact zv_vretM X d_Text_clear_5
set_option maxRecDepth 100000 in
theorem c_Main_wipe (l : Launch) {Z : Zt} (hZ : Zok Z) (hN : 143 ≤ Z.2.2.2.1)  (D : Mm) : CtM l Z y_Main_wipe prog_1_method_3_code 2 (some .int) rm_Main_wipe 1 [zr Z 1] D (f_Main_wipe D) := by
  refine zm_M (lv := [(0, zr Z 1)]) hZ (by decide +kernel) rfl (Nat.le_of_ble_eq_true rfl) rfl (fun Γ hl X => ?_)
  subst hl
  unfold f_Main_wipe
  refine zv_aload_n X d_Main_wipe_0 rfl 0 rfl ?_
  refine zv_get X (ci := 6) rfl i_Main (za_1 hN) 0 (by decide) lk_Main_10 rfl rfl d_Main_wipe_1 ?_
  refine zv_get X (ci := 0) rfl i_Text (za_2 hN) 1 (by decide) lk_Main_65 rfl rfl d_Main_wipe_4 ?_
  refine zv_istore_n X (lv2 := [(1, zi (D 2 1)), (0, zr Z 1)]) d_Main_wipe_7 rfl (by decide) rfl ?_
  refine zv_aload_n X d_Main_wipe_8 rfl 1 rfl ?_
  refine zv_get X (ci := 6) rfl i_Main (za_1 hN) 0 (by decide) lk_Main_10 rfl rfl d_Main_wipe_9 ?_
  refine zv_cVM0 X (av := []) (st := []) (ci := 0) (c_Text_clear Γ.2.1 X.2.2.2.2.2.2.2.1 hN D) mk_Main_73 rfl (za_2 hN) ⟨rfl, rfl, Nat.le_of_ble_eq_true rfl, Nat.le_of_ble_eq_true rfl⟩ rfl (Nat.le_of_ble_eq_true rfl) d_Main_wipe_12 (fun _ D2 hr1 => ?_)
  refine zv_iload_n X d_Main_wipe_15 rfl 0 rfl ?_
  exact zv_iretM X d_Main_wipe_16
set_option maxRecDepth 100000 in
theorem v_Arrays_fill_5 {Γ : Gt} {Z : Zt} (X : Cx Γ Z prog_14_method_103_code R_Arrays 4 none rm_Arrays_fill) (v0 n0 v1 v3 : Int) (gv0 : 0 ≤ n0) (hv0 : Zin Z v0 0 n0)   : ∀ (n : Nat) (v2 : Int) (D : Mm), Zv Γ Z 4 (QfM Γ Z 0) (f_Arrays_fill_5 v0 n0 v1 v3 n v2 D) D 5 [(0, zr Z v0), (1, zi v1), (2, zi v2), (3, zi v3)] [] := by
  intro n
  induction n with
  | zero =>
    intro v2 D
    exact zv_none
  | succ n ih =>
    intro v2 D
    rw [f_Arrays_fill_5]
    refine zv_iload_n X d_Arrays_fill_5 rfl 2 rfl ?_
    refine zv_iload_n X d_Arrays_fill_6 rfl 3 rfl ?_
    refine zv_icmp_ge X (tgt := 20) d_Arrays_fill_7 (by decide) (fun h7 => ?_) (fun h7 => ?_)
    · exact zv_vretM X d_Arrays_fill_20
    · refine zv_aload_n X d_Arrays_fill_10 rfl 0 rfl ?_
      refine zv_iload_n X d_Arrays_fill_11 rfl 2 rfl ?_
      refine zv_iload_n X d_Arrays_fill_12 rfl 1 rfl ?_
      refine zv_iastC X hv0 d_Arrays_fill_13 (fun ha13 hb13 D1 => ?_)
      refine zv_iinc X (lv2 := [(2, zi (v2 + 1)), (0, zr Z v0), (1, zi v1), (3, zi v3)]) d_Arrays_fill_14 2 rfl (by decide) rfl ?_
      refine zv_goto X (tgt := 5) d_Arrays_fill_17 (by decide) ?_
      refine zv_sub X [1, 2, 0, 3] rfl ?_
      exact ih (v2 + 1) D1
set_option maxRecDepth 100000 in
theorem c_Arrays_fill (l : Launch) {Z : Zt} (hZ : Zok Z) (v0 n0 v1 : Int) (hv0 : Zin Z v0 0 n0) (gv0 : 0 ≤ n0) (D : Mm) : CtM l Z y_Arrays_fill prog_14_method_103_code 4 none rm_Arrays_fill 0 [zr Z v0, zi v1] D (f_Arrays_fill v0 n0 v1 D) := by
  refine zm_MF (lv := [(0, zr Z v0), (1, zi v1)]) hZ (by decide +kernel) rfl (Nat.le_of_ble_eq_true rfl) rfl (fun Γ hl X => ?_)
  subst hl
  unfold f_Arrays_fill
  refine zv_iconst X d_Arrays_fill_0 ?_
  refine zv_istore_n X (lv2 := [(2, zi 0), (0, zr Z v0), (1, zi v1)]) d_Arrays_fill_1 rfl (by decide) rfl ?_
  refine zv_aload_n X d_Arrays_fill_2 rfl 1 rfl ?_
  refine zv_alen X hv0 gv0 d_Arrays_fill_3 ?_
  refine zv_istore_n X (lv2 := [(3, zi n0), (2, zi 0), (0, zr Z v0), (1, zi v1)]) d_Arrays_fill_4 rfl (by decide) rfl ?_
  refine zv_sub X [2, 3, 1, 0] rfl ?_
  exact v_Arrays_fill_5 X v0 n0 v1 n0 gv0 hv0 zF 0 D
set_option maxRecDepth 100000 in
theorem v_Quern_clear_64 {Γ : Gt} {Z : Zt} (X : Cx Γ Z prog_6_method_2_code R_Quern 2 none rm_Quern_clear) (hN : 143 ≤ Z.2.2.2.1) (v0 : Int) (hv0 : isQ v0)   : ∀ (n : Nat) (v1 : Int) (D : Mm), Zv Γ Z 2 (QfM Γ Z 0) (f_Quern_clear_64 v0 n v1 D) D 64 [(0, zr Z v0), (1, zi v1)] [] := by
  intro n
  induction n with
  | zero =>
    intro v1 D
    exact zv_none
  | succ n ih =>
    intro v1 D
    rw [f_Quern_clear_64]
    refine zv_iload_n X d_Quern_clear_64 rfl 1 rfl ?_
    refine zv_bipush X d_Quern_clear_65 (by decide +kernel) ?_
    refine zv_icmp_ge X (tgt := 86) d_Quern_clear_67 (by decide) (fun h67 => ?_) (fun h67 => ?_)
    · refine zv_aload_n X d_Quern_clear_86 rfl 0 rfl ?_
      refine zv_get X (ci := 5) rfl i_Quern (zq_0 hN hv0) 9 (by decide) lk_Quern_35 rfl rfl d_Quern_clear_87 ?_
      refine zv_iconst X d_Quern_clear_90 ?_
      refine zv_cSM0 X (av := [zr Z (v0 + 28), zi 0]) (st := []) (c_Arrays_fill Γ.2.1 X.2.2.2.2.2.2.2.1 (v0 + 28) 4 0 (zq_28 hN hv0) (by decide) D) mk_Quern_54 ⟨rfl, rfl, Nat.le_of_ble_eq_true rfl, Nat.le_of_ble_eq_true rfl⟩ rfl (Nat.le_of_ble_eq_true rfl) d_Quern_clear_91 (fun _ D2 hr1 => ?_)
      refine zv_aload_n X d_Quern_clear_94 rfl 0 rfl ?_
      refine zv_get X (ci := 5) rfl i_Quern (zq_0 hN hv0) 10 (by decide) lk_Quern_38 rfl rfl d_Quern_clear_95 ?_
      refine zv_iconst X d_Quern_clear_98 ?_
      refine zv_cSM0 X (av := [zr Z (v0 + 29), zi 0]) (st := []) (c_Arrays_fill Γ.2.1 X.2.2.2.2.2.2.2.1 (v0 + 29) 4 0 (zq_29 hN hv0) (by decide) D2) mk_Quern_54 ⟨rfl, rfl, Nat.le_of_ble_eq_true rfl, Nat.le_of_ble_eq_true rfl⟩ rfl (Nat.le_of_ble_eq_true rfl) d_Quern_clear_99 (fun _ D4 hr3 => ?_)
      exact zv_vretM X d_Quern_clear_102
    · refine zv_aload_n X d_Quern_clear_70 rfl 0 rfl ?_
      refine zv_get X (ci := 5) rfl i_Quern (zq_0 hN hv0) 12 (by decide) lk_Quern_41 rfl rfl d_Quern_clear_71 ?_
      refine zv_iload_n X d_Quern_clear_74 rfl 1 rfl ?_
      refine zv_aald X (v0 + 31 + v1) (zq_30 hN hv0) d_Quern_clear_75 (by omega) (fun ha75 hb75 => ?_)
      refine zv_iconst X d_Quern_clear_76 ?_
      refine zv_cSM0 X (av := [zr Z (v0 + 31 + v1), zi 0]) (st := []) (c_Arrays_fill Γ.2.1 X.2.2.2.2.2.2.2.1 (v0 + 31 + v1) 6 0 (zq_30r hN hv0 ha75 hb75) (by decide) D) mk_Quern_54 ⟨rfl, rfl, Nat.le_of_ble_eq_true rfl, Nat.le_of_ble_eq_true rfl⟩ rfl (Nat.le_of_ble_eq_true rfl) d_Quern_clear_77 (fun _ D6 hr5 => ?_)
      refine zv_iinc X (lv2 := [(1, zi (v1 + 1)), (0, zr Z v0)]) d_Quern_clear_80 1 rfl (by decide) rfl ?_
      refine zv_goto X (tgt := 64) d_Quern_clear_83 (by decide) ?_
      refine zv_sub X [1, 0] rfl ?_
      exact ih (v1 + 1) D6
set_option maxRecDepth 100000 in
theorem v_Quern_clear_41 {Γ : Gt} {Z : Zt} (X : Cx Γ Z prog_6_method_2_code R_Quern 2 none rm_Quern_clear) (hN : 143 ≤ Z.2.2.2.1) (v0 : Int) (hv0 : isQ v0)   : ∀ (n : Nat) (v1 : Int) (D : Mm), Zv Γ Z 2 (QfM Γ Z 0) (f_Quern_clear_41 v0 n v1 D) D 41 [(0, zr Z v0), (1, zi v1)] [] := by
  intro n
  induction n with
  | zero =>
    intro v1 D
    exact zv_none
  | succ n ih =>
    intro v1 D
    rw [f_Quern_clear_41]
    refine zv_iload_n X d_Quern_clear_41 rfl 1 rfl ?_
    refine zv_iconst X d_Quern_clear_42 ?_
    refine zv_icmp_ge X (tgt := 62) d_Quern_clear_43 (by decide) (fun h43 => ?_) (fun h43 => ?_)
    · refine zv_iconst X d_Quern_clear_62 ?_
      refine zv_istore_n X (lv2 := [(1, zi 0), (0, zr Z v0)]) d_Quern_clear_63 rfl (by decide) rfl ?_
      refine zv_sub X [1, 0] rfl ?_
      exact v_Quern_clear_64 X hN v0 hv0 zF 0 D
    · refine zv_aload_n X d_Quern_clear_46 rfl 0 rfl ?_
      refine zv_get X (ci := 5) rfl i_Quern (zq_0 hN hv0) 8 (by decide) lk_Quern_32 rfl rfl d_Quern_clear_47 ?_
      refine zv_iload_n X d_Quern_clear_50 rfl 1 rfl ?_
      refine zv_aald X (v0 + 24 + v1) (zq_23 hN hv0) d_Quern_clear_51 (by omega) (fun ha51 hb51 => ?_)
      refine zv_iconst X d_Quern_clear_52 ?_
      refine zv_cSM0 X (av := [zr Z (v0 + 24 + v1), zi 0]) (st := []) (c_Arrays_fill Γ.2.1 X.2.2.2.2.2.2.2.1 (v0 + 24 + v1) 6 0 (zq_23r hN hv0 ha51 hb51) (by decide) D) mk_Quern_54 ⟨rfl, rfl, Nat.le_of_ble_eq_true rfl, Nat.le_of_ble_eq_true rfl⟩ rfl (Nat.le_of_ble_eq_true rfl) d_Quern_clear_53 (fun _ D2 hr1 => ?_)
      refine zv_iinc X (lv2 := [(1, zi (v1 + 1)), (0, zr Z v0)]) d_Quern_clear_56 1 rfl (by decide) rfl ?_
      refine zv_goto X (tgt := 41) d_Quern_clear_59 (by decide) ?_
      refine zv_sub X [1, 0] rfl ?_
      exact ih (v1 + 1) D2
set_option maxRecDepth 100000 in
theorem v_Quern_clear_17 {Γ : Gt} {Z : Zt} (X : Cx Γ Z prog_6_method_2_code R_Quern 2 none rm_Quern_clear) (hN : 143 ≤ Z.2.2.2.1) (v0 : Int) (hv0 : isQ v0)   : ∀ (n : Nat) (v1 : Int) (D : Mm), Zv Γ Z 2 (QfM Γ Z 0) (f_Quern_clear_17 v0 n v1 D) D 17 [(0, zr Z v0), (1, zi v1)] [] := by
  intro n
  induction n with
  | zero =>
    intro v1 D
    exact zv_none
  | succ n ih =>
    intro v1 D
    rw [f_Quern_clear_17]
    refine zv_iload_n X d_Quern_clear_17 rfl 1 rfl ?_
    refine zv_bipush X d_Quern_clear_18 (by decide +kernel) ?_
    refine zv_icmp_ge X (tgt := 39) d_Quern_clear_20 (by decide) (fun h20 => ?_) (fun h20 => ?_)
    · refine zv_iconst X d_Quern_clear_39 ?_
      refine zv_istore_n X (lv2 := [(1, zi 0), (0, zr Z v0)]) d_Quern_clear_40 rfl (by decide) rfl ?_
      refine zv_sub X [1, 0] rfl ?_
      exact v_Quern_clear_41 X hN v0 hv0 zF 0 D
    · refine zv_aload_n X d_Quern_clear_23 rfl 0 rfl ?_
      refine zv_get X (ci := 5) rfl i_Quern (zq_0 hN hv0) 7 (by decide) lk_Quern_29 rfl rfl d_Quern_clear_24 ?_
      refine zv_iload_n X d_Quern_clear_27 rfl 1 rfl ?_
      refine zv_aald X (v0 + 13 + v1) (zq_12 hN hv0) d_Quern_clear_28 (by omega) (fun ha28 hb28 => ?_)
      refine zv_iconst X d_Quern_clear_29 ?_
      refine zv_cSM0 X (av := [zr Z (v0 + 13 + v1), zi 0]) (st := []) (c_Arrays_fill Γ.2.1 X.2.2.2.2.2.2.2.1 (v0 + 13 + v1) 6 0 (zq_12r hN hv0 ha28 hb28) (by decide) D) mk_Quern_54 ⟨rfl, rfl, Nat.le_of_ble_eq_true rfl, Nat.le_of_ble_eq_true rfl⟩ rfl (Nat.le_of_ble_eq_true rfl) d_Quern_clear_30 (fun _ D2 hr1 => ?_)
      refine zv_iinc X (lv2 := [(1, zi (v1 + 1)), (0, zr Z v0)]) d_Quern_clear_33 1 rfl (by decide) rfl ?_
      refine zv_goto X (tgt := 17) d_Quern_clear_36 (by decide) ?_
      refine zv_sub X [1, 0] rfl ?_
      exact ih (v1 + 1) D2
set_option maxRecDepth 100000 in
theorem c_Quern_clear (l : Launch) {Z : Zt} (hZ : Zok Z) (hN : 143 ≤ Z.2.2.2.1) (v0 : Int) (hv0 : isQ v0) (D : Mm) : CtM l Z y_Quern_clear prog_6_method_2_code 2 none rm_Quern_clear 0 [zr Z v0] D (f_Quern_clear v0 D) := by
  refine zm_M (lv := [(0, zr Z v0)]) hZ (by decide +kernel) rfl (Nat.le_of_ble_eq_true rfl) rfl (fun Γ hl X => ?_)
  subst hl
  unfold f_Quern_clear
  refine zv_aload_n X d_Quern_clear_0 rfl 0 rfl ?_
  refine zv_iconst X d_Quern_clear_1 ?_
  refine zv_putC X (ci := 5) rfl i_Quern t_Quern t_Quern_ok n_Quern (zq_0 hN hv0) 0 rfl (by decide) lk_Quern_44 rfl rfl (ps_5_0 ..) (Nat.le_of_ble_eq_true rfl) rfl rfl d_Quern_clear_2 (fun D1 => ?_)
  refine zv_aload_n X d_Quern_clear_5 rfl 0 rfl ?_
  refine zv_iconst X d_Quern_clear_6 ?_
  refine zv_putC X (ci := 5) rfl i_Quern t_Quern t_Quern_ok n_Quern (zq_0 hN hv0) 1 rfl (by decide) lk_Quern_48 rfl rfl (ps_5_1 ..) (Nat.le_of_ble_eq_true rfl) rfl rfl d_Quern_clear_7 (fun D2 => ?_)
  refine zv_aload_n X d_Quern_clear_10 rfl 0 rfl ?_
  refine zv_iconst X d_Quern_clear_11 ?_
  refine zv_putC X (ci := 5) rfl i_Quern t_Quern t_Quern_ok n_Quern (zq_0 hN hv0) 11 rfl (by decide) lk_Quern_51 rfl rfl (ps_5_11 ..) (Nat.le_of_ble_eq_true rfl) rfl rfl d_Quern_clear_12 (fun D3 => ?_)
  refine zv_iconst X d_Quern_clear_15 ?_
  refine zv_istore_n X (lv2 := [(1, zi 0), (0, zr Z v0)]) d_Quern_clear_16 rfl (by decide) rfl ?_
  refine zv_sub X [1, 0] rfl ?_
  exact v_Quern_clear_17 X hN v0 hv0 zF 0 D3
set_option maxRecDepth 100000 in
theorem c_Text_at (l : Launch) {Z : Zt} (hZ : Zok Z) (hN : 143 ≤ Z.2.2.2.1) (v1 : Int)  (D : Mm) : CtP l Z y_Text_at prog_8_method_4_code 2 (some .int) rm_Text_at 1 [zr Z 2, zi v1] D (f_Text_at v1 D) := by
  refine zm_P (lv := [(0, zr Z 2), (1, zi v1)]) hZ (by decide +kernel) rfl (Nat.le_of_ble_eq_true rfl) rfl (fun Γ hl X => ?_)
  subst hl
  unfold f_Text_at
  refine zv_iload_n X d_Text_at_0 rfl 1 rfl ?_
  refine zv_if_lt X (y := 0) (tgt := 21) d_Text_at_1 (by decide) (fun h1 => ?_) (fun h1 => ?_)
  · refine zv_iconst X d_Text_at_21 ?_
    exact zv_iretP X d_Text_at_22
  · refine zv_iload_n X d_Text_at_4 rfl 1 rfl ?_
    refine zv_aload_n X d_Text_at_5 rfl 0 rfl ?_
    refine zv_get X (ci := 0) rfl i_Text (za_2 hN) 1 (by decide) lk_Text_15 rfl rfl d_Text_at_6 ?_
    refine zv_icmp_ge X (tgt := 21) d_Text_at_9 (by decide) (fun h9 => ?_) (fun h9 => ?_)
    · refine zv_iconst X d_Text_at_21 ?_
      exact zv_iretP X d_Text_at_22
    · refine zv_aload_n X d_Text_at_12 rfl 0 rfl ?_
      refine zv_get X (ci := 0) rfl i_Text (za_2 hN) 0 (by decide) lk_Text_9 rfl rfl d_Text_at_13 ?_
      refine zv_iload_n X d_Text_at_16 rfl 1 rfl ?_
      refine zv_iald X (za_3 hN) d_Text_at_17 (fun ha17 hb17 => ?_)
      refine zv_goto X (tgt := 22) d_Text_at_18 (by decide) ?_
      exact zv_iretP X d_Text_at_22
set_option maxRecDepth 100000 in
theorem c_Scribe_numbersOf (l : Launch) {Z : Zt} (hZ : Zok Z) (hN : 143 ≤ Z.2.2.2.1) (v0 : Int)  (D : Mm) : CtP l Z y_Scribe_numbersOf prog_7_method_4_code 1 (some .int) rm_Scribe_numbersOf 1 [zi v0] D (f_Scribe_numbersOf v0 D) := by
  refine zm_P (lv := [(0, zi v0)]) hZ (by decide +kernel) rfl (Nat.le_of_ble_eq_true rfl) rfl (fun Γ hl X => ?_)
  subst hl
  unfold f_Scribe_numbersOf
  refine zv_iload_n X d_Scribe_numbersOf_0 rfl 0 rfl ?_
  refine zv_split (fun h1_98 => ?_) (fun h1_98 => ?_)
  · refine zv_tin X (tgt := 110) (off := 109) d_Scribe_numbersOf_1 h1_98 (by decide +kernel) (by decide) ?_
    refine zv_iconst X d_Scribe_numbersOf_110 ?_
    exact zv_iretP X d_Scribe_numbersOf_111
  refine zv_split (fun h1_102 => ?_) (fun h1_102 => ?_)
  · refine zv_tin X (tgt := 108) (off := 107) d_Scribe_numbersOf_1 h1_102 (by decide +kernel) (by decide) ?_
    refine zv_iconst X d_Scribe_numbersOf_108 ?_
    exact zv_iretP X d_Scribe_numbersOf_109
  refine zv_split (fun h1_103 => ?_) (fun h1_103 => ?_)
  · refine zv_tin X (tgt := 108) (off := 107) d_Scribe_numbersOf_1 h1_103 (by decide +kernel) (by decide) ?_
    refine zv_iconst X d_Scribe_numbersOf_108 ?_
    exact zv_iretP X d_Scribe_numbersOf_109
  refine zv_split (fun h1_116 => ?_) (fun h1_116 => ?_)
  · refine zv_tin X (tgt := 110) (off := 109) d_Scribe_numbersOf_1 h1_116 (by decide +kernel) (by decide) ?_
    refine zv_iconst X d_Scribe_numbersOf_110 ?_
    exact zv_iretP X d_Scribe_numbersOf_111
  refine zv_split (fun h1_117 => ?_) (fun h1_117 => ?_)
  · refine zv_tin X (tgt := 110) (off := 109) d_Scribe_numbersOf_1 h1_117 (by decide +kernel) (by decide) ?_
    refine zv_iconst X d_Scribe_numbersOf_110 ?_
    exact zv_iretP X d_Scribe_numbersOf_111
  refine zv_split (fun h1_119 => ?_) (fun h1_119 => ?_)
  · refine zv_tin X (tgt := 112) (off := 111) d_Scribe_numbersOf_1 h1_119 (by decide +kernel) (by decide) ?_
    refine zv_iconst X d_Scribe_numbersOf_112 ?_
    exact zv_iretP X d_Scribe_numbersOf_113
  refine zv_split (fun h1_120 => ?_) (fun h1_120 => ?_)
  · refine zv_tin X (tgt := 110) (off := 109) d_Scribe_numbersOf_1 h1_120 (by decide +kernel) (by decide) ?_
    refine zv_iconst X d_Scribe_numbersOf_110 ?_
    exact zv_iretP X d_Scribe_numbersOf_111
  refine zv_tdef X (tgt := 114) d_Scribe_numbersOf_1 (zt_def (cs := [98, 102, 103, 116, 117, 119, 120]) (by decide +kernel) (by decide) (List.forall_mem_cons.mpr ⟨zI_nek h1_98 (by decide +kernel), List.forall_mem_cons.mpr ⟨zI_nek h1_102 (by decide +kernel), List.forall_mem_cons.mpr ⟨zI_nek h1_103 (by decide +kernel), List.forall_mem_cons.mpr ⟨zI_nek h1_116 (by decide +kernel), List.forall_mem_cons.mpr ⟨zI_nek h1_117 (by decide +kernel), List.forall_mem_cons.mpr ⟨zI_nek h1_119 (by decide +kernel), List.forall_mem_cons.mpr ⟨zI_nek h1_120 (by decide +kernel), List.forall_mem_nil _⟩⟩⟩⟩⟩⟩⟩)) (by decide) ?_
  refine zv_iconst X d_Scribe_numbersOf_114 ?_
  exact zv_iretP X d_Scribe_numbersOf_115
set_option maxRecDepth 100000 in
theorem c_Text_isFigure (l : Launch) {Z : Zt} (hZ : Zok Z) (hN : 143 ≤ Z.2.2.2.1) (v1 : Int)  (D : Mm) : CtP l Z y_Text_isFigure prog_8_method_5_code 2 (some .boolean) rm_Text_isFigure 1 [zr Z 2, zi v1] D (f_Text_isFigure v1 D) := by
  refine zm_P (lv := [(0, zr Z 2), (1, zi v1)]) hZ (by decide +kernel) rfl (Nat.le_of_ble_eq_true rfl) rfl (fun Γ hl X => ?_)
  subst hl
  unfold f_Text_isFigure
  refine zv_aload_n X d_Text_isFigure_0 rfl 0 rfl ?_
  refine zv_iload_n X d_Text_isFigure_1 rfl 1 rfl ?_
  refine zv_cVP1 X (av := [zi v1]) (st := []) (ci := 0) (c_Text_at Γ.2.1 X.2.2.2.2.2.2.2.1 hN v1 D) mk_Text_19 rfl (za_2 hN) ⟨rfl, rfl, Nat.le_of_ble_eq_true rfl, Nat.le_of_ble_eq_true rfl⟩ rfl (Nat.le_of_ble_eq_true rfl) d_Text_isFigure_2 (fun r1 hr1 => ?_)
  refine zv_bipush X d_Text_isFigure_5 (by decide +kernel) ?_
  refine zv_icmp_lt X (tgt := 24) d_Text_isFigure_7 (by decide) (fun h7 => ?_) (fun h7 => ?_)
  · refine zv_iconst X d_Text_isFigure_24 ?_
    exact zv_zretPK X (Or.inl rfl) d_Text_isFigure_25
  · refine zv_aload_n X d_Text_isFigure_10 rfl 0 rfl ?_
    refine zv_iload_n X d_Text_isFigure_11 rfl 1 rfl ?_
    refine zv_cVP1 X (av := [zi v1]) (st := []) (ci := 0) (c_Text_at Γ.2.1 X.2.2.2.2.2.2.2.1 hN v1 D) mk_Text_19 rfl (za_2 hN) ⟨rfl, rfl, Nat.le_of_ble_eq_true rfl, Nat.le_of_ble_eq_true rfl⟩ rfl (Nat.le_of_ble_eq_true rfl) d_Text_isFigure_12 (fun r2 hr2 => ?_)
    refine zv_bipush X d_Text_isFigure_15 (by decide +kernel) ?_
    refine zv_icmp_gt X (tgt := 24) d_Text_isFigure_17 (by decide) (fun h17 => ?_) (fun h17 => ?_)
    · refine zv_iconst X d_Text_isFigure_24 ?_
      exact zv_zretPK X (Or.inl rfl) d_Text_isFigure_25
    · refine zv_iconst X d_Text_isFigure_20 ?_
      refine zv_goto X (tgt := 25) d_Text_isFigure_21 (by decide) ?_
      exact zv_zretPK X (Or.inr rfl) d_Text_isFigure_25
set_option maxRecDepth 100000 in
theorem v_Scribe_figuresAt_2 {Γ : Gt} {Z : Zt} (X : Cx Γ Z prog_7_method_5_code R_Scribe 3 (some .int) rm_Scribe_figuresAt) (hN : 143 ≤ Z.2.2.2.1) (v1 : Int)   (D : Mm)  : ∀ (n : Nat) (v2 : Int) , Zv Γ Z 3 (QfP Γ Z 1 D) (f_Scribe_figuresAt_2 v1 D n v2) D 2 [(0, zr Z 2), (1, zi v1), (2, zi v2)] [] := by
  intro n
  induction n with
  | zero =>
    intro v2
    exact zv_none
  | succ n ih =>
    intro v2
    rw [f_Scribe_figuresAt_2]
    refine zv_iload_n X d_Scribe_figuresAt_2 rfl 2 rfl ?_
    refine zv_iconst X d_Scribe_figuresAt_3 ?_
    refine zv_icmp_ge X (tgt := 23) d_Scribe_figuresAt_4 (by decide) (fun h4 => ?_) (fun h4 => ?_)
    · refine zv_iload_n X d_Scribe_figuresAt_23 rfl 2 rfl ?_
      exact zv_iretP X d_Scribe_figuresAt_24
    · refine zv_aload_n X d_Scribe_figuresAt_7 rfl 0 rfl ?_
      refine zv_iload_n X d_Scribe_figuresAt_8 rfl 1 rfl ?_
      refine zv_iload_n X d_Scribe_figuresAt_9 rfl 2 rfl ?_
      refine zv_iadd X d_Scribe_figuresAt_10 ?_
      refine zv_cVP1 X (av := [zi (v1 + v2)]) (st := []) (ci := 0) (c_Text_isFigure Γ.2.1 X.2.2.2.2.2.2.2.1 hN (v1 + v2) D) mk_Scribe_48 rfl (za_2 hN) ⟨rfl, rfl, Nat.le_of_ble_eq_true rfl, Nat.le_of_ble_eq_true rfl⟩ rfl (Nat.le_of_ble_eq_true rfl) d_Scribe_figuresAt_11 (fun r1 hr1 => ?_)
      refine zv_if_eq X (y := 0) (tgt := 23) d_Scribe_figuresAt_14 (by decide) (fun h14 => ?_) (fun h14 => ?_)
      · refine zv_iload_n X d_Scribe_figuresAt_23 rfl 2 rfl ?_
        exact zv_iretP X d_Scribe_figuresAt_24
      · refine zv_iinc X (lv2 := [(2, zi (v2 + 1)), (0, zr Z 2), (1, zi v1)]) d_Scribe_figuresAt_17 2 rfl (by decide) rfl ?_
        refine zv_goto X (tgt := 2) d_Scribe_figuresAt_20 (by decide) ?_
        refine zv_sub X [1, 2, 0] rfl ?_
        exact ih (v2 + 1)
set_option maxRecDepth 100000 in
theorem c_Scribe_figuresAt (l : Launch) {Z : Zt} (hZ : Zok Z) (hN : 143 ≤ Z.2.2.2.1) (v1 : Int)  (D : Mm) : CtP l Z y_Scribe_figuresAt prog_7_method_5_code 3 (some .int) rm_Scribe_figuresAt 1 [zr Z 2, zi v1] D (f_Scribe_figuresAt v1 D) := by
  refine zm_P (lv := [(0, zr Z 2), (1, zi v1)]) hZ (by decide +kernel) rfl (Nat.le_of_ble_eq_true rfl) rfl (fun Γ hl X => ?_)
  subst hl
  unfold f_Scribe_figuresAt
  refine zv_iconst X d_Scribe_figuresAt_0 ?_
  refine zv_istore_n X (lv2 := [(2, zi 0), (0, zr Z 2), (1, zi v1)]) d_Scribe_figuresAt_1 rfl (by decide) rfl ?_
  refine zv_sub X [1, 2, 0] rfl ?_
  exact v_Scribe_figuresAt_2 X hN v1 D zF 0
set_option maxRecDepth 100000 in
theorem v_Scribe_numberAt_5 {Γ : Gt} {Z : Zt} (X : Cx Γ Z prog_7_method_6_code R_Scribe 5 (some .int) rm_Scribe_numberAt) (hN : 143 ≤ Z.2.2.2.1) (v1 v2 : Int)   (D : Mm)  : ∀ (n : Nat) (v3 v4 : Int) , Zv Γ Z 5 (QfP Γ Z 1 D) (f_Scribe_numberAt_5 v1 v2 D n v3 v4) D 5 [(0, zr Z 2), (1, zi v1), (2, zi v2), (3, zi v3), (4, zi v4)] [] := by
  intro n
  induction n with
  | zero =>
    intro v3 v4
    exact zv_none
  | succ n ih =>
    intro v3 v4
    rw [f_Scribe_numberAt_5]
    refine zv_iload X d_Scribe_numberAt_5 4 rfl ?_
    refine zv_iload_n X d_Scribe_numberAt_7 rfl 2 rfl ?_
    refine zv_icmp_ge X (tgt := 34) d_Scribe_numberAt_8 (by decide) (fun h8 => ?_) (fun h8 => ?_)
    · refine zv_iload_n X d_Scribe_numberAt_34 rfl 3 rfl ?_
      exact zv_iretP X d_Scribe_numberAt_35
    · refine zv_iload_n X d_Scribe_numberAt_11 rfl 3 rfl ?_
      refine zv_bipush X d_Scribe_numberAt_12 (by decide +kernel) ?_
      refine zv_imul X d_Scribe_numberAt_14 ?_
      refine zv_aload_n X d_Scribe_numberAt_15 rfl 0 rfl ?_
      refine zv_iload_n X d_Scribe_numberAt_16 rfl 1 rfl ?_
      refine zv_iload X d_Scribe_numberAt_17 4 rfl ?_
      refine zv_iadd X d_Scribe_numberAt_19 ?_
      refine zv_cVP1 X (av := [zi (v1 + v4)]) (st := [zi (v3 * 10)]) (ci := 0) (c_Text_at Γ.2.1 X.2.2.2.2.2.2.2.1 hN (v1 + v4) D) mk_Scribe_30 rfl (za_2 hN) ⟨rfl, rfl, Nat.le_of_ble_eq_true rfl, Nat.le_of_ble_eq_true rfl⟩ rfl (Nat.le_of_ble_eq_true rfl) d_Scribe_numberAt_20 (fun r1 hr1 => ?_)
      refine zv_iadd X d_Scribe_numberAt_23 ?_
      refine zv_bipush X d_Scribe_numberAt_24 (by decide +kernel) ?_
      refine zv_isub X d_Scribe_numberAt_26 ?_
      refine zv_istore_n X (lv2 := [(3, zi (((v3 * 10) + r1) - 48)), (0, zr Z 2), (1, zi v1), (2, zi v2), (4, zi v4)]) d_Scribe_numberAt_27 rfl (by decide) rfl ?_
      refine zv_iinc X (lv2 := [(4, zi (v4 + 1)), (3, zi (((v3 * 10) + r1) - 48)), (0, zr Z 2), (1, zi v1), (2, zi v2)]) d_Scribe_numberAt_28 4 rfl (by decide) rfl ?_
      refine zv_goto X (tgt := 5) d_Scribe_numberAt_31 (by decide) ?_
      refine zv_sub X [2, 3, 4, 1, 0] rfl ?_
      exact ih (((v3 * 10) + r1) - 48) (v4 + 1)
set_option maxRecDepth 100000 in
theorem c_Scribe_numberAt (l : Launch) {Z : Zt} (hZ : Zok Z) (hN : 143 ≤ Z.2.2.2.1) (v1 v2 : Int)  (D : Mm) : CtP l Z y_Scribe_numberAt prog_7_method_6_code 5 (some .int) rm_Scribe_numberAt 1 [zr Z 2, zi v1, zi v2] D (f_Scribe_numberAt v1 v2 D) := by
  refine zm_P (lv := [(0, zr Z 2), (1, zi v1), (2, zi v2)]) hZ (by decide +kernel) rfl (Nat.le_of_ble_eq_true rfl) rfl (fun Γ hl X => ?_)
  subst hl
  unfold f_Scribe_numberAt
  refine zv_iconst X d_Scribe_numberAt_0 ?_
  refine zv_istore_n X (lv2 := [(3, zi 0), (0, zr Z 2), (1, zi v1), (2, zi v2)]) d_Scribe_numberAt_1 rfl (by decide) rfl ?_
  refine zv_iconst X d_Scribe_numberAt_2 ?_
  refine zv_istore X (lv2 := [(4, zi 0), (3, zi 0), (0, zr Z 2), (1, zi v1), (2, zi v2)]) d_Scribe_numberAt_3 (by decide) rfl ?_
  refine zv_sub X [2, 3, 4, 1, 0] rfl ?_
  exact v_Scribe_numberAt_5 X hN v1 v2 D zF 0 0
set_option maxRecDepth 100000 in
theorem v_Scribe_placeBehindItem_87 {Γ : Gt} {Z : Zt} (X : Cx Γ Z prog_7_method_3_code R_Scribe 7 (some .int) rm_Scribe_placeBehindItem) (hN : 143 ≤ Z.2.2.2.1) (v3 v4 v5 s0 s1 : Int)  (K15 : Int → Int → Mm → Option (Int × Mm)) (D : Mm) (hK15 : ∀ (v4 v5 : Int) (D : Mm), Zv Γ Z 7 (QfM Γ Z 1) (K15 v4 v5 D) D 23 [(0, zr Z 4), (1, zr Z 2), (3, zi v3), (4, zi v4), (5, zi v5)] []) : Zv Γ Z 7 (QfM Γ Z 1) (f_Scribe_placeBehindItem_87 v3 v4 v5 s0 s1 K15 D) D 87 [(0, zr Z 4), (1, zr Z 2), (3, zi v3), (4, zi v4), (5, zi v5)] [zi s0, zi s1] := by
  unfold f_Scribe_placeBehindItem_87
  refine zv_icmp_eq X (tgt := 92) d_Scribe_placeBehindItem_87 (by decide) (fun h87 => ?_) (fun h87 => ?_)
  · refine zv_iinc X (lv2 := [(4, zi (v4 + 1)), (0, zr Z 4), (1, zr Z 2), (3, zi v3), (5, zi v5)]) d_Scribe_placeBehindItem_92 3 rfl (by decide) rfl ?_
    refine zv_iinc X (lv2 := [(5, zi (v5 + 1)), (4, zi (v4 + 1)), (0, zr Z 4), (1, zr Z 2), (3, zi v3)]) d_Scribe_placeBehindItem_95 4 rfl (by decide) rfl ?_
    refine zv_goto X (tgt := 23) d_Scribe_placeBehindItem_98 (by decide) ?_
    refine zv_sub X [2, 3, 4, 1, 0] rfl ?_
    exact hK15 (v4 + 1) (v5 + 1) D
  · refine zv_iconst X d_Scribe_placeBehindItem_90 ?_
    exact zv_iretM X d_Scribe_placeBehindItem_91
set_option maxRecDepth 100000 in
theorem v_Scribe_placeBehindItem_23 {Γ : Gt} {Z : Zt} (X : Cx Γ Z prog_7_method_3_code R_Scribe 7 (some .int) rm_Scribe_placeBehindItem) (hN : 143 ≤ Z.2.2.2.1) (v3 : Int)    : ∀ (n : Nat) (v4 v5 : Int) (D : Mm), Zv Γ Z 7 (QfM Γ Z 1) (f_Scribe_placeBehindItem_23 v3 n v4 v5 D) D 23 [(0, zr Z 4), (1, zr Z 2), (3, zi v3), (4, zi v4), (5, zi v5)] [] := by
  intro n
  induction n with
  | zero =>
    intro v4 v5 D
    exact zv_none
  | succ n ih =>
    intro v4 v5 D
    rw [f_Scribe_placeBehindItem_23]
    refine zv_iload X d_Scribe_placeBehindItem_23 4 rfl ?_
    refine zv_iload_n X d_Scribe_placeBehindItem_25 rfl 2 rfl ?_
    refine zv_icmp_ge X (tgt := 101) d_Scribe_placeBehindItem_26 (by decide) (fun h26 => ?_) (fun h26 => ?_)
    · refine zv_iload X d_Scribe_placeBehindItem_101 3 rfl ?_
      exact zv_iretM X d_Scribe_placeBehindItem_103
    · refine zv_aload_n X d_Scribe_placeBehindItem_29 rfl 1 rfl ?_
      refine zv_iload X d_Scribe_placeBehindItem_30 3 rfl ?_
      refine zv_cSP1 X (av := [zr Z 2, zi v4]) (st := []) (c_Scribe_figuresAt Γ.2.1 X.2.2.2.2.2.2.2.1 hN v4 D) mk_Scribe_41 ⟨rfl, rfl, Nat.le_of_ble_eq_true rfl, Nat.le_of_ble_eq_true rfl⟩ rfl (Nat.le_of_ble_eq_true rfl) d_Scribe_placeBehindItem_32 (fun r1 hr1 => ?_)
      refine zv_istore X (lv2 := [(6, zi r1), (0, zr Z 4), (1, zr Z 2), (3, zi v3), (4, zi v4), (5, zi v5)]) d_Scribe_placeBehindItem_35 (by decide) rfl ?_
      refine zv_iload X d_Scribe_placeBehindItem_37 0 rfl ?_
      refine zv_if_ne X (y := 0) (tgt := 44) d_Scribe_placeBehindItem_39 (by decide) (fun h39 => ?_) (fun h39 => ?_)
      · refine zv_aload_n X d_Scribe_placeBehindItem_44 rfl 1 rfl ?_
        refine zv_get X (ci := 1) rfl i_Scribe (za_4 hN) 0 (by decide) lk_Scribe_9 rfl rfl d_Scribe_placeBehindItem_45 ?_
        refine zv_iload X d_Scribe_placeBehindItem_48 5 rfl ?_
        refine zv_aload_n X d_Scribe_placeBehindItem_50 rfl 2 rfl ?_
        refine zv_iload X d_Scribe_placeBehindItem_51 4 rfl ?_
        refine zv_iload X d_Scribe_placeBehindItem_53 0 rfl ?_
        refine zv_cSP1 X (av := [zr Z 2, zi v4, zi r1]) (st := [zi v5, zr Z 5]) (c_Scribe_numberAt Γ.2.1 X.2.2.2.2.2.2.2.1 hN v4 r1 D) mk_Scribe_44 ⟨rfl, rfl, Nat.le_of_ble_eq_true rfl, Nat.le_of_ble_eq_true rfl⟩ rfl (Nat.le_of_ble_eq_true rfl) d_Scribe_placeBehindItem_55 (fun r2 hr2 => ?_)
        refine zv_iastC X (za_5 hN) d_Scribe_placeBehindItem_58 (fun ha58 hb58 D3 => ?_)
        refine zv_iload X d_Scribe_placeBehindItem_59 4 rfl ?_
        refine zv_iload X d_Scribe_placeBehindItem_61 0 rfl ?_
        refine zv_iadd X d_Scribe_placeBehindItem_63 ?_
        refine zv_istore X (lv2 := [(4, zi (v4 + r1)), (6, zi r1), (0, zr Z 4), (1, zr Z 2), (3, zi v3), (5, zi v5)]) d_Scribe_placeBehindItem_64 (by decide) rfl ?_
        refine zv_aload_n X d_Scribe_placeBehindItem_66 rfl 3 rfl ?_
        refine zv_iload X d_Scribe_placeBehindItem_67 0 rfl ?_
        refine zv_cVP1 X (av := [zi (v4 + r1)]) (st := []) (ci := 0) (c_Text_at Γ.2.1 X.2.2.2.2.2.2.2.1 hN (v4 + r1) D3) mk_Scribe_30 rfl (za_2 hN) ⟨rfl, rfl, Nat.le_of_ble_eq_true rfl, Nat.le_of_ble_eq_true rfl⟩ rfl (Nat.le_of_ble_eq_true rfl) d_Scribe_placeBehindItem_69 (fun r4 hr4 => ?_)
        refine zv_iload X d_Scribe_placeBehindItem_72 5 rfl ?_
        refine zv_iload_n X d_Scribe_placeBehindItem_74 rfl 4 rfl ?_
        refine zv_iconst X d_Scribe_placeBehindItem_75 ?_
        refine zv_isub X d_Scribe_placeBehindItem_76 ?_
        refine zv_icmp_ne X (tgt := 85) d_Scribe_placeBehindItem_77 (by decide) (fun h77 => ?_) (fun h77 => ?_)
        · refine zv_bipush X d_Scribe_placeBehindItem_85 (by decide +kernel) ?_
          refine zv_sub X [2, 3, 4, 0, 5] rfl ?_
          exact v_Scribe_placeBehindItem_87 X hN v3 (v4 + r1) v5 44 r4 (f_Scribe_placeBehindItem_23 v3 n) D3 ih
        · refine zv_bipush X d_Scribe_placeBehindItem_80 (by decide +kernel) ?_
          refine zv_goto X (tgt := 87) d_Scribe_placeBehindItem_82 (by decide) ?_
          refine zv_sub X [2, 3, 4, 0, 5] rfl ?_
          exact v_Scribe_placeBehindItem_87 X hN v3 (v4 + r1) v5 59 r4 (f_Scribe_placeBehindItem_23 v3 n) D3 ih
      · refine zv_iconst X d_Scribe_placeBehindItem_42 ?_
        exact zv_iretM X d_Scribe_placeBehindItem_43
set_option maxRecDepth 100000 in
theorem c_Scribe_placeBehindItem (l : Launch) {Z : Zt} (hZ : Zok Z) (hN : 143 ≤ Z.2.2.2.1) (v2 : Int)  (D : Mm) : CtM l Z y_Scribe_placeBehindItem prog_7_method_3_code 7 (some .int) rm_Scribe_placeBehindItem 1 [zr Z 4, zr Z 2, zi v2] D (f_Scribe_placeBehindItem v2 D) := by
  refine zm_M (lv := [(0, zr Z 4), (1, zr Z 2), (2, zi v2)]) hZ (by decide +kernel) rfl (Nat.le_of_ble_eq_true rfl) rfl (fun Γ hl X => ?_)
  subst hl
  unfold f_Scribe_placeBehindItem
  refine zv_aload_n X d_Scribe_placeBehindItem_0 rfl 1 rfl ?_
  refine zv_iload_n X d_Scribe_placeBehindItem_1 rfl 2 rfl ?_
  refine zv_cVP1 X (av := [zi v2]) (st := []) (ci := 0) (c_Text_at Γ.2.1 X.2.2.2.2.2.2.2.1 hN v2 D) mk_Scribe_30 rfl (za_2 hN) ⟨rfl, rfl, Nat.le_of_ble_eq_true rfl, Nat.le_of_ble_eq_true rfl⟩ rfl (Nat.le_of_ble_eq_true rfl) d_Scribe_placeBehindItem_2 (fun r1 hr1 => ?_)
  refine zv_cSP1 X (av := [zi r1]) (st := []) (c_Scribe_numbersOf Γ.2.1 X.2.2.2.2.2.2.2.1 hN r1 D) mk_Scribe_38 ⟨rfl, rfl, Nat.le_of_ble_eq_true rfl, Nat.le_of_ble_eq_true rfl⟩ rfl (Nat.le_of_ble_eq_true rfl) d_Scribe_placeBehindItem_5 (fun r2 hr2 => ?_)
  refine zv_istore_n X (lv2 := [(3, zi r2), (0, zr Z 4), (1, zr Z 2), (2, zi v2)]) d_Scribe_placeBehindItem_8 rfl (by decide) rfl ?_
  refine zv_iload_n X d_Scribe_placeBehindItem_9 rfl 0 rfl ?_
  refine zv_if_ne X (y := 0) (tgt := 15) d_Scribe_placeBehindItem_10 (by decide) (fun h10 => ?_) (fun h10 => ?_)
  · refine zv_iload_n X d_Scribe_placeBehindItem_15 rfl 3 rfl ?_
    refine zv_iconst X d_Scribe_placeBehindItem_16 ?_
    refine zv_iadd X d_Scribe_placeBehindItem_17 ?_
    refine zv_istore X (lv2 := [(4, zi (v2 + 1)), (3, zi r2), (0, zr Z 4), (1, zr Z 2), (2, zi v2)]) d_Scribe_placeBehindItem_18 (by decide) rfl ?_
    refine zv_iconst X d_Scribe_placeBehindItem_20 ?_
    refine zv_istore X (lv2 := [(5, zi 0), (4, zi (v2 + 1)), (3, zi r2), (0, zr Z 4), (1, zr Z 2), (2, zi v2)]) d_Scribe_placeBehindItem_21 (by decide) rfl ?_
    refine zv_sub X [3, 4, 2, 1, 0] rfl ?_
    exact v_Scribe_placeBehindItem_23 X hN r2 zF (v2 + 1) 0 D
  · refine zv_iconst X d_Scribe_placeBehindItem_13 ?_
    exact zv_iretM X d_Scribe_placeBehindItem_14
set_option maxRecDepth 100000 in
theorem c_Quern_takeSort (l : Launch) {Z : Zt} (hZ : Zok Z) (hN : 143 ≤ Z.2.2.2.1) (v0 v1 : Int) (hv0 : isQ v0) (hv1 : Zin Z v1 0 4) (D : Mm) : CtM l Z y_Quern_takeSort prog_6_method_7_code 2 (some .boolean) rm_Quern_takeSort 1 [zr Z v0, zr Z v1] D (f_Quern_takeSort v0 v1 D) := by
  refine zm_M (lv := [(0, zr Z v0), (1, zr Z v1)]) hZ (by decide +kernel) rfl (Nat.le_of_ble_eq_true rfl) rfl (fun Γ hl X => ?_)
  subst hl
  unfold f_Quern_takeSort
  refine zv_aload_n X d_Quern_takeSort_0 rfl 0 rfl ?_
  refine zv_get X (ci := 5) rfl i_Quern (zq_0 hN hv0) 0 (by decide) lk_Quern_44 rfl rfl d_Quern_takeSort_1 ?_
  refine zv_bipush X d_Quern_takeSort_4 (by decide +kernel) ?_
  refine zv_icmp_ge X (tgt := 29) d_Quern_takeSort_6 (by decide) (fun h6 => ?_) (fun h6 => ?_)
  · refine zv_iconst X d_Quern_takeSort_29 ?_
    exact zv_zretMK X (Or.inl rfl) d_Quern_takeSort_30
  · refine zv_aload_n X d_Quern_takeSort_9 rfl 1 rfl ?_
    refine zv_iconst X d_Quern_takeSort_10 ?_
    refine zv_ialdK X hv1 (by decide) (by decide) d_Quern_takeSort_11 ?_
    refine zv_aload_n X d_Quern_takeSort_12 rfl 1 rfl ?_
    refine zv_iconst X d_Quern_takeSort_13 ?_
    refine zv_ialdK X hv1 (by decide) (by decide) d_Quern_takeSort_14 ?_
    refine zv_iadd X d_Quern_takeSort_15 ?_
    refine zv_aload_n X d_Quern_takeSort_16 rfl 1 rfl ?_
    refine zv_iconst X d_Quern_takeSort_17 ?_
    refine zv_ialdK X hv1 (by decide) (by decide) d_Quern_takeSort_18 ?_
    refine zv_iadd X d_Quern_takeSort_19 ?_
    refine zv_aload_n X d_Quern_takeSort_20 rfl 1 rfl ?_
    refine zv_iconst X d_Quern_takeSort_21 ?_
    refine zv_ialdK X hv1 (by decide) (by decide) d_Quern_takeSort_22 ?_
    refine zv_iadd X d_Quern_takeSort_23 ?_
    refine zv_bipush X d_Quern_takeSort_24 (by decide +kernel) ?_
    refine zv_icmp_eq X (tgt := 31) d_Quern_takeSort_26 (by decide) (fun h26 => ?_) (fun h26 => ?_)
    · refine zv_aload_n X d_Quern_takeSort_31 rfl 1 rfl ?_
      refine zv_iconst X d_Quern_takeSort_32 ?_
      refine zv_aload_n X d_Quern_takeSort_33 rfl 0 rfl ?_
      refine zv_get X (ci := 5) rfl i_Quern (zq_0 hN hv0) 2 (by decide) lk_Quern_11 rfl rfl d_Quern_takeSort_34 ?_
      refine zv_aload_n X d_Quern_takeSort_37 rfl 0 rfl ?_
      refine zv_get X (ci := 5) rfl i_Quern (zq_0 hN hv0) 0 (by decide) lk_Quern_44 rfl rfl d_Quern_takeSort_38 ?_
      refine zv_aald X (v0 + 2 + (D v0 0)) (zq_1 hN hv0) d_Quern_takeSort_41 (by omega) (fun ha41 hb41 => ?_)
      refine zv_iconst X d_Quern_takeSort_42 ?_
      refine zv_iconst X d_Quern_takeSort_43 ?_
      refine zv_copyK X hv1 (zq_1r hN hv0 ha41 hb41) ac_Quern_84 (by decide) (by decide) (by decide) (by decide) (by decide) ⟨Nat.le_of_ble_eq_true rfl, Nat.le_of_ble_eq_true rfl⟩ d_Quern_takeSort_44 (fun D1 => ?_)
      refine zv_aload_n X d_Quern_takeSort_47 rfl 0 rfl ?_
      refine zv_dup X d_Quern_takeSort_48 rfl ?_
      refine zv_get X (ci := 5) rfl i_Quern (zq_0 hN hv0) 0 (by decide) lk_Quern_44 rfl rfl d_Quern_takeSort_49 ?_
      refine zv_iconst X d_Quern_takeSort_52 ?_
      refine zv_iadd X d_Quern_takeSort_53 ?_
      refine zv_putC X (ci := 5) rfl i_Quern t_Quern t_Quern_ok n_Quern (zq_0 hN hv0) 0 rfl (by decide) lk_Quern_44 rfl rfl (ps_5_0 ..) (Nat.le_of_ble_eq_true rfl) rfl rfl d_Quern_takeSort_54 (fun D2 => ?_)
      refine zv_iconst X d_Quern_takeSort_57 ?_
      exact zv_zretMK X (Or.inr rfl) d_Quern_takeSort_58
    · refine zv_iconst X d_Quern_takeSort_29 ?_
      exact zv_zretMK X (Or.inl rfl) d_Quern_takeSort_30
set_option maxRecDepth 100000 in
theorem c_Quern_takePatch (l : Launch) {Z : Zt} (hZ : Zok Z) (hN : 143 ≤ Z.2.2.2.1) (v0 v1 : Int) (hv0 : isQ v0) (hv1 : Zin Z v1 0 4) (D : Mm) : CtM l Z y_Quern_takePatch prog_6_method_8_code 2 (some .boolean) rm_Quern_takePatch 1 [zr Z v0, zr Z v1] D (f_Quern_takePatch v0 v1 D) := by
  refine zm_M (lv := [(0, zr Z v0), (1, zr Z v1)]) hZ (by decide +kernel) rfl (Nat.le_of_ble_eq_true rfl) rfl (fun Γ hl X => ?_)
  subst hl
  unfold f_Quern_takePatch
  refine zv_aload_n X d_Quern_takePatch_0 rfl 0 rfl ?_
  refine zv_get X (ci := 5) rfl i_Quern (zq_0 hN hv0) 1 (by decide) lk_Quern_48 rfl rfl d_Quern_takePatch_1 ?_
  refine zv_bipush X d_Quern_takePatch_4 (by decide +kernel) ?_
  refine zv_icmp_ge X (tgt := 32) d_Quern_takePatch_6 (by decide) (fun h6 => ?_) (fun h6 => ?_)
  · refine zv_iconst X d_Quern_takePatch_32 ?_
    exact zv_zretMK X (Or.inl rfl) d_Quern_takePatch_33
  · refine zv_aload_n X d_Quern_takePatch_9 rfl 1 rfl ?_
    refine zv_iconst X d_Quern_takePatch_10 ?_
    refine zv_ialdK X hv1 (by decide) (by decide) d_Quern_takePatch_11 ?_
    refine zv_iconst X d_Quern_takePatch_12 ?_
    refine zv_bipush X d_Quern_takePatch_13 (by decide +kernel) ?_
    refine zv_cNP1 X (av := [zi (D v1 0), zi 0, zi 7]) (st := []) (c_Main_within Γ.2.1 X.2.2.2.2.2.2.2.1 hN (D v1 0) 0 7 D) mk_Quern_90 ⟨rfl, rfl, Nat.le_of_ble_eq_true rfl, Nat.le_of_ble_eq_true rfl⟩ rfl (Nat.le_of_ble_eq_true rfl) d_Quern_takePatch_15 (fun r1 hr1 => ?_)
    refine zv_if_eq X (y := 0) (tgt := 32) d_Quern_takePatch_18 (by decide) (fun h18 => ?_) (fun h18 => ?_)
    · refine zv_iconst X d_Quern_takePatch_32 ?_
      exact zv_zretMK X (Or.inl rfl) d_Quern_takePatch_33
    · refine zv_aload_n X d_Quern_takePatch_21 rfl 1 rfl ?_
      refine zv_iconst X d_Quern_takePatch_22 ?_
      refine zv_ialdK X hv1 (by decide) (by decide) d_Quern_takePatch_23 ?_
      refine zv_iconst X d_Quern_takePatch_24 ?_
      refine zv_iconst X d_Quern_takePatch_25 ?_
      refine zv_cNP1 X (av := [zi (D v1 1), zi 0, zi 3]) (st := []) (c_Main_within Γ.2.1 X.2.2.2.2.2.2.2.1 hN (D v1 1) 0 3 D) mk_Quern_90 ⟨rfl, rfl, Nat.le_of_ble_eq_true rfl, Nat.le_of_ble_eq_true rfl⟩ rfl (Nat.le_of_ble_eq_true rfl) d_Quern_takePatch_26 (fun r2 hr2 => ?_)
      refine zv_if_ne X (y := 0) (tgt := 34) d_Quern_takePatch_29 (by decide) (fun h29 => ?_) (fun h29 => ?_)
      · refine zv_aload_n X d_Quern_takePatch_34 rfl 1 rfl ?_
        refine zv_iconst X d_Quern_takePatch_35 ?_
        refine zv_ialdK X hv1 (by decide) (by decide) d_Quern_takePatch_36 ?_
        refine zv_iconst X d_Quern_takePatch_37 ?_
        refine zv_bipush X d_Quern_takePatch_38 (by decide +kernel) ?_
        refine zv_cNP1 X (av := [zi (D v1 2), zi 1, zi 9]) (st := []) (c_Main_within Γ.2.1 X.2.2.2.2.2.2.2.1 hN (D v1 2) 1 9 D) mk_Quern_90 ⟨rfl, rfl, Nat.le_of_ble_eq_true rfl, Nat.le_of_ble_eq_true rfl⟩ rfl (Nat.le_of_ble_eq_true rfl) d_Quern_takePatch_40 (fun r3 hr3 => ?_)
        refine zv_if_eq X (y := 0) (tgt := 58) d_Quern_takePatch_43 (by decide) (fun h43 => ?_) (fun h43 => ?_)
        · refine zv_iconst X d_Quern_takePatch_58 ?_
          exact zv_zretMK X (Or.inl rfl) d_Quern_takePatch_59
        · refine zv_aload_n X d_Quern_takePatch_46 rfl 1 rfl ?_
          refine zv_iconst X d_Quern_takePatch_47 ?_
          refine zv_ialdK X hv1 (by decide) (by decide) d_Quern_takePatch_48 ?_
          refine zv_iconst X d_Quern_takePatch_49 ?_
          refine zv_bipush X d_Quern_takePatch_50 (by decide +kernel) ?_
          refine zv_cNP1 X (av := [zi (D v1 3), zi 0, zi 15]) (st := []) (c_Main_within Γ.2.1 X.2.2.2.2.2.2.2.1 hN (D v1 3) 0 15 D) mk_Quern_90 ⟨rfl, rfl, Nat.le_of_ble_eq_true rfl, Nat.le_of_ble_eq_true rfl⟩ rfl (Nat.le_of_ble_eq_true rfl) d_Quern_takePatch_52 (fun r4 hr4 => ?_)
          refine zv_if_ne X (y := 0) (tgt := 60) d_Quern_takePatch_55 (by decide) (fun h55 => ?_) (fun h55 => ?_)
          · refine zv_aload_n X d_Quern_takePatch_60 rfl 0 rfl ?_
            refine zv_get X (ci := 5) rfl i_Quern (zq_0 hN hv0) 3 (by decide) lk_Quern_16 rfl rfl d_Quern_takePatch_61 ?_
            refine zv_aload_n X d_Quern_takePatch_64 rfl 0 rfl ?_
            refine zv_get X (ci := 5) rfl i_Quern (zq_0 hN hv0) 1 (by decide) lk_Quern_48 rfl rfl d_Quern_takePatch_65 ?_
            refine zv_aload_n X d_Quern_takePatch_68 rfl 1 rfl ?_
            refine zv_iconst X d_Quern_takePatch_69 ?_
            refine zv_ialdK X hv1 (by decide) (by decide) d_Quern_takePatch_70 ?_
            refine zv_iastC X (zq_8 hN hv0) d_Quern_takePatch_71 (fun ha71 hb71 D5 => ?_)
            refine zv_aload_n X d_Quern_takePatch_72 rfl 0 rfl ?_
            refine zv_get X (ci := 5) rfl i_Quern (zq_0 hN hv0) 4 (by decide) lk_Quern_20 rfl rfl d_Quern_takePatch_73 ?_
            refine zv_aload_n X d_Quern_takePatch_76 rfl 0 rfl ?_
            refine zv_get X (ci := 5) rfl i_Quern (zq_0 hN hv0) 1 (by decide) lk_Quern_48 rfl rfl d_Quern_takePatch_77 ?_
            refine zv_aload_n X d_Quern_takePatch_80 rfl 1 rfl ?_
            refine zv_iconst X d_Quern_takePatch_81 ?_
            refine zv_ialdK X hv1 (by decide) (by decide) d_Quern_takePatch_82 ?_
            refine zv_iastC X (zq_9 hN hv0) d_Quern_takePatch_83 (fun ha83 hb83 D6 => ?_)
            refine zv_aload_n X d_Quern_takePatch_84 rfl 0 rfl ?_
            refine zv_get X (ci := 5) rfl i_Quern (zq_0 hN hv0) 5 (by decide) lk_Quern_23 rfl rfl d_Quern_takePatch_85 ?_
            refine zv_aload_n X d_Quern_takePatch_88 rfl 0 rfl ?_
            refine zv_get X (ci := 5) rfl i_Quern (zq_0 hN hv0) 1 (by decide) lk_Quern_48 rfl rfl d_Quern_takePatch_89 ?_
            refine zv_aload_n X d_Quern_takePatch_92 rfl 1 rfl ?_
            refine zv_iconst X d_Quern_takePatch_93 ?_
            refine zv_ialdK X hv1 (by decide) (by decide) d_Quern_takePatch_94 ?_
            refine zv_iastC X (zq_10 hN hv0) d_Quern_takePatch_95 (fun ha95 hb95 D7 => ?_)
            refine zv_aload_n X d_Quern_takePatch_96 rfl 0 rfl ?_
            refine zv_get X (ci := 5) rfl i_Quern (zq_0 hN hv0) 6 (by decide) lk_Quern_26 rfl rfl d_Quern_takePatch_97 ?_
            refine zv_aload_n X d_Quern_takePatch_100 rfl 0 rfl ?_
            refine zv_get X (ci := 5) rfl i_Quern (zq_0 hN hv0) 1 (by decide) lk_Quern_48 rfl rfl d_Quern_takePatch_101 ?_
            refine zv_aload_n X d_Quern_takePatch_104 rfl 1 rfl ?_
            refine zv_iconst X d_Quern_takePatch_105 ?_
            refine zv_ialdK X hv1 (by decide) (by decide) d_Quern_takePatch_106 ?_
            refine zv_iastC X (zq_11 hN hv0) d_Quern_takePatch_107 (fun ha107 hb107 D8 => ?_)
            refine zv_aload_n X d_Quern_takePatch_108 rfl 0 rfl ?_
            refine zv_dup X d_Quern_takePatch_109 rfl ?_
            refine zv_get X (ci := 5) rfl i_Quern (zq_0 hN hv0) 1 (by decide) lk_Quern_48 rfl rfl d_Quern_takePatch_110 ?_
            refine zv_iconst X d_Quern_takePatch_113 ?_
            refine zv_iadd X d_Quern_takePatch_114 ?_
            refine zv_putC X (ci := 5) rfl i_Quern t_Quern t_Quern_ok n_Quern (zq_0 hN hv0) 1 rfl (by decide) lk_Quern_48 rfl rfl (ps_5_1 ..) (Nat.le_of_ble_eq_true rfl) rfl rfl d_Quern_takePatch_115 (fun D9 => ?_)
            refine zv_iconst X d_Quern_takePatch_118 ?_
            exact zv_zretMK X (Or.inr rfl) d_Quern_takePatch_119
          · refine zv_iconst X d_Quern_takePatch_58 ?_
            exact zv_zretMK X (Or.inl rfl) d_Quern_takePatch_59
      · refine zv_iconst X d_Quern_takePatch_32 ?_
        exact zv_zretMK X (Or.inl rfl) d_Quern_takePatch_33
set_option maxRecDepth 100000 in
theorem c_Quern_hasPatch (l : Launch) {Z : Zt} (hZ : Zok Z) (hN : 143 ≤ Z.2.2.2.1) (v0 v1 : Int) (hv0 : isQ v0) (D : Mm) : CtP l Z y_Quern_hasPatch prog_6_method_5_code 2 (some .boolean) rm_Quern_hasPatch 1 [zr Z v0, zi v1] D (f_Quern_hasPatch v0 v1 D) := by
  refine zm_P (lv := [(0, zr Z v0), (1, zi v1)]) hZ (by decide +kernel) rfl (Nat.le_of_ble_eq_true rfl) rfl (fun Γ hl X => ?_)
  subst hl
  unfold f_Quern_hasPatch
  refine zv_iload_n X d_Quern_hasPatch_0 rfl 1 rfl ?_
  refine zv_if_lt X (y := 0) (tgt := 16) d_Quern_hasPatch_1 (by decide) (fun h1 => ?_) (fun h1 => ?_)
  · refine zv_iconst X d_Quern_hasPatch_16 ?_
    exact zv_zretPK X (Or.inl rfl) d_Quern_hasPatch_17
  · refine zv_iload_n X d_Quern_hasPatch_4 rfl 1 rfl ?_
    refine zv_aload_n X d_Quern_hasPatch_5 rfl 0 rfl ?_
    refine zv_get X (ci := 5) rfl i_Quern (zq_0 hN hv0) 1 (by decide) lk_Quern_48 rfl rfl d_Quern_hasPatch_6 ?_
    refine zv_icmp_ge X (tgt := 16) d_Quern_hasPatch_9 (by decide) (fun h9 => ?_) (fun h9 => ?_)
    · refine zv_iconst X d_Quern_hasPatch_16 ?_
      exact zv_zretPK X (Or.inl rfl) d_Quern_hasPatch_17
    · refine zv_iconst X d_Quern_hasPatch_12 ?_
      refine zv_goto X (tgt := 17) d_Quern_hasPatch_13 (by decide) ?_
      exact zv_zretPK X (Or.inr rfl) d_Quern_hasPatch_17
set_option maxRecDepth 100000 in
theorem c_Quern_hasSort (l : Launch) {Z : Zt} (hZ : Zok Z) (hN : 143 ≤ Z.2.2.2.1) (v0 v1 : Int) (hv0 : isQ v0) (D : Mm) : CtP l Z y_Quern_hasSort prog_6_method_4_code 2 (some .boolean) rm_Quern_hasSort 1 [zr Z v0, zi v1] D (f_Quern_hasSort v0 v1 D) := by
  refine zm_P (lv := [(0, zr Z v0), (1, zi v1)]) hZ (by decide +kernel) rfl (Nat.le_of_ble_eq_true rfl) rfl (fun Γ hl X => ?_)
  subst hl
  unfold f_Quern_hasSort
  refine zv_iload_n X d_Quern_hasSort_0 rfl 1 rfl ?_
  refine zv_if_lt X (y := 0) (tgt := 16) d_Quern_hasSort_1 (by decide) (fun h1 => ?_) (fun h1 => ?_)
  · refine zv_iconst X d_Quern_hasSort_16 ?_
    exact zv_zretPK X (Or.inl rfl) d_Quern_hasSort_17
  · refine zv_iload_n X d_Quern_hasSort_4 rfl 1 rfl ?_
    refine zv_aload_n X d_Quern_hasSort_5 rfl 0 rfl ?_
    refine zv_get X (ci := 5) rfl i_Quern (zq_0 hN hv0) 0 (by decide) lk_Quern_44 rfl rfl d_Quern_hasSort_6 ?_
    refine zv_icmp_ge X (tgt := 16) d_Quern_hasSort_9 (by decide) (fun h9 => ?_) (fun h9 => ?_)
    · refine zv_iconst X d_Quern_hasSort_16 ?_
      exact zv_zretPK X (Or.inl rfl) d_Quern_hasSort_17
    · refine zv_iconst X d_Quern_hasSort_12 ?_
      refine zv_goto X (tgt := 17) d_Quern_hasSort_13 (by decide) ?_
      exact zv_zretPK X (Or.inr rfl) d_Quern_hasSort_17
set_option maxRecDepth 100000 in
theorem c_Quern_takeUse (l : Launch) {Z : Zt} (hZ : Zok Z) (hN : 143 ≤ Z.2.2.2.1) (v0 v1 v2 v3 : Int) (hv0 : isQ v0) (D : Mm) : CtM l Z y_Quern_takeUse prog_6_method_9_code 4 (some .boolean) rm_Quern_takeUse 1 [zr Z v0, zi v1, zi v2, zi v3] D (f_Quern_takeUse v0 v1 v2 v3 D) := by
  refine zm_M (lv := [(0, zr Z v0), (1, zi v1), (2, zi v2), (3, zi v3)]) hZ (by decide +kernel) rfl (Nat.le_of_ble_eq_true rfl) rfl (fun Γ hl X => ?_)
  subst hl
  unfold f_Quern_takeUse
  refine zv_aload_n X d_Quern_takeUse_0 rfl 0 rfl ?_
  refine zv_iload_n X d_Quern_takeUse_1 rfl 1 rfl ?_
  refine zv_cVP1 X (av := [zi v1]) (st := []) (ci := 5) (c_Quern_hasPatch Γ.2.1 X.2.2.2.2.2.2.2.1 hN v0 v1 hv0 D) mk_Quern_93 rfl (zq_0 hN hv0) ⟨rfl, rfl, Nat.le_of_ble_eq_true rfl, Nat.le_of_ble_eq_true rfl⟩ rfl (Nat.le_of_ble_eq_true rfl) d_Quern_takeUse_2 (fun r1 hr1 => ?_)
  refine zv_if_eq X (y := 0) (tgt := 26) d_Quern_takeUse_5 (by decide) (fun h5 => ?_) (fun h5 => ?_)
  · refine zv_iconst X d_Quern_takeUse_26 ?_
    exact zv_zretMK X (Or.inl rfl) d_Quern_takeUse_27
  · refine zv_aload_n X d_Quern_takeUse_8 rfl 0 rfl ?_
    refine zv_iload_n X d_Quern_takeUse_9 rfl 2 rfl ?_
    refine zv_cVP1 X (av := [zi v2]) (st := []) (ci := 5) (c_Quern_hasSort Γ.2.1 X.2.2.2.2.2.2.2.1 hN v0 v2 hv0 D) mk_Quern_97 rfl (zq_0 hN hv0) ⟨rfl, rfl, Nat.le_of_ble_eq_true rfl, Nat.le_of_ble_eq_true rfl⟩ rfl (Nat.le_of_ble_eq_true rfl) d_Quern_takeUse_10 (fun r2 hr2 => ?_)
    refine zv_if_eq X (y := 0) (tgt := 26) d_Quern_takeUse_13 (by decide) (fun h13 => ?_) (fun h13 => ?_)
    · refine zv_iconst X d_Quern_takeUse_26 ?_
      exact zv_zretMK X (Or.inl rfl) d_Quern_takeUse_27
    · refine zv_iload_n X d_Quern_takeUse_16 rfl 3 rfl ?_
      refine zv_iconst X d_Quern_takeUse_17 ?_
      refine zv_bipush X d_Quern_takeUse_18 (by decide +kernel) ?_
      refine zv_cNP1 X (av := [zi v3, zi 0, zi 60]) (st := []) (c_Main_within Γ.2.1 X.2.2.2.2.2.2.2.1 hN v3 0 60 D) mk_Quern_90 ⟨rfl, rfl, Nat.le_of_ble_eq_true rfl, Nat.le_of_ble_eq_true rfl⟩ rfl (Nat.le_of_ble_eq_true rfl) d_Quern_takeUse_20 (fun r3 hr3 => ?_)
      refine zv_if_ne X (y := 0) (tgt := 28) d_Quern_takeUse_23 (by decide) (fun h23 => ?_) (fun h23 => ?_)
      · refine zv_aload_n X d_Quern_takeUse_28 rfl 0 rfl ?_
        refine zv_get X (ci := 5) rfl i_Quern (zq_0 hN hv0) 7 (by decide) lk_Quern_29 rfl rfl d_Quern_takeUse_29 ?_
        refine zv_iload_n X d_Quern_takeUse_32 rfl 1 rfl ?_
        refine zv_aald X (v0 + 13 + v1) (zq_12 hN hv0) d_Quern_takeUse_33 (by omega) (fun ha33 hb33 => ?_)
        refine zv_iload_n X d_Quern_takeUse_34 rfl 2 rfl ?_
        refine zv_iload_n X d_Quern_takeUse_35 rfl 3 rfl ?_
        refine zv_iastC X (zq_12r hN hv0 ha33 hb33) d_Quern_takeUse_36 (fun ha36 hb36 D4 => ?_)
        refine zv_iconst X d_Quern_takeUse_37 ?_
        exact zv_zretMK X (Or.inr rfl) d_Quern_takeUse_38
      · refine zv_iconst X d_Quern_takeUse_26 ?_
        exact zv_zretMK X (Or.inl rfl) d_Quern_takeUse_27

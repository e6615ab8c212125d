set_option maxRecDepth 100000 in
theorem v_Model_says_31 {Γ : Gt} {Z : Zt} (X : Cx Γ Z prog_10_method_30_code R_Model 5 (some .int) rm_Model_says) (hN : 166 ≤ Z.2.2.2.1) (v1 v2 v3 : Int)   (D : Mm)  : ∀ (n : Nat) (v4 : Int) , Zv Γ Z 5 (QfP Γ Z 1 D) (f_Model_says_31 v1 v2 v3 D n v4) D 31 [(1, zi v1), (2, zi v2), (3, zi v3), (4, zi v4)] [] := by
  intro n
  induction n with
  | zero =>
    intro v4
    exact zv_none
  | succ n ih =>
    intro v4
    rw [f_Model_says_31]
    refine zv_iload X d_Model_says_31 3 rfl ?_
    refine zv_bipush X d_Model_says_33 (by decide +kernel) ?_
    refine zv_icmp_gt X (tgt := 58) d_Model_says_35 (by decide) (fun h35 => ?_) (fun h35 => ?_)
    · refine zv_bipush X d_Model_says_58 (by decide +kernel) ?_
      exact zv_iretP X d_Model_says_60
    · refine zv_iload X d_Model_says_38 3 rfl ?_
      refine zv_iload_n X d_Model_says_40 rfl 0 rfl ?_
      refine zv_iload_n X d_Model_says_41 rfl 1 rfl ?_
      refine zv_iload_n X d_Model_says_42 rfl 2 rfl ?_
      refine zv_cSP1 X (av := [zi v4, zi v1, zi v2, zi v3]) (st := []) (c_Model_isRare Γ.2.1 X.2.2.2.2.2.2.2.1 hN v4 v1 v2 v3 D) mk_Model_186 ⟨rfl, rfl, Nat.le_of_ble_eq_true rfl, Nat.le_of_ble_eq_true rfl⟩ rfl (Nat.le_of_ble_eq_true rfl) d_Model_says_43 (fun r1 hr1 => ?_)
      refine zv_if_eq X (y := 0) (tgt := 52) d_Model_says_46 (by decide) (fun h46 => ?_) (fun h46 => ?_)
      · refine zv_iinc X (lv2 := [(4, zi (v4 + 1)), (1, zi v1), (2, zi v2), (3, zi v3)]) d_Model_says_52 3 rfl (by decide) rfl ?_
        refine zv_goto X (tgt := 31) d_Model_says_55 (by decide) ?_
        refine zv_sub X [1, 2, 3, 0] rfl ?_
        exact ih (v4 + 1)
      · refine zv_iload X d_Model_says_49 3 rfl ?_
        exact zv_iretP X d_Model_says_51
set_option maxRecDepth 100000 in
theorem c_Model_says (l : Launch) {Z : Zt} (hZ : Zok Z) (hN : 166 ≤ Z.2.2.2.1) (v1 v2 v3 : Int)  (D : Mm) : CtP l Z y_Model_says prog_10_method_30_code 5 (some .int) rm_Model_says 1 [zr Z 144, zi v1, zi v2, zi v3] D (f_Model_says v1 v2 v3 D) := by
  refine zm_P (lv := [(0, zr Z 144), (1, zi v1), (2, zi v2), (3, zi v3)]) hZ (by decide +kernel) rfl (Nat.le_of_ble_eq_true rfl) rfl (fun Γ hl X => ?_)
  subst hl
  unfold f_Model_says
  refine zv_iload_n X d_Model_says_0 rfl 1 rfl ?_
  refine zv_cSP1 X (av := [zi v1]) (st := []) (c_Model_isArea Γ.2.1 X.2.2.2.2.2.2.2.1 hN v1 D) mk_Model_173 ⟨rfl, rfl, Nat.le_of_ble_eq_true rfl, Nat.le_of_ble_eq_true rfl⟩ rfl (Nat.le_of_ble_eq_true rfl) d_Model_says_1 (fun r1 hr1 => ?_)
  refine zv_if_eq X (y := 0) (tgt := 26) d_Model_says_4 (by decide) (fun h4 => ?_) (fun h4 => ?_)
  · refine zv_iconst X d_Model_says_26 ?_
    exact zv_iretP X d_Model_says_27
  · refine zv_iload_n X d_Model_says_7 rfl 2 rfl ?_
    refine zv_cSP1 X (av := [zi v2]) (st := []) (c_Model_isArea Γ.2.1 X.2.2.2.2.2.2.2.1 hN v2 D) mk_Model_173 ⟨rfl, rfl, Nat.le_of_ble_eq_true rfl, Nat.le_of_ble_eq_true rfl⟩ rfl (Nat.le_of_ble_eq_true rfl) d_Model_says_8 (fun r2 hr2 => ?_)
    refine zv_if_eq X (y := 0) (tgt := 26) d_Model_says_11 (by decide) (fun h11 => ?_) (fun h11 => ?_)
    · refine zv_iconst X d_Model_says_26 ?_
      exact zv_iretP X d_Model_says_27
    · refine zv_iload_n X d_Model_says_14 rfl 3 rfl ?_
      refine zv_i2l X d_Model_says_15 ?_
      refine zv_lconst X (x := 1) d_Model_says_16 (by decide +kernel) ?_
      refine zv_ldc2 X 1000 kc_Model_184 (by decide +kernel) d_Model_says_17 ?_
      refine zv_cSP1 X (av := [zl (wI v3), zl 1, zl 1000]) (st := []) (c_Model_in Γ.2.1 X.2.2.2.2.2.2.2.1 hN (wI v3) 1 1000 D) mk_Model_82 ⟨rfl, rfl, Nat.le_of_ble_eq_true rfl, Nat.le_of_ble_eq_true rfl⟩ rfl (Nat.le_of_ble_eq_true rfl) d_Model_says_20 (fun r3 hr3 => ?_)
      refine zv_if_ne X (y := 0) (tgt := 28) d_Model_says_23 (by decide) (fun h23 => ?_) (fun h23 => ?_)
      · refine zv_iconst X d_Model_says_28 ?_
        refine zv_istore X (lv2 := [(4, zi 0), (0, zr Z 144), (1, zi v1), (2, zi v2), (3, zi v3)]) d_Model_says_29 (by decide) rfl ?_
        refine zv_sub X [2, 3, 4, 0] rfl ?_
        exact v_Model_says_31 X hN v1 v2 v3 D zF 0
      · refine zv_iconst X d_Model_says_26 ?_
        exact zv_iretP X d_Model_says_27
set_option maxRecDepth 100000 in
theorem v_Model_controls_36 {Γ : Gt} {Z : Zt} (X : Cx Γ Z prog_10_method_31_code R_Model 5 (some .int) rm_Model_controls) (hN : 166 ≤ Z.2.2.2.1) (v1 v2 v3 : Int)   (D : Mm)  : ∀ (n : Nat) (v4 : Int) , Zv Γ Z 5 (QfP Γ Z 1 D) (f_Model_controls_36 v1 v2 v3 D n v4) D 36 [(1, zi v1), (2, zi v2), (3, zi v3), (4, zi v4)] [] := by
  intro n
  induction n with
  | zero =>
    intro v4
    exact zv_none
  | succ n ih =>
    intro v4
    rw [f_Model_controls_36]
    refine zv_iload X d_Model_controls_36 3 rfl ?_
    refine zv_bipush X d_Model_controls_38 (by decide +kernel) ?_
    refine zv_icmp_gt X (tgt := 63) d_Model_controls_40 (by decide) (fun h40 => ?_) (fun h40 => ?_)
    · refine zv_bipush X d_Model_controls_63 (by decide +kernel) ?_
      exact zv_iretP X d_Model_controls_65
    · refine zv_iload_n X d_Model_controls_43 rfl 0 rfl ?_
      refine zv_iload_n X d_Model_controls_44 rfl 1 rfl ?_
      refine zv_iload X d_Model_controls_45 3 rfl ?_
      refine zv_iload_n X d_Model_controls_47 rfl 2 rfl ?_
      refine zv_cSP1 X (av := [zi v1, zi v2, zi v4, zi v3]) (st := []) (c_Model_isRare Γ.2.1 X.2.2.2.2.2.2.2.1 hN v1 v2 v4 v3 D) mk_Model_186 ⟨rfl, rfl, Nat.le_of_ble_eq_true rfl, Nat.le_of_ble_eq_true rfl⟩ rfl (Nat.le_of_ble_eq_true rfl) d_Model_controls_48 (fun r1 hr1 => ?_)
      refine zv_if_eq X (y := 0) (tgt := 57) d_Model_controls_51 (by decide) (fun h51 => ?_) (fun h51 => ?_)
      · refine zv_iinc X (lv2 := [(4, zi (v4 + 1)), (1, zi v1), (2, zi v2), (3, zi v3)]) d_Model_controls_57 3 rfl (by decide) rfl ?_
        refine zv_goto X (tgt := 36) d_Model_controls_60 (by decide) ?_
        refine zv_sub X [1, 2, 3, 0] rfl ?_
        exact ih (v4 + 1)
      · refine zv_iload X d_Model_controls_54 3 rfl ?_
        exact zv_iretP X d_Model_controls_56
set_option maxRecDepth 100000 in
theorem c_Model_controls (l : Launch) {Z : Zt} (hZ : Zok Z) (hN : 166 ≤ Z.2.2.2.1) (v1 v2 v3 : Int)  (D : Mm) : CtP l Z y_Model_controls prog_10_method_31_code 5 (some .int) rm_Model_controls 1 [zr Z 144, zi v1, zi v2, zi v3] D (f_Model_controls v1 v2 v3 D) := by
  refine zm_P (lv := [(0, zr Z 144), (1, zi v1), (2, zi v2), (3, zi v3)]) hZ (by decide +kernel) rfl (Nat.le_of_ble_eq_true rfl) rfl (fun Γ hl X => ?_)
  subst hl
  unfold f_Model_controls
  refine zv_iload_n X d_Model_controls_0 rfl 1 rfl ?_
  refine zv_i2l X d_Model_controls_1 ?_
  refine zv_lconst X (x := 1) d_Model_controls_2 (by decide +kernel) ?_
  refine zv_ldc2 X 9 kc_Model_109 (by decide +kernel) d_Model_controls_3 ?_
  refine zv_cSP1 X (av := [zl (wI v1), zl 1, zl 9]) (st := []) (c_Model_in Γ.2.1 X.2.2.2.2.2.2.2.1 hN (wI v1) 1 9 D) mk_Model_82 ⟨rfl, rfl, Nat.le_of_ble_eq_true rfl, Nat.le_of_ble_eq_true rfl⟩ rfl (Nat.le_of_ble_eq_true rfl) d_Model_controls_6 (fun r1 hr1 => ?_)
  refine zv_if_eq X (y := 0) (tgt := 31) d_Model_controls_9 (by decide) (fun h9 => ?_) (fun h9 => ?_)
  · refine zv_iconst X d_Model_controls_31 ?_
    exact zv_iretP X d_Model_controls_32
  · refine zv_iload_n X d_Model_controls_12 rfl 2 rfl ?_
    refine zv_cSP1 X (av := [zi v2]) (st := []) (c_Model_isArea Γ.2.1 X.2.2.2.2.2.2.2.1 hN v2 D) mk_Model_173 ⟨rfl, rfl, Nat.le_of_ble_eq_true rfl, Nat.le_of_ble_eq_true rfl⟩ rfl (Nat.le_of_ble_eq_true rfl) d_Model_controls_13 (fun r2 hr2 => ?_)
    refine zv_if_eq X (y := 0) (tgt := 31) d_Model_controls_16 (by decide) (fun h16 => ?_) (fun h16 => ?_)
    · refine zv_iconst X d_Model_controls_31 ?_
      exact zv_iretP X d_Model_controls_32
    · refine zv_iload_n X d_Model_controls_19 rfl 3 rfl ?_
      refine zv_i2l X d_Model_controls_20 ?_
      refine zv_lconst X (x := 1) d_Model_controls_21 (by decide +kernel) ?_
      refine zv_ldc2 X 1000 kc_Model_184 (by decide +kernel) d_Model_controls_22 ?_
      refine zv_cSP1 X (av := [zl (wI v3), zl 1, zl 1000]) (st := []) (c_Model_in Γ.2.1 X.2.2.2.2.2.2.2.1 hN (wI v3) 1 1000 D) mk_Model_82 ⟨rfl, rfl, Nat.le_of_ble_eq_true rfl, Nat.le_of_ble_eq_true rfl⟩ rfl (Nat.le_of_ble_eq_true rfl) d_Model_controls_25 (fun r3 hr3 => ?_)
      refine zv_if_ne X (y := 0) (tgt := 33) d_Model_controls_28 (by decide) (fun h28 => ?_) (fun h28 => ?_)
      · refine zv_iconst X d_Model_controls_33 ?_
        refine zv_istore X (lv2 := [(4, zi 1), (0, zr Z 144), (1, zi v1), (2, zi v2), (3, zi v3)]) d_Model_controls_34 (by decide) rfl ?_
        refine zv_sub X [2, 3, 4, 0] rfl ?_
        exact v_Model_controls_36 X hN v1 v2 v3 D zF 1
      · refine zv_iconst X d_Model_controls_31 ?_
        exact zv_iretP X d_Model_controls_32
set_option maxRecDepth 100000 in
theorem c_Model_isHeap (l : Launch) {Z : Zt} (hZ : Zok Z) (hN : 166 ≤ Z.2.2.2.1) (v1 v2 v3 v4 v5 : Int)  (D : Mm) : CtM l Z y_Model_isHeap prog_10_method_32_code 6 (some .boolean) rm_Model_isHeap 1 [zr Z 144, zi v1, zi v2, zi v3, zi v4, zi v5] D (f_Model_isHeap v1 v2 v3 v4 v5 D) := by
  refine zm_M (lv := [(0, zr Z 144), (1, zi v1), (2, zi v2), (3, zi v3), (4, zi v4), (5, zi v5)]) hZ (by decide +kernel) rfl (Nat.le_of_ble_eq_true rfl) rfl (fun Γ hl X => ?_)
  subst hl
  unfold f_Model_isHeap
  refine zv_aload_n X d_Model_isHeap_0 rfl 0 rfl ?_
  refine zv_get X (ci := 7) rfl i_Model (za_144 hN) 22 (by decide) lk_Model_67 rfl rfl d_Model_isHeap_1 ?_
  refine zv_iconst X d_Model_isHeap_4 ?_
  refine zv_iload_n X d_Model_isHeap_5 rfl 1 rfl ?_
  refine zv_iastK X (za_164 hN) (by decide) (by decide) d_Model_isHeap_6 (fun D1 => ?_)
  refine zv_aload_n X d_Model_isHeap_7 rfl 0 rfl ?_
  refine zv_get X (ci := 7) rfl i_Model (za_144 hN) 22 (by decide) lk_Model_67 rfl rfl d_Model_isHeap_8 ?_
  refine zv_iconst X d_Model_isHeap_11 ?_
  refine zv_iload_n X d_Model_isHeap_12 rfl 2 rfl ?_
  refine zv_iastK X (za_164 hN) (by decide) (by decide) d_Model_isHeap_13 (fun D2 => ?_)
  refine zv_aload_n X d_Model_isHeap_14 rfl 0 rfl ?_
  refine zv_get X (ci := 7) rfl i_Model (za_144 hN) 22 (by decide) lk_Model_67 rfl rfl d_Model_isHeap_15 ?_
  refine zv_iconst X d_Model_isHeap_18 ?_
  refine zv_iload_n X d_Model_isHeap_19 rfl 3 rfl ?_
  refine zv_iastK X (za_164 hN) (by decide) (by decide) d_Model_isHeap_20 (fun D3 => ?_)
  refine zv_aload_n X d_Model_isHeap_21 rfl 0 rfl ?_
  refine zv_get X (ci := 7) rfl i_Model (za_144 hN) 22 (by decide) lk_Model_67 rfl rfl d_Model_isHeap_22 ?_
  refine zv_iconst X d_Model_isHeap_25 ?_
  refine zv_iload X d_Model_isHeap_26 4 rfl ?_
  refine zv_iastK X (za_164 hN) (by decide) (by decide) d_Model_isHeap_28 (fun D4 => ?_)
  refine zv_iload_n X d_Model_isHeap_29 rfl 1 rfl ?_
  refine zv_i2l X d_Model_isHeap_30 ?_
  refine zv_lconst X (x := 0) d_Model_isHeap_31 (by decide +kernel) ?_
  refine zv_iload X d_Model_isHeap_32 5 rfl ?_
  refine zv_i2l X d_Model_isHeap_34 ?_
  refine zv_cSP1 X (av := [zl (wI v1), zl 0, zl (wI v5)]) (st := []) (c_Model_in Γ.2.1 X.2.2.2.2.2.2.2.1 hN (wI v1) 0 (wI v5) D4) mk_Model_82 ⟨rfl, rfl, Nat.le_of_ble_eq_true rfl, Nat.le_of_ble_eq_true rfl⟩ rfl (Nat.le_of_ble_eq_true rfl) d_Model_isHeap_35 (fun r5 hr5 => ?_)
  refine zv_if_eq X (y := 0) (tgt := 95) d_Model_isHeap_38 (by decide) (fun h38 => ?_) (fun h38 => ?_)
  · refine zv_iconst X d_Model_isHeap_95 ?_
    exact zv_zretMK X (Or.inl rfl) d_Model_isHeap_96
  · refine zv_iload_n X d_Model_isHeap_41 rfl 2 rfl ?_
    refine zv_i2l X d_Model_isHeap_42 ?_
    refine zv_lconst X (x := 0) d_Model_isHeap_43 (by decide +kernel) ?_
    refine zv_iload X d_Model_isHeap_44 5 rfl ?_
    refine zv_i2l X d_Model_isHeap_46 ?_
    refine zv_cSP1 X (av := [zl (wI v2), zl 0, zl (wI v5)]) (st := []) (c_Model_in Γ.2.1 X.2.2.2.2.2.2.2.1 hN (wI v2) 0 (wI v5) D4) mk_Model_82 ⟨rfl, rfl, Nat.le_of_ble_eq_true rfl, Nat.le_of_ble_eq_true rfl⟩ rfl (Nat.le_of_ble_eq_true rfl) d_Model_isHeap_47 (fun r6 hr6 => ?_)
    refine zv_if_eq X (y := 0) (tgt := 95) d_Model_isHeap_50 (by decide) (fun h50 => ?_) (fun h50 => ?_)
    · refine zv_iconst X d_Model_isHeap_95 ?_
      exact zv_zretMK X (Or.inl rfl) d_Model_isHeap_96
    · refine zv_iload_n X d_Model_isHeap_53 rfl 3 rfl ?_
      refine zv_i2l X d_Model_isHeap_54 ?_
      refine zv_lconst X (x := 0) d_Model_isHeap_55 (by decide +kernel) ?_
      refine zv_iload X d_Model_isHeap_56 5 rfl ?_
      refine zv_i2l X d_Model_isHeap_58 ?_
      refine zv_cSP1 X (av := [zl (wI v3), zl 0, zl (wI v5)]) (st := []) (c_Model_in Γ.2.1 X.2.2.2.2.2.2.2.1 hN (wI v3) 0 (wI v5) D4) mk_Model_82 ⟨rfl, rfl, Nat.le_of_ble_eq_true rfl, Nat.le_of_ble_eq_true rfl⟩ rfl (Nat.le_of_ble_eq_true rfl) d_Model_isHeap_59 (fun r7 hr7 => ?_)
      refine zv_if_eq X (y := 0) (tgt := 95) d_Model_isHeap_62 (by decide) (fun h62 => ?_) (fun h62 => ?_)
      · refine zv_iconst X d_Model_isHeap_95 ?_
        exact zv_zretMK X (Or.inl rfl) d_Model_isHeap_96
      · refine zv_iload X d_Model_isHeap_65 4 rfl ?_
        refine zv_i2l X d_Model_isHeap_67 ?_
        refine zv_lconst X (x := 0) d_Model_isHeap_68 (by decide +kernel) ?_
        refine zv_iload X d_Model_isHeap_69 5 rfl ?_
        refine zv_i2l X d_Model_isHeap_71 ?_
        refine zv_cSP1 X (av := [zl (wI v4), zl 0, zl (wI v5)]) (st := []) (c_Model_in Γ.2.1 X.2.2.2.2.2.2.2.1 hN (wI v4) 0 (wI v5) D4) mk_Model_82 ⟨rfl, rfl, Nat.le_of_ble_eq_true rfl, Nat.le_of_ble_eq_true rfl⟩ rfl (Nat.le_of_ble_eq_true rfl) d_Model_isHeap_72 (fun r8 hr8 => ?_)
        refine zv_if_eq X (y := 0) (tgt := 95) d_Model_isHeap_75 (by decide) (fun h75 => ?_) (fun h75 => ?_)
        · refine zv_iconst X d_Model_isHeap_95 ?_
          exact zv_zretMK X (Or.inl rfl) d_Model_isHeap_96
        · refine zv_iload_n X d_Model_isHeap_78 rfl 1 rfl ?_
          refine zv_iload_n X d_Model_isHeap_79 rfl 2 rfl ?_
          refine zv_iadd X d_Model_isHeap_80 ?_
          refine zv_iload_n X d_Model_isHeap_81 rfl 3 rfl ?_
          refine zv_iadd X d_Model_isHeap_82 ?_
          refine zv_iload X d_Model_isHeap_83 4 rfl ?_
          refine zv_iadd X d_Model_isHeap_85 ?_
          refine zv_iload X d_Model_isHeap_86 5 rfl ?_
          refine zv_icmp_gt X (tgt := 95) d_Model_isHeap_88 (by decide) (fun h88 => ?_) (fun h88 => ?_)
          · refine zv_iconst X d_Model_isHeap_95 ?_
            exact zv_zretMK X (Or.inl rfl) d_Model_isHeap_96
          · refine zv_iconst X d_Model_isHeap_91 ?_
            refine zv_goto X (tgt := 96) d_Model_isHeap_92 (by decide) ?_
            exact zv_zretMK X (Or.inr rfl) d_Model_isHeap_96
set_option maxRecDepth 100000 in
theorem v_Model_likely_5 {Γ : Gt} {Z : Zt} (X : Cx Γ Z prog_10_method_33_code R_Model 5 (some .long) rm_Model_likely) (hN : 166 ≤ Z.2.2.2.1) (v1 : Int)   (D : Mm)  : ∀ (n : Nat) (v2 v4 : Int) , Zv Γ Z 5 (QfP Γ Z 2 D) (f_Model_likely_5 v1 D n v2 v4) D 5 [(0, zr Z 144), (1, zi v1), (2, zl v2), (4, zi v4)] [] := by
  intro n
  induction n with
  | zero =>
    intro v2 v4
    exact zv_none
  | succ n ih =>
    intro v2 v4
    rw [f_Model_likely_5]
    refine zv_iload X d_Model_likely_5 3 rfl ?_
    refine zv_iconst X d_Model_likely_7 ?_
    refine zv_icmp_ge X (tgt := 42) d_Model_likely_8 (by decide) (fun h8 => ?_) (fun h8 => ?_)
    · refine zv_lload_n X d_Model_likely_42 rfl 2 rfl ?_
      exact zv_lretP X d_Model_likely_43
    · refine zv_lload_n X d_Model_likely_11 rfl 2 rfl ?_
      refine zv_aload_n X d_Model_likely_12 rfl 0 rfl ?_
      refine zv_get X (ci := 7) rfl i_Model (za_144 hN) 3 (by decide) lk_Model_16 rfl rfl d_Model_likely_13 ?_
      refine zv_iconst X d_Model_likely_16 ?_
      refine zv_iload_n X d_Model_likely_17 rfl 1 rfl ?_
      refine zv_imul X d_Model_likely_18 ?_
      refine zv_iload X d_Model_likely_19 3 rfl ?_
      refine zv_iadd X d_Model_likely_21 ?_
      refine zv_iald X (za_147 hN) d_Model_likely_22 (fun ha22 hb22 => ?_)
      refine zv_i2l X d_Model_likely_23 ?_
      refine zv_aload_n X d_Model_likely_24 rfl 0 rfl ?_
      refine zv_get X (ci := 7) rfl i_Model (za_144 hN) 22 (by decide) lk_Model_67 rfl rfl d_Model_likely_25 ?_
      refine zv_iload X d_Model_likely_28 3 rfl ?_
      refine zv_iald X (za_164 hN) d_Model_likely_30 (fun ha30 hb30 => ?_)
      refine zv_cSP2 X (av := [zl (wI (D 147 ((4 * v1) + v4))), zi (D 164 v4)]) (st := [zl v2]) (c_Model_power Γ.2.1 X.2.2.2.2.2.2.2.1 hN (wI (D 147 ((4 * v1) + v4))) (D 164 v4) D) mk_Model_176 ⟨rfl, rfl, Nat.le_of_ble_eq_true rfl, Nat.le_of_ble_eq_true rfl⟩ rfl (Nat.le_of_ble_eq_true rfl) d_Model_likely_31 (fun r1 hr1 => ?_)
      refine zv_lmul X d_Model_likely_34 ?_
      refine zv_lstore_n X (lv2 := [(2, zl (v2 * r1)), (0, zr Z 144), (1, zi v1), (4, zi v4)]) d_Model_likely_35 rfl (by decide) rfl ?_
      refine zv_iinc X (lv2 := [(4, zi (v4 + 1)), (2, zl (v2 * r1)), (0, zr Z 144), (1, zi v1)]) d_Model_likely_36 3 rfl (by decide) rfl ?_
      refine zv_goto X (tgt := 5) d_Model_likely_39 (by decide) ?_
      refine zv_sub X [2, 3, 1, 0] rfl ?_
      exact ih (v2 * r1) (v4 + 1)
set_option maxRecDepth 100000 in
theorem c_Model_likely (l : Launch) {Z : Zt} (hZ : Zok Z) (hN : 166 ≤ Z.2.2.2.1) (v1 : Int)  (D : Mm) : CtP l Z y_Model_likely prog_10_method_33_code 5 (some .long) rm_Model_likely 2 [zr Z 144, zi v1] D (f_Model_likely v1 D) := by
  refine zm_P (lv := [(0, zr Z 144), (1, zi v1)]) hZ (by decide +kernel) rfl (Nat.le_of_ble_eq_true rfl) rfl (fun Γ hl X => ?_)
  subst hl
  unfold f_Model_likely
  refine zv_lconst X (x := 1) d_Model_likely_0 (by decide +kernel) ?_
  refine zv_lstore_n X (lv2 := [(2, zl 1), (0, zr Z 144), (1, zi v1)]) d_Model_likely_1 rfl (by decide) rfl ?_
  refine zv_iconst X d_Model_likely_2 ?_
  refine zv_istore X (lv2 := [(4, zi 0), (2, zl 1), (0, zr Z 144), (1, zi v1)]) d_Model_likely_3 (by decide) rfl ?_
  refine zv_sub X [2, 3, 1, 0] rfl ?_
  exact v_Model_likely_5 X hN v1 D zF 1 0
set_option maxRecDepth 100000 in
theorem v_Model_heap_44 {Γ : Gt} {Z : Zt} (X : Cx Γ Z prog_10_method_34_code R_Model 11 (some .long) rm_Model_heap) (hN : 166 ≤ Z.2.2.2.1) (v1 v6 : Int)   (D : Mm)  : ∀ (n : Nat) (v7 v9 : Int) , Zv Γ Z 11 (QfM Γ Z 2) (f_Model_heap_44 v1 v6 D n v7 v9) D 44 [(0, zr Z 144), (1, zi v1), (6, zi v6), (7, zl v7), (9, zi v9)] [] := by
  intro n
  induction n with
  | zero =>
    intro v7 v9
    exact zv_none
  | succ n ih =>
    intro v7 v9
    rw [f_Model_heap_44]
    refine zv_iload X d_Model_heap_44 4 rfl ?_
    refine zv_aload_n X d_Model_heap_46 rfl 0 rfl ?_
    refine zv_get X (ci := 7) rfl i_Model (za_144 hN) 2 (by decide) lk_Model_13 rfl rfl d_Model_heap_47 ?_
    refine zv_iconst X d_Model_heap_50 ?_
    refine zv_ialdK X (za_146 hN) (by decide) (by decide) d_Model_heap_51 ?_
    refine zv_icmp_ge X (tgt := 72) d_Model_heap_52 (by decide) (fun h52 => ?_) (fun h52 => ?_)
    · refine zv_lload X d_Model_heap_72 3 rfl ?_
      refine zv_lconst X (x := 0) d_Model_heap_74 (by decide +kernel) ?_
      refine zv_lcmp_ne X (tgt := 83) d_Model_heap_75 d_Model_heap_76 (by decide) (fun h75 => ?_) (fun h75 => ?_)
      · refine zv_aload_n X d_Model_heap_83 rfl 0 rfl ?_
        refine zv_iload_n X d_Model_heap_84 rfl 1 rfl ?_
        refine zv_cVP2 X (av := [zi v1]) (st := []) (ci := 7) (c_Model_likely Γ.2.1 X.2.2.2.2.2.2.2.1 hN v1 D) mk_Model_194 rfl (za_144 hN) ⟨rfl, rfl, Nat.le_of_ble_eq_true rfl, Nat.le_of_ble_eq_true rfl⟩ rfl (Nat.le_of_ble_eq_true rfl) d_Model_heap_85 (fun r1 hr1 => ?_)
        refine zv_lload X d_Model_heap_88 3 rfl ?_
        refine zv_cSP2 X (av := [zl r1, zl v7]) (st := []) (c_Model_common Γ.2.1 X.2.2.2.2.2.2.2.1 hN r1 v7 D) mk_Model_180 ⟨rfl, rfl, Nat.le_of_ble_eq_true rfl, Nat.le_of_ble_eq_true rfl⟩ rfl (Nat.le_of_ble_eq_true rfl) d_Model_heap_90 (fun r2 hr2 => ?_)
        refine zv_lstore X (lv2 := [(9, zl r2), (0, zr Z 144), (1, zi v1), (6, zi v6), (7, zl v7)]) d_Model_heap_93 (by decide) rfl ?_
        refine zv_iload X d_Model_heap_95 3 rfl ?_
        refine zv_if_ne X (y := 0) (tgt := 111) d_Model_heap_97 (by decide) (fun h97 => ?_) (fun h97 => ?_)
        · refine zv_lload X d_Model_heap_111 4 rfl ?_
          refine zv_lload X d_Model_heap_113 0 rfl ?_
          refine zv_ldiv X d_Model_heap_115 (fun h115 => ?_)
          exact zv_lretM X d_Model_heap_116
        · refine zv_aload_n X d_Model_heap_100 rfl 1 rfl ?_
          refine zv_iload_n X d_Model_heap_101 rfl 2 rfl ?_
          refine zv_cVP2 X (av := [zi v1]) (st := []) (ci := 7) (c_Model_likely Γ.2.1 X.2.2.2.2.2.2.2.1 hN v1 D) mk_Model_194 rfl (za_144 hN) ⟨rfl, rfl, Nat.le_of_ble_eq_true rfl, Nat.le_of_ble_eq_true rfl⟩ rfl (Nat.le_of_ble_eq_true rfl) d_Model_heap_102 (fun r3 hr3 => ?_)
          refine zv_lload X d_Model_heap_105 0 rfl ?_
          refine zv_ldiv X d_Model_heap_107 (fun h107 => ?_)
          refine zv_goto X (tgt := 116) d_Model_heap_108 (by decide) ?_
          exact zv_lretM X d_Model_heap_116
      · refine zv_ldc2 X (-4) kc_Model_198 (by decide +kernel) d_Model_heap_79 ?_
        exact zv_lretM X d_Model_heap_82
    · refine zv_lload X d_Model_heap_55 3 rfl ?_
      refine zv_aload_n X d_Model_heap_57 rfl 0 rfl ?_
      refine zv_iload X d_Model_heap_58 4 rfl ?_
      refine zv_cVP2 X (av := [zi v9]) (st := [zl v7]) (ci := 7) (c_Model_likely Γ.2.1 X.2.2.2.2.2.2.2.1 hN v9 D) mk_Model_194 rfl (za_144 hN) ⟨rfl, rfl, Nat.le_of_ble_eq_true rfl, Nat.le_of_ble_eq_true rfl⟩ rfl (Nat.le_of_ble_eq_true rfl) d_Model_heap_60 (fun r4 hr4 => ?_)
      refine zv_ladd X d_Model_heap_63 ?_
      refine zv_lstore X (lv2 := [(7, zl (v7 + r4)), (0, zr Z 144), (1, zi v1), (6, zi v6), (9, zi v9)]) d_Model_heap_64 (by decide) rfl ?_
      refine zv_iinc X (lv2 := [(9, zi (v9 + 1)), (7, zl (v7 + r4)), (0, zr Z 144), (1, zi v1), (6, zi v6)]) d_Model_heap_66 4 rfl (by decide) rfl ?_
      refine zv_goto X (tgt := 44) d_Model_heap_69 (by decide) ?_
      refine zv_sub X [2, 3, 4, 1, 0] rfl ?_
      exact ih (v7 + r4) (v9 + 1)
set_option maxRecDepth 100000 in
theorem v_Model_heap_34 {Γ : Gt} {Z : Zt} (X : Cx Γ Z prog_10_method_34_code R_Model 11 (some .long) rm_Model_heap) (hN : 166 ≤ Z.2.2.2.1)   (D : Mm)  : Zv Γ Z 11 (QfM Γ Z 2) (f_Model_heap_34 D) D 34 [] [] := by
  unfold f_Model_heap_34
  refine zv_ldc2 X (-1) kc_Model_147 (by decide +kernel) d_Model_heap_34 ?_
  exact zv_lretM X d_Model_heap_37
set_option maxRecDepth 100000 in
theorem c_Model_heap (l : Launch) {Z : Zt} (hZ : Zok Z) (hN : 166 ≤ Z.2.2.2.1) (v1 v2 v3 v4 v5 v6 : Int)  (D : Mm) : CtM l Z y_Model_heap prog_10_method_34_code 11 (some .long) rm_Model_heap 2 [zr Z 144, zi v1, zi v2, zi v3, zi v4, zi v5, zi v6] D (f_Model_heap v1 v2 v3 v4 v5 v6 D) := by
  refine zm_M (lv := [(0, zr Z 144), (1, zi v1), (2, zi v2), (3, zi v3), (4, zi v4), (5, zi v5), (6, zi v6)]) hZ (by decide +kernel) rfl (Nat.le_of_ble_eq_true rfl) rfl (fun Γ hl X => ?_)
  subst hl
  unfold f_Model_heap
  refine zv_aload_n X d_Model_heap_0 rfl 0 rfl ?_
  refine zv_iload_n X d_Model_heap_1 rfl 1 rfl ?_
  refine zv_cVP1 X (av := [zi v1]) (st := []) (ci := 7) (c_Model_isSort Γ.2.1 X.2.2.2.2.2.2.2.1 hN v1 D) mk_Model_144 rfl (za_144 hN) ⟨rfl, rfl, Nat.le_of_ble_eq_true rfl, Nat.le_of_ble_eq_true rfl⟩ rfl (Nat.le_of_ble_eq_true rfl) d_Model_heap_2 (fun r1 hr1 => ?_)
  refine zv_if_eq X (y := 0) (tgt := 34) d_Model_heap_5 (by decide) (fun h5 => ?_) (fun h5 => ?_)
  · refine zv_sub X [] rfl ?_
    exact v_Model_heap_34 X hN D
  · refine zv_aload_n X d_Model_heap_8 rfl 0 rfl ?_
    refine zv_iload_n X d_Model_heap_9 rfl 2 rfl ?_
    refine zv_iload_n X d_Model_heap_10 rfl 3 rfl ?_
    refine zv_iload X d_Model_heap_11 4 rfl ?_
    refine zv_iload X d_Model_heap_13 5 rfl ?_
    refine zv_bipush X d_Model_heap_15 (by decide +kernel) ?_
    refine zv_cVM1 X (av := [zi v2, zi v3, zi v4, zi v5, zi 8]) (st := []) (ci := 7) (c_Model_isHeap Γ.2.1 X.2.2.2.2.2.2.2.1 hN v2 v3 v4 v5 8 D) mk_Model_190 rfl (za_144 hN) ⟨rfl, rfl, Nat.le_of_ble_eq_true rfl, Nat.le_of_ble_eq_true rfl⟩ rfl (Nat.le_of_ble_eq_true rfl) d_Model_heap_17 (fun r2 D3 hr2 => ?_)
    refine zv_if_eq X (y := 0) (tgt := 34) d_Model_heap_20 (by decide) (fun h20 => ?_) (fun h20 => ?_)
    · refine zv_sub X [] rfl ?_
      exact v_Model_heap_34 X hN D3
    · refine zv_iload X d_Model_heap_23 6 rfl ?_
      refine zv_i2l X d_Model_heap_25 ?_
      refine zv_lconst X (x := 0) d_Model_heap_26 (by decide +kernel) ?_
      refine zv_lconst X (x := 1) d_Model_heap_27 (by decide +kernel) ?_
      refine zv_cSP1 X (av := [zl (wI v6), zl 0, zl 1]) (st := []) (c_Model_in Γ.2.1 X.2.2.2.2.2.2.2.1 hN (wI v6) 0 1 D3) mk_Model_82 ⟨rfl, rfl, Nat.le_of_ble_eq_true rfl, Nat.le_of_ble_eq_true rfl⟩ rfl (Nat.le_of_ble_eq_true rfl) d_Model_heap_28 (fun r4 hr4 => ?_)
      refine zv_if_ne X (y := 0) (tgt := 38) d_Model_heap_31 (by decide) (fun h31 => ?_) (fun h31 => ?_)
      · refine zv_lconst X (x := 0) d_Model_heap_38 (by decide +kernel) ?_
        refine zv_lstore X (lv2 := [(7, zl 0), (0, zr Z 144), (1, zi v1), (2, zi v2), (3, zi v3), (4, zi v4), (5, zi v5), (6, zi v6)]) d_Model_heap_39 (by decide) rfl ?_
        refine zv_iconst X d_Model_heap_41 ?_
        refine zv_istore X (lv2 := [(9, zi 0), (7, zl 0), (0, zr Z 144), (1, zi v1), (2, zi v2), (3, zi v3), (4, zi v4), (5, zi v5), (6, zi v6)]) d_Model_heap_42 (by decide) rfl ?_
        refine zv_sub X [2, 3, 8, 1, 0] rfl ?_
        exact v_Model_heap_44 X hN v1 v6 D3 zF 0 0
      · refine zv_sub X [] rfl ?_
        exact v_Model_heap_34 X hN D3
set_option maxRecDepth 100000 in
theorem v_Model_most_56 {Γ : Gt} {Z : Zt} (X : Cx Γ Z prog_10_method_35_code R_Model 7 (some .int) rm_Model_most) (hN : 166 ≤ Z.2.2.2.1) (v6 s0 : Int)  (K14 : Int → Int → Option (Int × Mm)) (D : Mm) (hK14 : ∀ (v5 v6 : Int), Zv Γ Z 7 (QfM Γ Z 1) (K14 v5 v6) D 22 [(0, zr Z 144), (5, zi v5), (6, zi v6)] []) : Zv Γ Z 7 (QfM Γ Z 1) (f_Model_most_56 v6 s0 K14 D) D 56 [(0, zr Z 144), (6, zi v6)] [zi s0] := by
  unfold f_Model_most_56
  refine zv_istore X (lv2 := [(5, zi s0), (0, zr Z 144), (6, zi v6)]) d_Model_most_56 (by decide) rfl ?_
  refine zv_iinc X (lv2 := [(6, zi (v6 + 1)), (5, zi s0), (0, zr Z 144)]) d_Model_most_58 2 rfl (by decide) rfl ?_
  refine zv_goto X (tgt := 22) d_Model_most_61 (by decide) ?_
  refine zv_sub X [2, 1, 0] rfl ?_
  exact hK14 s0 (v6 + 1)
set_option maxRecDepth 100000 in
theorem v_Model_most_22 {Γ : Gt} {Z : Zt} (X : Cx Γ Z prog_10_method_35_code R_Model 7 (some .int) rm_Model_most) (hN : 166 ≤ Z.2.2.2.1)   (D : Mm)  : ∀ (n : Nat) (v5 v6 : Int) , Zv Γ Z 7 (QfM Γ Z 1) (f_Model_most_22 D n v5 v6) D 22 [(0, zr Z 144), (5, zi v5), (6, zi v6)] [] := by
  intro n
  induction n with
  | zero =>
    intro v5 v6
    exact zv_none
  | succ n ih =>
    intro v5 v6
    rw [f_Model_most_22]
    refine zv_iload X d_Model_most_22 2 rfl ?_
    refine zv_aload_n X d_Model_most_24 rfl 0 rfl ?_
    refine zv_get X (ci := 7) rfl i_Model (za_144 hN) 2 (by decide) lk_Model_13 rfl rfl d_Model_most_25 ?_
    refine zv_iconst X d_Model_most_28 ?_
    refine zv_ialdK X (za_146 hN) (by decide) (by decide) d_Model_most_29 ?_
    refine zv_icmp_ge X (tgt := 64) d_Model_most_30 (by decide) (fun h30 => ?_) (fun h30 => ?_)
    · refine zv_aload_n X d_Model_most_64 rfl 0 rfl ?_
      refine zv_iload X d_Model_most_65 1 rfl ?_
      refine zv_cVP2 X (av := [zi v5]) (st := []) (ci := 7) (c_Model_likely Γ.2.1 X.2.2.2.2.2.2.2.1 hN v5 D) mk_Model_194 rfl (za_144 hN) ⟨rfl, rfl, Nat.le_of_ble_eq_true rfl, Nat.le_of_ble_eq_true rfl⟩ rfl (Nat.le_of_ble_eq_true rfl) d_Model_most_67 (fun r1 hr1 => ?_)
      refine zv_lconst X (x := 0) d_Model_most_70 (by decide +kernel) ?_
      refine zv_lcmp_ne X (tgt := 80) d_Model_most_71 d_Model_most_72 (by decide) (fun h71 => ?_) (fun h71 => ?_)
      · refine zv_iload X d_Model_most_80 1 rfl ?_
        exact zv_iretM X d_Model_most_82
      · refine zv_bipush X d_Model_most_75 (by decide +kernel) ?_
        refine zv_goto X (tgt := 82) d_Model_most_77 (by decide) ?_
        exact zv_iretM X d_Model_most_82
    · refine zv_aload_n X d_Model_most_33 rfl 0 rfl ?_
      refine zv_iload X d_Model_most_34 2 rfl ?_
      refine zv_cVP2 X (av := [zi v6]) (st := []) (ci := 7) (c_Model_likely Γ.2.1 X.2.2.2.2.2.2.2.1 hN v6 D) mk_Model_194 rfl (za_144 hN) ⟨rfl, rfl, Nat.le_of_ble_eq_true rfl, Nat.le_of_ble_eq_true rfl⟩ rfl (Nat.le_of_ble_eq_true rfl) d_Model_most_36 (fun r2 hr2 => ?_)
      refine zv_aload_n X d_Model_most_39 rfl 0 rfl ?_
      refine zv_iload X d_Model_most_40 1 rfl ?_
      refine zv_cVP2 X (av := [zi v5]) (st := [zl r2]) (ci := 7) (c_Model_likely Γ.2.1 X.2.2.2.2.2.2.2.1 hN v5 D) mk_Model_194 rfl (za_144 hN) ⟨rfl, rfl, Nat.le_of_ble_eq_true rfl, Nat.le_of_ble_eq_true rfl⟩ rfl (Nat.le_of_ble_eq_true rfl) d_Model_most_42 (fun r3 hr3 => ?_)
      refine zv_lcmp_le X (tgt := 54) d_Model_most_45 d_Model_most_46 (by decide) (fun h45 => ?_) (fun h45 => ?_)
      · refine zv_iload X d_Model_most_54 1 rfl ?_
        refine zv_sub X [0, 2] rfl ?_
        exact v_Model_most_56 X hN v6 v5 (f_Model_most_22 D n) D ih
      · refine zv_iload X d_Model_most_49 2 rfl ?_
        refine zv_goto X (tgt := 56) d_Model_most_51 (by decide) ?_
        refine zv_sub X [0, 2] rfl ?_
        exact v_Model_most_56 X hN v6 v6 (f_Model_most_22 D n) D ih
set_option maxRecDepth 100000 in
theorem c_Model_most (l : Launch) {Z : Zt} (hZ : Zok Z) (hN : 166 ≤ Z.2.2.2.1) (v1 v2 v3 v4 : Int)  (D : Mm) : CtM l Z y_Model_most prog_10_method_35_code 7 (some .int) rm_Model_most 1 [zr Z 144, zi v1, zi v2, zi v3, zi v4] D (f_Model_most v1 v2 v3 v4 D) := by
  refine zm_M (lv := [(0, zr Z 144), (1, zi v1), (2, zi v2), (3, zi v3), (4, zi v4)]) hZ (by decide +kernel) rfl (Nat.le_of_ble_eq_true rfl) rfl (fun Γ hl X => ?_)
  subst hl
  unfold f_Model_most
  refine zv_aload_n X d_Model_most_0 rfl 0 rfl ?_
  refine zv_iload_n X d_Model_most_1 rfl 1 rfl ?_
  refine zv_iload_n X d_Model_most_2 rfl 2 rfl ?_
  refine zv_iload_n X d_Model_most_3 rfl 3 rfl ?_
  refine zv_iload X d_Model_most_4 4 rfl ?_
  refine zv_bipush X d_Model_most_6 (by decide +kernel) ?_
  refine zv_cVM1 X (av := [zi v1, zi v2, zi v3, zi v4, zi 8]) (st := []) (ci := 7) (c_Model_isHeap Γ.2.1 X.2.2.2.2.2.2.2.1 hN v1 v2 v3 v4 8 D) mk_Model_190 rfl (za_144 hN) ⟨rfl, rfl, Nat.le_of_ble_eq_true rfl, Nat.le_of_ble_eq_true rfl⟩ rfl (Nat.le_of_ble_eq_true rfl) d_Model_most_8 (fun r1 D2 hr1 => ?_)
  refine zv_if_ne X (y := 0) (tgt := 16) d_Model_most_11 (by decide) (fun h11 => ?_) (fun h11 => ?_)
  · refine zv_iconst X d_Model_most_16 ?_
    refine zv_istore X (lv2 := [(5, zi 0), (0, zr Z 144), (1, zi v1), (2, zi v2), (3, zi v3), (4, zi v4)]) d_Model_most_17 (by decide) rfl ?_
    refine zv_iconst X d_Model_most_19 ?_
    refine zv_istore X (lv2 := [(6, zi 1), (5, zi 0), (0, zr Z 144), (1, zi v1), (2, zi v2), (3, zi v3), (4, zi v4)]) d_Model_most_20 (by decide) rfl ?_
    refine zv_sub X [2, 1, 0] rfl ?_
    exact v_Model_most_22 X hN D2 zF 0 1
  · refine zv_iconst X d_Model_most_14 ?_
    exact zv_iretM X d_Model_most_15
set_option maxRecDepth 100000 in
theorem v_Model_shares_155 {Γ : Gt} {Z : Zt} (X : Cx Γ Z prog_10_method_36_code R_Model 14 (some .int) rm_Model_shares) (hN : 166 ≤ Z.2.2.2.1) (v1 v2 v7 v10 s0 : Int)  (K27 : Int → Int → Int → Option (Int × Mm)) (D : Mm) (hK27 : ∀ (v7 v8 v10 : Int), Zv Γ Z 14 (QfM Γ Z 1) (K27 v7 v8 v10) D 50 [(0, zr Z 144), (1, zi v1), (2, zi v2), (7, zi v7), (8, zl v8), (10, zi v10)] []) : Zv Γ Z 14 (QfM Γ Z 1) (f_Model_shares_155 v1 v2 v7 v10 s0 K27 D) D 155 [(0, zr Z 144), (1, zi v1), (2, zi v2), (7, zi v7), (10, zi v10)] [zl s0] := by
  unfold f_Model_shares_155
  refine zv_lstore X (lv2 := [(8, zl s0), (0, zr Z 144), (1, zi v1), (2, zi v2), (7, zi v7), (10, zi v10)]) d_Model_shares_155 (by decide) rfl ?_
  refine zv_iinc X (lv2 := [(10, zi (v10 + 1)), (8, zl s0), (0, zr Z 144), (1, zi v1), (2, zi v2), (7, zi v7)]) d_Model_shares_157 5 rfl (by decide) rfl ?_
  refine zv_goto X (tgt := 50) d_Model_shares_160 (by decide) ?_
  refine zv_sub X [2, 3, 4, 5, 1, 0] rfl ?_
  exact hK27 v7 s0 (v10 + 1)
set_option maxRecDepth 100000 in
theorem v_Model_shares_138 {Γ : Gt} {Z : Zt} (X : Cx Γ Z prog_10_method_36_code R_Model 14 (some .int) rm_Model_shares) (hN : 166 ≤ Z.2.2.2.1) (v1 v2 v8 v10 v11 s0 : Int)  (K27 : Int → Int → Int → Option (Int × Mm)) (D : Mm) (hK27 : ∀ (v7 v8 v10 : Int), Zv Γ Z 14 (QfM Γ Z 1) (K27 v7 v8 v10) D 50 [(0, zr Z 144), (1, zi v1), (2, zi v2), (7, zi v7), (8, zl v8), (10, zi v10)] []) : Zv Γ Z 14 (QfM Γ Z 1) (f_Model_shares_138 v1 v2 v8 v10 v11 s0 K27 D) D 138 [(0, zr Z 144), (1, zi v1), (2, zi v2), (8, zl v8), (10, zi v10), (11, zl v11)] [zi s0] := by
  unfold f_Model_shares_138
  refine zv_istore X (lv2 := [(7, zi s0), (0, zr Z 144), (1, zi v1), (2, zi v2), (8, zl v8), (10, zi v10), (11, zl v11)]) d_Model_shares_138 (by decide) rfl ?_
  refine zv_lload X d_Model_shares_140 6 rfl ?_
  refine zv_lload X d_Model_shares_142 4 rfl ?_
  refine zv_lcmp_le X (tgt := 153) d_Model_shares_144 d_Model_shares_145 (by decide) (fun h144 => ?_) (fun h144 => ?_)
  · refine zv_lload X d_Model_shares_153 4 rfl ?_
    refine zv_sub X [1, 2, 3, 0, 5] rfl ?_
    exact v_Model_shares_155 X hN v1 v2 s0 v10 v8 K27 D hK27
  · refine zv_lload X d_Model_shares_148 6 rfl ?_
    refine zv_goto X (tgt := 155) d_Model_shares_150 (by decide) ?_
    refine zv_sub X [1, 2, 3, 0, 5] rfl ?_
    exact v_Model_shares_155 X hN v1 v2 s0 v10 v11 K27 D hK27
set_option maxRecDepth 100000 in
theorem v_Model_shares_63 {Γ : Gt} {Z : Zt} (X : Cx Γ Z prog_10_method_36_code R_Model 14 (some .int) rm_Model_shares) (hN : 166 ≤ Z.2.2.2.1) (v1 v2 v7 v8 v10 : Int)  (K27 : Int → Int → Int → Option (Int × Mm)) (D : Mm)  (hK27 : ∀ (v7 v8 v10 : Int), Zv Γ Z 14 (QfM Γ Z 1) (K27 v7 v8 v10) D 50 [(0, zr Z 144), (1, zi v1), (2, zi v2), (7, zi v7), (8, zl v8), (10, zi v10)] []): ∀ (n : Nat) (v11 v13 : Int) , Zv Γ Z 14 (QfM Γ Z 1) (f_Model_shares_63 v1 v2 v7 v8 v10 K27 D n v11 v13) D 63 [(0, zr Z 144), (1, zi v1), (2, zi v2), (7, zi v7), (8, zl v8), (10, zi v10), (11, zl v11), (13, zi v13)] [] := by
  intro n
  induction n with
  | zero =>
    intro v11 v13
    exact zv_none
  | succ n ih =>
    intro v11 v13
    rw [f_Model_shares_63]
    refine zv_iload X d_Model_shares_63 7 rfl ?_
    refine zv_iconst X d_Model_shares_65 ?_
    refine zv_icmp_ge X (tgt := 123) d_Model_shares_66 (by decide) (fun h66 => ?_) (fun h66 => ?_)
    · refine zv_lload X d_Model_shares_123 6 rfl ?_
      refine zv_lload X d_Model_shares_125 4 rfl ?_
      refine zv_lcmp_le X (tgt := 136) d_Model_shares_127 d_Model_shares_128 (by decide) (fun h127 => ?_) (fun h127 => ?_)
      · refine zv_iload X d_Model_shares_136 3 rfl ?_
        refine zv_sub X [0, 1, 2, 4, 5, 6] rfl ?_
        exact v_Model_shares_138 X hN v1 v2 v8 v10 v11 v7 K27 D hK27
      · refine zv_iload X d_Model_shares_131 5 rfl ?_
        refine zv_goto X (tgt := 138) d_Model_shares_133 (by decide) ?_
        refine zv_sub X [0, 1, 2, 4, 5, 6] rfl ?_
        exact v_Model_shares_138 X hN v1 v2 v8 v10 v11 v10 K27 D hK27
    · refine zv_lload X d_Model_shares_69 6 rfl ?_
      refine zv_iload X d_Model_shares_71 5 rfl ?_
      refine zv_aload_n X d_Model_shares_73 rfl 0 rfl ?_
      refine zv_get X (ci := 7) rfl i_Model (za_144 hN) 3 (by decide) lk_Model_16 rfl rfl d_Model_shares_74 ?_
      refine zv_iconst X d_Model_shares_77 ?_
      refine zv_iload_n X d_Model_shares_78 rfl 1 rfl ?_
      refine zv_imul X d_Model_shares_79 ?_
      refine zv_iload X d_Model_shares_80 7 rfl ?_
      refine zv_iadd X d_Model_shares_82 ?_
      refine zv_iald X (za_147 hN) d_Model_shares_83 (fun ha83 hb83 => ?_)
      refine zv_imul X d_Model_shares_84 ?_
      refine zv_bipush X d_Model_shares_85 (by decide +kernel) ?_
      refine zv_iload X d_Model_shares_87 5 rfl ?_
      refine zv_isub X d_Model_shares_89 ?_
      refine zv_aload_n X d_Model_shares_90 rfl 0 rfl ?_
      refine zv_get X (ci := 7) rfl i_Model (za_144 hN) 3 (by decide) lk_Model_16 rfl rfl d_Model_shares_91 ?_
      refine zv_iconst X d_Model_shares_94 ?_
      refine zv_iload_n X d_Model_shares_95 rfl 2 rfl ?_
      refine zv_imul X d_Model_shares_96 ?_
      refine zv_iload X d_Model_shares_97 7 rfl ?_
      refine zv_iadd X d_Model_shares_99 ?_
      refine zv_iald X (za_147 hN) d_Model_shares_100 (fun ha100 hb100 => ?_)
      refine zv_imul X d_Model_shares_101 ?_
      refine zv_iadd X d_Model_shares_102 ?_
      refine zv_i2l X d_Model_shares_103 ?_
      refine zv_aload_n X d_Model_shares_104 rfl 0 rfl ?_
      refine zv_get X (ci := 7) rfl i_Model (za_144 hN) 22 (by decide) lk_Model_67 rfl rfl d_Model_shares_105 ?_
      refine zv_iload X d_Model_shares_108 7 rfl ?_
      refine zv_iald X (za_164 hN) d_Model_shares_110 (fun ha110 hb110 => ?_)
      refine zv_cSP2 X (av := [zl (wI ((v10 * (D 147 ((4 * v1) + v13))) + ((10 - v10) * (D 147 ((4 * v2) + v13))))), zi (D 164 v13)]) (st := [zl v11]) (c_Model_power Γ.2.1 X.2.2.2.2.2.2.2.1 hN (wI ((v10 * (D 147 ((4 * v1) + v13))) + ((10 - v10) * (D 147 ((4 * v2) + v13))))) (D 164 v13) D) mk_Model_176 ⟨rfl, rfl, Nat.le_of_ble_eq_true rfl, Nat.le_of_ble_eq_true rfl⟩ rfl (Nat.le_of_ble_eq_true rfl) d_Model_shares_111 (fun r1 hr1 => ?_)
      refine zv_lmul X d_Model_shares_114 ?_
      refine zv_lstore X (lv2 := [(11, zl (v11 * r1)), (0, zr Z 144), (1, zi v1), (2, zi v2), (7, zi v7), (8, zl v8), (10, zi v10), (13, zi v13)]) d_Model_shares_115 (by decide) rfl ?_
      refine zv_iinc X (lv2 := [(13, zi (v13 + 1)), (11, zl (v11 * r1)), (0, zr Z 144), (1, zi v1), (2, zi v2), (7, zi v7), (8, zl v8), (10, zi v10)]) d_Model_shares_117 7 rfl (by decide) rfl ?_
      refine zv_goto X (tgt := 63) d_Model_shares_120 (by decide) ?_
      refine zv_sub X [2, 3, 4, 5, 6, 7, 1, 0] rfl ?_
      exact ih (v11 * r1) (v13 + 1)
set_option maxRecDepth 100000 in
theorem v_Model_shares_50 {Γ : Gt} {Z : Zt} (X : Cx Γ Z prog_10_method_36_code R_Model 14 (some .int) rm_Model_shares) (hN : 166 ≤ Z.2.2.2.1) (v1 v2 : Int)   (D : Mm)  : ∀ (n : Nat) (v7 v8 v10 : Int) , Zv Γ Z 14 (QfM Γ Z 1) (f_Model_shares_50 v1 v2 D n v7 v8 v10) D 50 [(0, zr Z 144), (1, zi v1), (2, zi v2), (7, zi v7), (8, zl v8), (10, zi v10)] [] := by
  intro n
  induction n with
  | zero =>
    intro v7 v8 v10
    exact zv_none
  | succ n ih =>
    intro v7 v8 v10
    rw [f_Model_shares_50]
    refine zv_iload X d_Model_shares_50 5 rfl ?_
    refine zv_bipush X d_Model_shares_52 (by decide +kernel) ?_
    refine zv_icmp_gt X (tgt := 163) d_Model_shares_54 (by decide) (fun h54 => ?_) (fun h54 => ?_)
    · refine zv_iload X d_Model_shares_163 3 rfl ?_
      exact zv_iretM X d_Model_shares_165
    · refine zv_lconst X (x := 1) d_Model_shares_57 (by decide +kernel) ?_
      refine zv_lstore X (lv2 := [(11, zl 1), (0, zr Z 144), (1, zi v1), (2, zi v2), (7, zi v7), (8, zl v8), (10, zi v10)]) d_Model_shares_58 (by decide) rfl ?_
      refine zv_iconst X d_Model_shares_60 ?_
      refine zv_istore X (lv2 := [(13, zi 0), (11, zl 1), (0, zr Z 144), (1, zi v1), (2, zi v2), (7, zi v7), (8, zl v8), (10, zi v10)]) d_Model_shares_61 (by decide) rfl ?_
      refine zv_sub X [2, 3, 4, 5, 6, 7, 1, 0] rfl ?_
      exact v_Model_shares_63 X hN v1 v2 v7 v8 v10 (f_Model_shares_50 v1 v2 D n) D ih zF 1 0
set_option maxRecDepth 100000 in
theorem c_Model_shares (l : Launch) {Z : Zt} (hZ : Zok Z) (hN : 166 ≤ Z.2.2.2.1) (v1 v2 v3 v4 v5 v6 : Int)  (D : Mm) : CtM l Z y_Model_shares prog_10_method_36_code 14 (some .int) rm_Model_shares 1 [zr Z 144, zi v1, zi v2, zi v3, zi v4, zi v5, zi v6] D (f_Model_shares v1 v2 v3 v4 v5 v6 D) := by
  refine zm_M (lv := [(0, zr Z 144), (1, zi v1), (2, zi v2), (3, zi v3), (4, zi v4), (5, zi v5), (6, zi v6)]) hZ (by decide +kernel) rfl (Nat.le_of_ble_eq_true rfl) rfl (fun Γ hl X => ?_)
  subst hl
  unfold f_Model_shares
  refine zv_aload_n X d_Model_shares_0 rfl 0 rfl ?_
  refine zv_iload_n X d_Model_shares_1 rfl 1 rfl ?_
  refine zv_cVP1 X (av := [zi v1]) (st := []) (ci := 7) (c_Model_isSort Γ.2.1 X.2.2.2.2.2.2.2.1 hN v1 D) mk_Model_144 rfl (za_144 hN) ⟨rfl, rfl, Nat.le_of_ble_eq_true rfl, Nat.le_of_ble_eq_true rfl⟩ rfl (Nat.le_of_ble_eq_true rfl) d_Model_shares_2 (fun r1 hr1 => ?_)
  refine zv_if_eq X (y := 0) (tgt := 37) d_Model_shares_5 (by decide) (fun h5 => ?_) (fun h5 => ?_)
  · refine zv_iconst X d_Model_shares_37 ?_
    exact zv_iretM X d_Model_shares_38
  · refine zv_aload_n X d_Model_shares_8 rfl 0 rfl ?_
    refine zv_iload_n X d_Model_shares_9 rfl 2 rfl ?_
    refine zv_cVP1 X (av := [zi v2]) (st := []) (ci := 7) (c_Model_isSort Γ.2.1 X.2.2.2.2.2.2.2.1 hN v2 D) mk_Model_144 rfl (za_144 hN) ⟨rfl, rfl, Nat.le_of_ble_eq_true rfl, Nat.le_of_ble_eq_true rfl⟩ rfl (Nat.le_of_ble_eq_true rfl) d_Model_shares_10 (fun r2 hr2 => ?_)
    refine zv_if_eq X (y := 0) (tgt := 37) d_Model_shares_13 (by decide) (fun h13 => ?_) (fun h13 => ?_)
    · refine zv_iconst X d_Model_shares_37 ?_
      exact zv_iretM X d_Model_shares_38
    · refine zv_iload_n X d_Model_shares_16 rfl 1 rfl ?_
      refine zv_iload_n X d_Model_shares_17 rfl 2 rfl ?_
      refine zv_icmp_eq X (tgt := 37) d_Model_shares_18 (by decide) (fun h18 => ?_) (fun h18 => ?_)
      · refine zv_iconst X d_Model_shares_37 ?_
        exact zv_iretM X d_Model_shares_38
      · refine zv_aload_n X d_Model_shares_21 rfl 0 rfl ?_
        refine zv_iload_n X d_Model_shares_22 rfl 3 rfl ?_
        refine zv_iload X d_Model_shares_23 4 rfl ?_
        refine zv_iload X d_Model_shares_25 5 rfl ?_
        refine zv_iload X d_Model_shares_27 6 rfl ?_
        refine zv_bipush X d_Model_shares_29 (by decide +kernel) ?_
        refine zv_cVM1 X (av := [zi v3, zi v4, zi v5, zi v6, zi 6]) (st := []) (ci := 7) (c_Model_isHeap Γ.2.1 X.2.2.2.2.2.2.2.1 hN v3 v4 v5 v6 6 D) mk_Model_190 rfl (za_144 hN) ⟨rfl, rfl, Nat.le_of_ble_eq_true rfl, Nat.le_of_ble_eq_true rfl⟩ rfl (Nat.le_of_ble_eq_true rfl) d_Model_shares_31 (fun r3 D4 hr3 => ?_)
        refine zv_if_ne X (y := 0) (tgt := 39) d_Model_shares_34 (by decide) (fun h34 => ?_) (fun h34 => ?_)
        · refine zv_iconst X d_Model_shares_39 ?_
          refine zv_istore X (lv2 := [(7, zi 0), (0, zr Z 144), (1, zi v1), (2, zi v2), (3, zi v3), (4, zi v4), (5, zi v5), (6, zi v6)]) d_Model_shares_40 (by decide) rfl ?_
          refine zv_ldc2 X (-1) kc_Model_147 (by decide +kernel) d_Model_shares_42 ?_
          refine zv_lstore X (lv2 := [(8, zl (-1)), (7, zi 0), (0, zr Z 144), (1, zi v1), (2, zi v2), (3, zi v3), (4, zi v4), (5, zi v5), (6, zi v6)]) d_Model_shares_45 (by decide) rfl ?_
          refine zv_iconst X d_Model_shares_47 ?_
          refine zv_istore X (lv2 := [(10, zi 0), (8, zl (-1)), (7, zi 0), (0, zr Z 144), (1, zi v1), (2, zi v2), (3, zi v3), (4, zi v4), (5, zi v5), (6, zi v6)]) d_Model_shares_48 (by decide) rfl ?_
          refine zv_sub X [3, 4, 5, 2, 1, 0] rfl ?_
          exact v_Model_shares_50 X hN v1 v2 D4 zF 0 (-1) 0
        · refine zv_iconst X d_Model_shares_37 ?_
          exact zv_iretM X d_Model_shares_38
set_option maxRecDepth 100000 in
theorem v_Model_apart_43 {Γ : Gt} {Z : Zt} (X : Cx Γ Z prog_10_method_37_code R_Model 6 (some .int) rm_Model_apart) (hN : 166 ≤ Z.2.2.2.1) (v1 v2 v4 s0 s1 : Int) (hv2 : Zin Z v2 0 4) (K4 : Int → Int → Option (Int)) (D : Mm) (hK4 : ∀ (v3 v4 : Int), Zv Γ Z 6 (QfP Γ Z 1 D) (K4 v3 v4) D 5 [(0, zr Z 144), (1, zi v1), (2, zr Z v2), (3, zi v3), (4, zi v4)] []) : Zv Γ Z 6 (QfP Γ Z 1 D) (f_Model_apart_43 v1 v2 v4 s0 s1 K4 D) D 43 [(0, zr Z 144), (1, zi v1), (2, zr Z v2), (4, zi v4)] [zi s0, zi s1] := by
  unfold f_Model_apart_43
  refine zv_iadd X d_Model_apart_43 ?_
  refine zv_istore_n X (lv2 := [(3, zi (s1 + s0)), (0, zr Z 144), (1, zi v1), (2, zr Z v2), (4, zi v4)]) d_Model_apart_44 rfl (by decide) rfl ?_
  refine zv_iinc X (lv2 := [(4, zi (v4 + 1)), (3, zi (s1 + s0)), (0, zr Z 144), (1, zi v1), (2, zr Z v2)]) d_Model_apart_45 4 rfl (by decide) rfl ?_
  refine zv_goto X (tgt := 5) d_Model_apart_48 (by decide) ?_
  refine zv_sub X [2, 3, 4, 1, 0] rfl ?_
  exact hK4 (s1 + s0) (v4 + 1)
set_option maxRecDepth 100000 in
theorem v_Model_apart_5 {Γ : Gt} {Z : Zt} (X : Cx Γ Z prog_10_method_37_code R_Model 6 (some .int) rm_Model_apart) (hN : 166 ≤ Z.2.2.2.1) (v1 v2 : Int) (hv2 : Zin Z v2 0 4)  (D : Mm)  : ∀ (n : Nat) (v3 v4 : Int) , Zv Γ Z 6 (QfP Γ Z 1 D) (f_Model_apart_5 v1 v2 D n v3 v4) D 5 [(0, zr Z 144), (1, zi v1), (2, zr Z v2), (3, zi v3), (4, zi v4)] [] := by
  intro n
  induction n with
  | zero =>
    intro v3 v4
    exact zv_none
  | succ n ih =>
    intro v3 v4
    rw [f_Model_apart_5]
    refine zv_iload X d_Model_apart_5 4 rfl ?_
    refine zv_iconst X d_Model_apart_7 ?_
    refine zv_icmp_ge X (tgt := 51) d_Model_apart_8 (by decide) (fun h8 => ?_) (fun h8 => ?_)
    · refine zv_iload_n X d_Model_apart_51 rfl 3 rfl ?_
      exact zv_iretP X d_Model_apart_52
    · refine zv_aload_n X d_Model_apart_11 rfl 0 rfl ?_
      refine zv_get X (ci := 7) rfl i_Model (za_144 hN) 3 (by decide) lk_Model_16 rfl rfl d_Model_apart_12 ?_
      refine zv_iconst X d_Model_apart_15 ?_
      refine zv_iload_n X d_Model_apart_16 rfl 1 rfl ?_
      refine zv_imul X d_Model_apart_17 ?_
      refine zv_iload X d_Model_apart_18 4 rfl ?_
      refine zv_iadd X d_Model_apart_20 ?_
      refine zv_iald X (za_147 hN) d_Model_apart_21 (fun ha21 hb21 => ?_)
      refine zv_aload_n X d_Model_apart_22 rfl 2 rfl ?_
      refine zv_iload X d_Model_apart_23 4 rfl ?_
      refine zv_iald X hv2 d_Model_apart_25 (fun ha25 hb25 => ?_)
      refine zv_isub X d_Model_apart_26 ?_
      refine zv_istore X (lv2 := [(5, zi ((D 147 ((4 * v1) + v4)) - (D v2 v4))), (0, zr Z 144), (1, zi v1), (2, zr Z v2), (3, zi v3), (4, zi v4)]) d_Model_apart_27 (by decide) rfl ?_
      refine zv_iload_n X d_Model_apart_29 rfl 4 rfl ?_
      refine zv_iload X d_Model_apart_30 0 rfl ?_
      refine zv_if_ge X (y := 0) (tgt := 41) d_Model_apart_32 (by decide) (fun h32 => ?_) (fun h32 => ?_)
      · refine zv_iload X d_Model_apart_41 0 rfl ?_
        refine zv_sub X [1, 2, 3, 5] rfl ?_
        exact v_Model_apart_43 X hN v1 v2 v4 ((D 147 ((4 * v1) + v4)) - (D v2 v4)) v3 hv2 (f_Model_apart_5 v1 v2 D n) D ih
      · refine zv_iload X d_Model_apart_35 0 rfl ?_
        refine zv_ineg X d_Model_apart_37 ?_
        refine zv_goto X (tgt := 43) d_Model_apart_38 (by decide) ?_
        refine zv_sub X [1, 2, 3, 5] rfl ?_
        exact v_Model_apart_43 X hN v1 v2 v4 (-((D 147 ((4 * v1) + v4)) - (D v2 v4))) v3 hv2 (f_Model_apart_5 v1 v2 D n) D ih
set_option maxRecDepth 100000 in
theorem c_Model_apart (l : Launch) {Z : Zt} (hZ : Zok Z) (hN : 166 ≤ Z.2.2.2.1) (v1 v2 : Int) (hv2 : Zin Z v2 0 4) (D : Mm) : CtP l Z y_Model_apart prog_10_method_37_code 6 (some .int) rm_Model_apart 1 [zr Z 144, zi v1, zr Z v2] D (f_Model_apart v1 v2 D) := by
  refine zm_P (lv := [(0, zr Z 144), (1, zi v1), (2, zr Z v2)]) hZ (by decide +kernel) rfl (Nat.le_of_ble_eq_true rfl) rfl (fun Γ hl X => ?_)
  subst hl
  unfold f_Model_apart
  refine zv_iconst X d_Model_apart_0 ?_
  refine zv_istore_n X (lv2 := [(3, zi 0), (0, zr Z 144), (1, zi v1), (2, zr Z v2)]) d_Model_apart_1 rfl (by decide) rfl ?_
  refine zv_iconst X d_Model_apart_2 ?_
  refine zv_istore X (lv2 := [(4, zi 0), (3, zi 0), (0, zr Z 144), (1, zi v1), (2, zr Z v2)]) d_Model_apart_3 (by decide) rfl ?_
  refine zv_sub X [2, 3, 4, 1, 0] rfl ?_
  exact v_Model_apart_5 X hN v1 v2 hv2 D zF 0 0
set_option maxRecDepth 100000 in
theorem v_Model_areNear_3 {Γ : Gt} {Z : Zt} (X : Cx Γ Z prog_10_method_38_code R_Model 5 (some .boolean) rm_Model_areNear) (hN : 166 ≤ Z.2.2.2.1) (v1 v2 v3 : Int)    : ∀ (n : Nat) (v4 : Int) (D : Mm), Zv Γ Z 5 (QfM Γ Z 1) (f_Model_areNear_3 v1 v2 v3 n v4 D) D 3 [(0, zr Z 144), (1, zi v1), (2, zi v2), (3, zi v3), (4, zi v4)] [] := by
  intro n
  induction n with
  | zero =>
    intro v4 D
    exact zv_none
  | succ n ih =>
    intro v4 D
    rw [f_Model_areNear_3]
    refine zv_iload X d_Model_areNear_3 4 rfl ?_
    refine zv_iconst X d_Model_areNear_5 ?_
    refine zv_icmp_ge X (tgt := 33) d_Model_areNear_6 (by decide) (fun h6 => ?_) (fun h6 => ?_)
    · refine zv_aload_n X d_Model_areNear_33 rfl 0 rfl ?_
      refine zv_iload_n X d_Model_areNear_34 rfl 1 rfl ?_
      refine zv_aload_n X d_Model_areNear_35 rfl 0 rfl ?_
      refine zv_get X (ci := 7) rfl i_Model (za_144 hN) 24 (by decide) lk_Model_73 rfl rfl d_Model_areNear_36 ?_
      refine zv_cVP1 X (av := [zi v1, zr Z 166]) (st := []) (ci := 7) (c_Model_apart Γ.2.1 X.2.2.2.2.2.2.2.1 hN v1 166 (za_166 hN) D) mk_Model_200 rfl (za_144 hN) ⟨rfl, rfl, Nat.le_of_ble_eq_true rfl, Nat.le_of_ble_eq_true rfl⟩ rfl (Nat.le_of_ble_eq_true rfl) d_Model_areNear_39 (fun r1 hr1 => ?_)
      refine zv_iload_n X d_Model_areNear_42 rfl 3 rfl ?_
      refine zv_icmp_gt X (tgt := 50) d_Model_areNear_43 (by decide) (fun h43 => ?_) (fun h43 => ?_)
      · refine zv_iconst X d_Model_areNear_50 ?_
        exact zv_zretMK X (Or.inl rfl) d_Model_areNear_51
      · refine zv_iconst X d_Model_areNear_46 ?_
        refine zv_goto X (tgt := 51) d_Model_areNear_47 (by decide) ?_
        exact zv_zretMK X (Or.inr rfl) d_Model_areNear_51
    · refine zv_aload_n X d_Model_areNear_9 rfl 0 rfl ?_
      refine zv_get X (ci := 7) rfl i_Model (za_144 hN) 24 (by decide) lk_Model_73 rfl rfl d_Model_areNear_10 ?_
      refine zv_iload X d_Model_areNear_13 4 rfl ?_
      refine zv_aload_n X d_Model_areNear_15 rfl 0 rfl ?_
      refine zv_get X (ci := 7) rfl i_Model (za_144 hN) 3 (by decide) lk_Model_16 rfl rfl d_Model_areNear_16 ?_
      refine zv_iconst X d_Model_areNear_19 ?_
      refine zv_iload_n X d_Model_areNear_20 rfl 2 rfl ?_
      refine zv_imul X d_Model_areNear_21 ?_
      refine zv_iload X d_Model_areNear_22 4 rfl ?_
      refine zv_iadd X d_Model_areNear_24 ?_
      refine zv_iald X (za_147 hN) d_Model_areNear_25 (fun ha25 hb25 => ?_)
      refine zv_iastC X (za_166 hN) d_Model_areNear_26 (fun ha26 hb26 D2 => ?_)
      refine zv_iinc X (lv2 := [(4, zi (v4 + 1)), (0, zr Z 144), (1, zi v1), (2, zi v2), (3, zi v3)]) d_Model_areNear_27 4 rfl (by decide) rfl ?_
      refine zv_goto X (tgt := 3) d_Model_areNear_30 (by decide) ?_
      refine zv_sub X [1, 2, 3, 4, 0] rfl ?_
      exact ih (v4 + 1) D2
set_option maxRecDepth 100000 in
theorem c_Model_areNear (l : Launch) {Z : Zt} (hZ : Zok Z) (hN : 166 ≤ Z.2.2.2.1) (v1 v2 v3 : Int)  (D : Mm) : CtM l Z y_Model_areNear prog_10_method_38_code 5 (some .boolean) rm_Model_areNear 1 [zr Z 144, zi v1, zi v2, zi v3] D (f_Model_areNear v1 v2 v3 D) := by
  refine zm_M (lv := [(0, zr Z 144), (1, zi v1), (2, zi v2), (3, zi v3)]) hZ (by decide +kernel) rfl (Nat.le_of_ble_eq_true rfl) rfl (fun Γ hl X => ?_)
  subst hl
  unfold f_Model_areNear
  refine zv_iconst X d_Model_areNear_0 ?_
  refine zv_istore X (lv2 := [(4, zi 0), (0, zr Z 144), (1, zi v1), (2, zi v2), (3, zi v3)]) d_Model_areNear_1 (by decide) rfl ?_
  refine zv_sub X [1, 2, 3, 4, 0] rfl ?_
  exact v_Model_areNear_3 X hN v1 v2 v3 zF 0 D
set_option maxRecDepth 100000 in
theorem v_Model_kin_204 {Γ : Gt} {Z : Zt} (X : Cx Γ Z prog_10_method_39_code R_Model 6 (some .int) rm_Model_kin) (hN : 166 ≤ Z.2.2.2.1) (v4 s0 s1 : Int)  (K96 : Int → Int → Option (Int × Mm)) (D : Mm) (hK96 : ∀ (v3 v4 : Int), Zv Γ Z 6 (QfM Γ Z 1) (K96 v3 v4) D 175 [(0, zr Z 144), (3, zi v3), (4, zi v4)] []) : Zv Γ Z 6 (QfM Γ Z 1) (f_Model_kin_204 v4 s0 s1 K96 D) D 204 [(0, zr Z 144), (4, zi v4)] [zi s0, zi s1] := by
  unfold f_Model_kin_204
  refine zv_iadd X d_Model_kin_204 ?_
  refine zv_istore_n X (lv2 := [(3, zi (s1 + s0)), (0, zr Z 144), (4, zi v4)]) d_Model_kin_205 rfl (by decide) rfl ?_
  refine zv_iinc X (lv2 := [(4, zi (v4 + 1)), (3, zi (s1 + s0)), (0, zr Z 144)]) d_Model_kin_206 2 rfl (by decide) rfl ?_
  refine zv_goto X (tgt := 175) d_Model_kin_209 (by decide) ?_
  refine zv_sub X [2, 1, 0] rfl ?_
  exact hK96 (s1 + s0) (v4 + 1)
set_option maxRecDepth 100000 in
theorem v_Model_kin_175 {Γ : Gt} {Z : Zt} (X : Cx Γ Z prog_10_method_39_code R_Model 6 (some .int) rm_Model_kin) (hN : 166 ≤ Z.2.2.2.1)   (D : Mm)  : ∀ (n : Nat) (v3 v4 : Int) , Zv Γ Z 6 (QfM Γ Z 1) (f_Model_kin_175 D n v3 v4) D 175 [(0, zr Z 144), (3, zi v3), (4, zi v4)] [] := by
  intro n
  induction n with
  | zero =>
    intro v3 v4
    exact zv_none
  | succ n ih =>
    intro v3 v4
    rw [f_Model_kin_175]
    refine zv_iload X d_Model_kin_175 2 rfl ?_
    refine zv_aload_n X d_Model_kin_177 rfl 0 rfl ?_
    refine zv_get X (ci := 7) rfl i_Model (za_144 hN) 2 (by decide) lk_Model_13 rfl rfl d_Model_kin_178 ?_
    refine zv_iconst X d_Model_kin_181 ?_
    refine zv_ialdK X (za_146 hN) (by decide) (by decide) d_Model_kin_182 ?_
    refine zv_icmp_ge X (tgt := 212) d_Model_kin_183 (by decide) (fun h183 => ?_) (fun h183 => ?_)
    · refine zv_iload_n X d_Model_kin_212 rfl 1 rfl ?_
      exact zv_iretM X d_Model_kin_213
    · refine zv_iload_n X d_Model_kin_186 rfl 1 rfl ?_
      refine zv_aload_n X d_Model_kin_187 rfl 0 rfl ?_
      refine zv_get X (ci := 7) rfl i_Model (za_144 hN) 23 (by decide) lk_Model_70 rfl rfl d_Model_kin_188 ?_
      refine zv_iload X d_Model_kin_191 2 rfl ?_
      refine zv_iald X (za_165 hN) d_Model_kin_193 (fun ha193 hb193 => ?_)
      refine zv_iload X d_Model_kin_194 2 rfl ?_
      refine zv_icmp_ne X (tgt := 203) d_Model_kin_196 (by decide) (fun h196 => ?_) (fun h196 => ?_)
      · refine zv_iconst X d_Model_kin_203 ?_
        refine zv_sub X [0, 2] rfl ?_
        exact v_Model_kin_204 X hN v4 0 v3 (f_Model_kin_175 D n) D ih
      · refine zv_iconst X d_Model_kin_199 ?_
        refine zv_goto X (tgt := 204) d_Model_kin_200 (by decide) ?_
        refine zv_sub X [0, 2] rfl ?_
        exact v_Model_kin_204 X hN v4 1 v3 (f_Model_kin_175 D n) D ih
set_option maxRecDepth 100000 in
theorem v_Model_kin_140 {Γ : Gt} {Z : Zt} (X : Cx Γ Z prog_10_method_39_code R_Model 6 (some .int) rm_Model_kin) (hN : 166 ≤ Z.2.2.2.1) (v1 v2 v3 v4 v5 s0 s1 : Int)  (K45 : Int → Mm → Option (Int × Mm)) (D : Mm) (hK45 : ∀ (v5 : Int) (D : Mm), Zv Γ Z 6 (QfM Γ Z 1) (K45 v5 D) D 77 [(0, zr Z 144), (1, zi v1), (2, zi v2), (3, zi v3), (4, zi v4), (5, zi v5)] []) : Zv Γ Z 6 (QfM Γ Z 1) (f_Model_kin_140 v1 v2 v3 v4 v5 s0 s1 K45 D) D 140 [(0, zr Z 144), (1, zi v1), (2, zi v2), (3, zi v3), (4, zi v4), (5, zi v5)] [zi s0, zi s1, zr Z 165] := by
  unfold f_Model_kin_140
  refine zv_iastC X (za_165 hN) d_Model_kin_140 (fun ha140 hb140 D1 => ?_)
  refine zv_iinc X (lv2 := [(5, zi (v5 + 1)), (0, zr Z 144), (1, zi v1), (2, zi v2), (3, zi v3), (4, zi v4)]) d_Model_kin_141 5 rfl (by decide) rfl ?_
  refine zv_goto X (tgt := 77) d_Model_kin_144 (by decide) ?_
  refine zv_sub X [1, 2, 3, 4, 5, 0] rfl ?_
  exact hK45 (v5 + 1) D1
set_option maxRecDepth 100000 in
theorem v_Model_kin_133 {Γ : Gt} {Z : Zt} (X : Cx Γ Z prog_10_method_39_code R_Model 6 (some .int) rm_Model_kin) (hN : 166 ≤ Z.2.2.2.1) (v1 v2 v3 v4 v5 s0 : Int)  (K45 : Int → Mm → Option (Int × Mm)) (D : Mm) (hK45 : ∀ (v5 : Int) (D : Mm), Zv Γ Z 6 (QfM Γ Z 1) (K45 v5 D) D 77 [(0, zr Z 144), (1, zi v1), (2, zi v2), (3, zi v3), (4, zi v4), (5, zi v5)] []) : Zv Γ Z 6 (QfM Γ Z 1) (f_Model_kin_133 v1 v2 v3 v4 v5 s0 K45 D) D 133 [(0, zr Z 144), (1, zi v1), (2, zi v2), (3, zi v3), (4, zi v4), (5, zi v5)] [zi s0, zr Z 165] := by
  unfold f_Model_kin_133
  refine zv_aload_n X d_Model_kin_133 rfl 0 rfl ?_
  refine zv_get X (ci := 7) rfl i_Model (za_144 hN) 23 (by decide) lk_Model_70 rfl rfl d_Model_kin_134 ?_
  refine zv_iload X d_Model_kin_137 4 rfl ?_
  refine zv_iald X (za_165 hN) d_Model_kin_139 (fun ha139 hb139 => ?_)
  exact v_Model_kin_140 X hN v1 v2 v3 v4 v5 (D 165 v4) s0 K45 D hK45
set_option maxRecDepth 100000 in
theorem v_Model_kin_77 {Γ : Gt} {Z : Zt} (X : Cx Γ Z prog_10_method_39_code R_Model 6 (some .int) rm_Model_kin) (hN : 166 ≤ Z.2.2.2.1) (v1 v2 v3 v4 : Int)  (K37 : Int → Mm → Option (Int × Mm))  (hK37 : ∀ (v4 : Int) (D : Mm), Zv Γ Z 6 (QfM Γ Z 1) (K37 v4 D) D 63 [(0, zr Z 144), (1, zi v1), (2, zi v2), (3, zi v3), (4, zi v4)] []): ∀ (n : Nat) (v5 : Int) (D : Mm), Zv Γ Z 6 (QfM Γ Z 1) (f_Model_kin_77 v1 v2 v3 v4 K37 n v5 D) D 77 [(0, zr Z 144), (1, zi v1), (2, zi v2), (3, zi v3), (4, zi v4), (5, zi v5)] [] := by
  intro n
  induction n with
  | zero =>
    intro v5 D
    exact zv_none
  | succ n ih =>
    intro v5 D
    rw [f_Model_kin_77]
    refine zv_iload X d_Model_kin_77 5 rfl ?_
    refine zv_aload_n X d_Model_kin_79 rfl 0 rfl ?_
    refine zv_get X (ci := 7) rfl i_Model (za_144 hN) 2 (by decide) lk_Model_13 rfl rfl d_Model_kin_80 ?_
    refine zv_iconst X d_Model_kin_83 ?_
    refine zv_ialdK X (za_146 hN) (by decide) (by decide) d_Model_kin_84 ?_
    refine zv_icmp_ge X (tgt := 147) d_Model_kin_85 (by decide) (fun h85 => ?_) (fun h85 => ?_)
    · refine zv_iinc X (lv2 := [(4, zi (v4 + 1)), (0, zr Z 144), (1, zi v1), (2, zi v2), (3, zi v3), (5, zi v5)]) d_Model_kin_147 4 rfl (by decide) rfl ?_
      refine zv_goto X (tgt := 63) d_Model_kin_150 (by decide) ?_
      refine zv_sub X [1, 2, 3, 4, 0] rfl ?_
      exact hK37 (v4 + 1) D
    · refine zv_aload_n X d_Model_kin_88 rfl 0 rfl ?_
      refine zv_get X (ci := 7) rfl i_Model (za_144 hN) 23 (by decide) lk_Model_70 rfl rfl d_Model_kin_89 ?_
      refine zv_iload X d_Model_kin_92 4 rfl ?_
      refine zv_aload_n X d_Model_kin_94 rfl 0 rfl ?_
      refine zv_iload X d_Model_kin_95 4 rfl ?_
      refine zv_iload X d_Model_kin_97 5 rfl ?_
      refine zv_iload_n X d_Model_kin_99 rfl 1 rfl ?_
      refine zv_cVM1 X (av := [zi v4, zi v5, zi v1]) (st := [zi v4, zr Z 165]) (ci := 7) (c_Model_areNear Γ.2.1 X.2.2.2.2.2.2.2.1 hN v4 v5 v1 D) mk_Model_206 rfl (za_144 hN) ⟨rfl, rfl, Nat.le_of_ble_eq_true rfl, Nat.le_of_ble_eq_true rfl⟩ rfl (Nat.le_of_ble_eq_true rfl) d_Model_kin_100 (fun r1 D2 hr1 => ?_)
      refine zv_if_eq X (y := 0) (tgt := 133) d_Model_kin_103 (by decide) (fun h103 => ?_) (fun h103 => ?_)
      · exact v_Model_kin_133 X hN v1 v2 v3 v4 v5 v4 (f_Model_kin_77 v1 v2 v3 v4 K37 n) D2 ih
      · refine zv_aload_n X d_Model_kin_106 rfl 0 rfl ?_
        refine zv_get X (ci := 7) rfl i_Model (za_144 hN) 23 (by decide) lk_Model_70 rfl rfl d_Model_kin_107 ?_
        refine zv_iload X d_Model_kin_110 5 rfl ?_
        refine zv_iald X (za_165 hN) d_Model_kin_112 (fun ha112 hb112 => ?_)
        refine zv_aload_n X d_Model_kin_113 rfl 0 rfl ?_
        refine zv_get X (ci := 7) rfl i_Model (za_144 hN) 23 (by decide) lk_Model_70 rfl rfl d_Model_kin_114 ?_
        refine zv_iload X d_Model_kin_117 4 rfl ?_
        refine zv_iald X (za_165 hN) d_Model_kin_119 (fun ha119 hb119 => ?_)
        refine zv_icmp_ge X (tgt := 133) d_Model_kin_120 (by decide) (fun h120 => ?_) (fun h120 => ?_)
        · exact v_Model_kin_133 X hN v1 v2 v3 v4 v5 v4 (f_Model_kin_77 v1 v2 v3 v4 K37 n) D2 ih
        · refine zv_aload_n X d_Model_kin_123 rfl 0 rfl ?_
          refine zv_get X (ci := 7) rfl i_Model (za_144 hN) 23 (by decide) lk_Model_70 rfl rfl d_Model_kin_124 ?_
          refine zv_iload X d_Model_kin_127 5 rfl ?_
          refine zv_iald X (za_165 hN) d_Model_kin_129 (fun ha129 hb129 => ?_)
          refine zv_goto X (tgt := 140) d_Model_kin_130 (by decide) ?_
          exact v_Model_kin_140 X hN v1 v2 v3 v4 v5 (D2 165 v5) v4 (f_Model_kin_77 v1 v2 v3 v4 K37 n) D2 ih
set_option maxRecDepth 100000 in
theorem v_Model_kin_63 {Γ : Gt} {Z : Zt} (X : Cx Γ Z prog_10_method_39_code R_Model 6 (some .int) rm_Model_kin) (hN : 166 ≤ Z.2.2.2.1) (v1 v2 v3 : Int)  (K32 : Int → Mm → Option (Int × Mm))  (hK32 : ∀ (v3 : Int) (D : Mm), Zv Γ Z 6 (QfM Γ Z 1) (K32 v3 D) D 54 [(0, zr Z 144), (1, zi v1), (2, zi v2), (3, zi v3)] []): ∀ (n : Nat) (v4 : Int) (D : Mm), Zv Γ Z 6 (QfM Γ Z 1) (f_Model_kin_63 v1 v2 v3 K32 n v4 D) D 63 [(0, zr Z 144), (1, zi v1), (2, zi v2), (3, zi v3), (4, zi v4)] [] := by
  intro n
  induction n with
  | zero =>
    intro v4 D
    exact zv_none
  | succ n ih =>
    intro v4 D
    rw [f_Model_kin_63]
    refine zv_iload X d_Model_kin_63 4 rfl ?_
    refine zv_aload_n X d_Model_kin_65 rfl 0 rfl ?_
    refine zv_get X (ci := 7) rfl i_Model (za_144 hN) 2 (by decide) lk_Model_13 rfl rfl d_Model_kin_66 ?_
    refine zv_iconst X d_Model_kin_69 ?_
    refine zv_ialdK X (za_146 hN) (by decide) (by decide) d_Model_kin_70 ?_
    refine zv_icmp_ge X (tgt := 153) d_Model_kin_71 (by decide) (fun h71 => ?_) (fun h71 => ?_)
    · refine zv_iinc X (lv2 := [(3, zi (v3 + 1)), (0, zr Z 144), (1, zi v1), (2, zi v2), (4, zi v4)]) d_Model_kin_153 3 rfl (by decide) rfl ?_
      refine zv_goto X (tgt := 54) d_Model_kin_156 (by decide) ?_
      refine zv_sub X [1, 2, 3, 0] rfl ?_
      exact hK32 (v3 + 1) D
    · refine zv_iconst X d_Model_kin_74 ?_
      refine zv_istore X (lv2 := [(5, zi 0), (0, zr Z 144), (1, zi v1), (2, zi v2), (3, zi v3), (4, zi v4)]) d_Model_kin_75 (by decide) rfl ?_
      refine zv_sub X [1, 2, 3, 4, 5, 0] rfl ?_
      exact v_Model_kin_77 X hN v1 v2 v3 v4 (f_Model_kin_63 v1 v2 v3 K32 n) ih zF 0 D
set_option maxRecDepth 100000 in
theorem v_Model_kin_54 {Γ : Gt} {Z : Zt} (X : Cx Γ Z prog_10_method_39_code R_Model 6 (some .int) rm_Model_kin) (hN : 166 ≤ Z.2.2.2.1) (v1 v2 : Int)    : ∀ (n : Nat) (v3 : Int) (D : Mm), Zv Γ Z 6 (QfM Γ Z 1) (f_Model_kin_54 v1 v2 n v3 D) D 54 [(0, zr Z 144), (1, zi v1), (2, zi v2), (3, zi v3)] [] := by
  intro n
  induction n with
  | zero =>
    intro v3 D
    exact zv_none
  | succ n ih =>
    intro v3 D
    rw [f_Model_kin_54]
    refine zv_iload_n X d_Model_kin_54 rfl 3 rfl ?_
    refine zv_bipush X d_Model_kin_55 (by decide +kernel) ?_
    refine zv_icmp_ge X (tgt := 159) d_Model_kin_57 (by decide) (fun h57 => ?_) (fun h57 => ?_)
    · refine zv_iload_n X d_Model_kin_159 rfl 2 rfl ?_
      refine zv_if_lt X (y := 0) (tgt := 170) d_Model_kin_160 (by decide) (fun h160 => ?_) (fun h160 => ?_)
      · refine zv_iconst X d_Model_kin_170 ?_
        refine zv_istore_n X (lv2 := [(3, zi 0), (0, zr Z 144), (1, zi v1), (2, zi v2)]) d_Model_kin_171 rfl (by decide) rfl ?_
        refine zv_iconst X d_Model_kin_172 ?_
        refine zv_istore X (lv2 := [(4, zi 0), (3, zi 0), (0, zr Z 144), (1, zi v1), (2, zi v2)]) d_Model_kin_173 (by decide) rfl ?_
        refine zv_sub X [2, 1, 0] rfl ?_
        exact v_Model_kin_175 X hN D zF 0 0
      · refine zv_aload_n X d_Model_kin_163 rfl 0 rfl ?_
        refine zv_get X (ci := 7) rfl i_Model (za_144 hN) 23 (by decide) lk_Model_70 rfl rfl d_Model_kin_164 ?_
        refine zv_iload_n X d_Model_kin_167 rfl 2 rfl ?_
        refine zv_iald X (za_165 hN) d_Model_kin_168 (fun ha168 hb168 => ?_)
        exact zv_iretM X d_Model_kin_169
    · refine zv_iconst X d_Model_kin_60 ?_
      refine zv_istore X (lv2 := [(4, zi 0), (0, zr Z 144), (1, zi v1), (2, zi v2), (3, zi v3)]) d_Model_kin_61 (by decide) rfl ?_
      refine zv_sub X [1, 2, 3, 4, 0] rfl ?_
      exact v_Model_kin_63 X hN v1 v2 v3 (f_Model_kin_54 v1 v2 n) ih zF 0 D
set_option maxRecDepth 100000 in
theorem v_Model_kin_29 {Γ : Gt} {Z : Zt} (X : Cx Γ Z prog_10_method_39_code R_Model 6 (some .int) rm_Model_kin) (hN : 166 ≤ Z.2.2.2.1) (v1 v2 : Int)    : ∀ (n : Nat) (v3 : Int) (D : Mm), Zv Γ Z 6 (QfM Γ Z 1) (f_Model_kin_29 v1 v2 n v3 D) D 29 [(0, zr Z 144), (1, zi v1), (2, zi v2), (3, zi v3)] [] := by
  intro n
  induction n with
  | zero =>
    intro v3 D
    exact zv_none
  | succ n ih =>
    intro v3 D
    rw [f_Model_kin_29]
    refine zv_iload_n X d_Model_kin_29 rfl 3 rfl ?_
    refine zv_aload_n X d_Model_kin_30 rfl 0 rfl ?_
    refine zv_get X (ci := 7) rfl i_Model (za_144 hN) 2 (by decide) lk_Model_13 rfl rfl d_Model_kin_31 ?_
    refine zv_iconst X d_Model_kin_34 ?_
    refine zv_ialdK X (za_146 hN) (by decide) (by decide) d_Model_kin_35 ?_
    refine zv_icmp_ge X (tgt := 52) d_Model_kin_36 (by decide) (fun h36 => ?_) (fun h36 => ?_)
    · refine zv_iconst X d_Model_kin_52 ?_
      refine zv_istore_n X (lv2 := [(3, zi 0), (0, zr Z 144), (1, zi v1), (2, zi v2)]) d_Model_kin_53 rfl (by decide) rfl ?_
      refine zv_sub X [1, 2, 3, 0] rfl ?_
      exact v_Model_kin_54 X hN v1 v2 zF 0 D
    · refine zv_aload_n X d_Model_kin_39 rfl 0 rfl ?_
      refine zv_get X (ci := 7) rfl i_Model (za_144 hN) 23 (by decide) lk_Model_70 rfl rfl d_Model_kin_40 ?_
      refine zv_iload_n X d_Model_kin_43 rfl 3 rfl ?_
      refine zv_iload_n X d_Model_kin_44 rfl 3 rfl ?_
      refine zv_iastC X (za_165 hN) d_Model_kin_45 (fun ha45 hb45 D1 => ?_)
      refine zv_iinc X (lv2 := [(3, zi (v3 + 1)), (0, zr Z 144), (1, zi v1), (2, zi v2)]) d_Model_kin_46 3 rfl (by decide) rfl ?_
      refine zv_goto X (tgt := 29) d_Model_kin_49 (by decide) ?_
      refine zv_sub X [1, 2, 3, 0] rfl ?_
      exact ih (v3 + 1) D1
set_option maxRecDepth 100000 in
theorem v_Model_kin_27 {Γ : Gt} {Z : Zt} (X : Cx Γ Z prog_10_method_39_code R_Model 6 (some .int) rm_Model_kin) (hN : 166 ≤ Z.2.2.2.1) (v1 v2 : Int)   (D : Mm)  : Zv Γ Z 6 (QfM Γ Z 1) (f_Model_kin_27 v1 v2 D) D 27 [(0, zr Z 144), (1, zi v1), (2, zi v2)] [] := by
  unfold f_Model_kin_27
  refine zv_iconst X d_Model_kin_27 ?_
  refine zv_istore_n X (lv2 := [(3, zi 0), (0, zr Z 144), (1, zi v1), (2, zi v2)]) d_Model_kin_28 rfl (by decide) rfl ?_
  refine zv_sub X [1, 2, 3, 0] rfl ?_
  exact v_Model_kin_29 X hN v1 v2 zF 0 D
set_option maxRecDepth 100000 in
theorem c_Model_kin (l : Launch) {Z : Zt} (hZ : Zok Z) (hN : 166 ≤ Z.2.2.2.1) (v1 v2 : Int)  (D : Mm) : CtM l Z y_Model_kin prog_10_method_39_code 6 (some .int) rm_Model_kin 1 [zr Z 144, zi v1, zi v2] D (f_Model_kin v1 v2 D) := by
  refine zm_M (lv := [(0, zr Z 144), (1, zi v1), (2, zi v2)]) hZ (by decide +kernel) rfl (Nat.le_of_ble_eq_true rfl) rfl (fun Γ hl X => ?_)
  subst hl
  unfold f_Model_kin
  refine zv_iload_n X d_Model_kin_0 rfl 1 rfl ?_
  refine zv_i2l X d_Model_kin_1 ?_
  refine zv_lconst X (x := 0) d_Model_kin_2 (by decide +kernel) ?_
  refine zv_ldc2 X 200 kc_Model_204 (by decide +kernel) d_Model_kin_3 ?_
  refine zv_cSP1 X (av := [zl (wI v1), zl 0, zl 200]) (st := []) (c_Model_in Γ.2.1 X.2.2.2.2.2.2.2.1 hN (wI v1) 0 200 D) mk_Model_82 ⟨rfl, rfl, Nat.le_of_ble_eq_true rfl, Nat.le_of_ble_eq_true rfl⟩ rfl (Nat.le_of_ble_eq_true rfl) d_Model_kin_6 (fun r1 hr1 => ?_)
  refine zv_if_eq X (y := 0) (tgt := 25) d_Model_kin_9 (by decide) (fun h9 => ?_) (fun h9 => ?_)
  · refine zv_iconst X d_Model_kin_25 ?_
    exact zv_iretM X d_Model_kin_26
  · refine zv_iload_n X d_Model_kin_12 rfl 2 rfl ?_
    refine zv_iconst X d_Model_kin_13 ?_
    refine zv_icmp_eq X (tgt := 27) d_Model_kin_14 (by decide) (fun h14 => ?_) (fun h14 => ?_)
    · exact v_Model_kin_27 X hN v1 v2 D
    · refine zv_aload_n X d_Model_kin_17 rfl 0 rfl ?_
      refine zv_iload_n X d_Model_kin_18 rfl 2 rfl ?_
      refine zv_cVP1 X (av := [zi v2]) (st := []) (ci := 7) (c_Model_isSort Γ.2.1 X.2.2.2.2.2.2.2.1 hN v2 D) mk_Model_144 rfl (za_144 hN) ⟨rfl, rfl, Nat.le_of_ble_eq_true rfl, Nat.le_of_ble_eq_true rfl⟩ rfl (Nat.le_of_ble_eq_true rfl) d_Model_kin_19 (fun r2 hr2 => ?_)
      refine zv_if_ne X (y := 0) (tgt := 27) d_Model_kin_22 (by decide) (fun h22 => ?_) (fun h22 => ?_)
      · exact v_Model_kin_27 X hN v1 v2 D
      · refine zv_iconst X d_Model_kin_25 ?_
        exact zv_iretM X d_Model_kin_26

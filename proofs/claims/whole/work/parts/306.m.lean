set_option maxRecDepth 100000 in
theorem c_Main_teeth (l : Launch) {Z : Zt} (hZ : Zok Z) (hN : 143 ≤ Z.2.2.2.1) (v1 : Int)  (D : Mm) : CtM l Z y_Main_teeth prog_1_method_26_code 3 (some .int) rm_Main_teeth 1 [zr Z 1, zi v1] D (f_Main_teeth v1 D) := by
  refine zm_M (lv := [(0, zr Z 1), (1, zi v1)]) hZ (by decide +kernel) rfl (Nat.le_of_ble_eq_true rfl) rfl (fun Γ hl X => ?_)
  subst hl
  unfold f_Main_teeth
  refine zv_iload_n X d_Main_teeth_0 rfl 1 rfl ?_
  refine zv_iconst X d_Main_teeth_1 ?_
  refine zv_iconst X d_Main_teeth_2 ?_
  refine zv_aload_n X d_Main_teeth_3 rfl 0 rfl ?_
  refine zv_guard (fun hq4 => ?_)
  refine zv_get X (ci := 6) rfl i_Main (za_1 hN) 7 (by decide) lk_Main_51 rfl rfl d_Main_teeth_4 ?_
  refine zv_get X (ci := 5) rfl i_Quern (zq_0 hN hq4) 0 (by decide) lk_Main_80 rfl rfl d_Main_teeth_7 ?_
  refine zv_ishl X d_Main_teeth_10 ?_
  refine zv_iconst X d_Main_teeth_11 ?_
  refine zv_isub X d_Main_teeth_12 ?_
  refine zv_cSP1 X (av := [zi v1, zi 0, zi ((jshl 1 (D (D 1 7) 0)) - 1)]) (st := []) (c_Main_within Γ.2.1 X.2.2.2.2.2.2.2.1 hN v1 0 ((jshl 1 (D (D 1 7) 0)) - 1) D) mk_Main_61 ⟨rfl, rfl, Nat.le_of_ble_eq_true rfl, Nat.le_of_ble_eq_true rfl⟩ rfl (Nat.le_of_ble_eq_true rfl) d_Main_teeth_13 (fun r1 hr1 => ?_)
  refine zv_if_ne X (y := 0) (tgt := 21) d_Main_teeth_16 (by decide) (fun h16 => ?_) (fun h16 => ?_)
  · refine zv_aload_n X d_Main_teeth_21 rfl 0 rfl ?_
    refine zv_get X (ci := 6) rfl i_Main (za_1 hN) 4 (by decide) lk_Main_40 rfl rfl d_Main_teeth_22 ?_
    refine zv_get X (ci := 4) rfl i_Finds (zf_0 hN (Or.inl rfl)) 4 (by decide) lk_Main_222 rfl rfl d_Main_teeth_25 ?_
    refine zv_istore_n X (lv2 := [(2, zi (D 12 4)), (0, zr Z 1), (1, zi v1)]) d_Main_teeth_28 rfl (by decide) rfl ?_
    refine zv_aload_n X d_Main_teeth_29 rfl 1 rfl ?_
    refine zv_get X (ci := 6) rfl i_Main (za_1 hN) 4 (by decide) lk_Main_40 rfl rfl d_Main_teeth_30 ?_
    refine zv_iload_n X d_Main_teeth_33 rfl 2 rfl ?_
    refine zv_putC X (ci := 4) rfl i_Finds t_Finds t_Finds_ok n_Finds (zf_0 hN (Or.inl rfl)) 4 rfl (by decide) lk_Main_222 rfl rfl (ps_4_4 ..) (Nat.le_of_ble_eq_true rfl) rfl rfl d_Main_teeth_34 (fun D2 => ?_)
    refine zv_iload_n X d_Main_teeth_37 rfl 0 rfl ?_
    exact zv_iretM X d_Main_teeth_38
  · refine zv_iconst X d_Main_teeth_19 ?_
    exact zv_iretM X d_Main_teeth_20
set_option maxRecDepth 100000 in
theorem c_Main_eaten (l : Launch) {Z : Zt} (hZ : Zok Z) (hN : 143 ≤ Z.2.2.2.1) (v1 v2 : Int)  (D : Mm) : CtM l Z y_Main_eaten prog_1_method_27_code 3 (some .int) rm_Main_eaten 1 [zr Z 1, zi v1, zi v2] D (f_Main_eaten v1 v2 D) := by
  refine zm_M (lv := [(0, zr Z 1), (1, zi v1), (2, zi v2)]) hZ (by decide +kernel) rfl (Nat.le_of_ble_eq_true rfl) rfl (fun Γ hl X => ?_)
  subst hl
  unfold f_Main_eaten
  refine zv_aload_n X d_Main_eaten_0 rfl 0 rfl ?_
  refine zv_guard (fun hq1 => ?_)
  refine zv_get X (ci := 6) rfl i_Main (za_1 hN) 7 (by decide) lk_Main_51 rfl rfl d_Main_eaten_1 ?_
  refine zv_iload_n X d_Main_eaten_4 rfl 1 rfl ?_
  refine zv_cVP1 X (av := [zi v1]) (st := []) (ci := 5) (c_Quern_hasPatch Γ.2.1 X.2.2.2.2.2.2.2.1 hN (D 1 7) v1 hq1 D) mk_Main_90 rfl (zq_0 hN hq1) ⟨rfl, rfl, Nat.le_of_ble_eq_true rfl, Nat.le_of_ble_eq_true rfl⟩ rfl (Nat.le_of_ble_eq_true rfl) d_Main_eaten_5 (fun r1 hr1 => ?_)
  refine zv_if_eq X (y := 0) (tgt := 18) d_Main_eaten_8 (by decide) (fun h8 => ?_) (fun h8 => ?_)
  · refine zv_iconst X d_Main_eaten_18 ?_
    exact zv_iretM X d_Main_eaten_19
  · refine zv_iload_n X d_Main_eaten_11 rfl 2 rfl ?_
    refine zv_cSP1 X (av := [zi v2]) (st := []) (c_Main_isDoubt Γ.2.1 X.2.2.2.2.2.2.2.1 hN v2 D) mk_Main_178 ⟨rfl, rfl, Nat.le_of_ble_eq_true rfl, Nat.le_of_ble_eq_true rfl⟩ rfl (Nat.le_of_ble_eq_true rfl) d_Main_eaten_12 (fun r2 hr2 => ?_)
    refine zv_if_ne X (y := 0) (tgt := 20) d_Main_eaten_15 (by decide) (fun h15 => ?_) (fun h15 => ?_)
    · refine zv_aload_n X d_Main_eaten_20 rfl 0 rfl ?_
      refine zv_iload_n X d_Main_eaten_21 rfl 1 rfl ?_
      refine zv_iload_n X d_Main_eaten_22 rfl 2 rfl ?_
      refine zv_cVM1 X (av := [zi v1, zi v2]) (st := []) (ci := 6) (c_Main_surelyGround Γ.2.1 X.2.2.2.2.2.2.2.1 hN v1 v2 D) mk_Main_198 rfl (za_1 hN) ⟨rfl, rfl, Nat.le_of_ble_eq_true rfl, Nat.le_of_ble_eq_true rfl⟩ rfl (Nat.le_of_ble_eq_true rfl) d_Main_eaten_23 (fun r3 D4 hr3 => ?_)
      refine zv_aload_n X d_Main_eaten_26 rfl 0 rfl ?_
      refine zv_get X (ci := 6) rfl i_Main (za_1 hN) 4 (by decide) lk_Main_40 rfl rfl d_Main_eaten_27 ?_
      refine zv_get X (ci := 4) rfl i_Finds (zf_0 hN (Or.inl rfl)) 4 (by decide) lk_Main_222 rfl rfl d_Main_eaten_30 ?_
      refine zv_iand X d_Main_eaten_33 ?_
      exact zv_iretM X d_Main_eaten_34
    · refine zv_iconst X d_Main_eaten_18 ?_
      exact zv_iretM X d_Main_eaten_19
set_option maxRecDepth 100000 in
theorem v_Main_readAreaOf_63 {Γ : Gt} {Z : Zt} (X : Cx Γ Z prog_1_method_34_code R_Main 4 (some .int) rm_Main_readAreaOf) (hN : 143 ≤ Z.2.2.2.1) (v1 v2 v3 : Int)  (K4 : Int → Int → Option (Int)) (D : Mm) (hK4 : ∀ (v2 v3 : Int), Zv Γ Z 4 (QfP Γ Z 1 D) (K4 v2 v3) D 4 [(0, zr Z 1), (1, zi v1), (2, zi v2), (3, zi v3)] []) : Zv Γ Z 4 (QfP Γ Z 1 D) (f_Main_readAreaOf_63 v1 v2 v3 K4 D) D 63 [(0, zr Z 1), (1, zi v1), (2, zi v2), (3, zi v3)] [] := by
  unfold f_Main_readAreaOf_63
  refine zv_iinc X (lv2 := [(3, zi (v3 + 1)), (0, zr Z 1), (1, zi v1), (2, zi v2)]) d_Main_readAreaOf_63 3 rfl (by decide) rfl ?_
  refine zv_goto X (tgt := 4) d_Main_readAreaOf_66 (by decide) ?_
  refine zv_sub X [1, 2, 3, 0] rfl ?_
  exact hK4 v2 (v3 + 1)
set_option maxRecDepth 100000 in
theorem v_Main_readAreaOf_4 {Γ : Gt} {Z : Zt} (X : Cx Γ Z prog_1_method_34_code R_Main 4 (some .int) rm_Main_readAreaOf) (hN : 143 ≤ Z.2.2.2.1) (v1 : Int)   (D : Mm)  : ∀ (n : Nat) (v2 v3 : Int) , Zv Γ Z 4 (QfP Γ Z 1 D) (f_Main_readAreaOf_4 v1 D n v2 v3) D 4 [(0, zr Z 1), (1, zi v1), (2, zi v2), (3, zi v3)] [] := by
  intro n
  induction n with
  | zero =>
    intro v2 v3
    exact zv_none
  | succ n ih =>
    intro v2 v3
    rw [f_Main_readAreaOf_4]
    refine zv_iload_n X d_Main_readAreaOf_4 rfl 3 rfl ?_
    refine zv_aload_n X d_Main_readAreaOf_5 rfl 0 rfl ?_
    refine zv_guard (fun hq6 => ?_)
    refine zv_get X (ci := 6) rfl i_Main (za_1 hN) 7 (by decide) lk_Main_51 rfl rfl d_Main_readAreaOf_6 ?_
    refine zv_get X (ci := 5) rfl i_Quern (zq_0 hN hq6) 1 (by decide) lk_Main_83 rfl rfl d_Main_readAreaOf_9 ?_
    refine zv_icmp_ge X (tgt := 69) d_Main_readAreaOf_12 (by decide) (fun h12 => ?_) (fun h12 => ?_)
    · refine zv_iload_n X d_Main_readAreaOf_69 rfl 2 rfl ?_
      exact zv_iretP X d_Main_readAreaOf_70
    · refine zv_aload_n X d_Main_readAreaOf_15 rfl 0 rfl ?_
      refine zv_guard (fun hq16 => ?_)
      refine zv_get X (ci := 6) rfl i_Main (za_1 hN) 7 (by decide) lk_Main_51 rfl rfl d_Main_readAreaOf_16 ?_
      refine zv_get X (ci := 5) rfl i_Quern (zq_0 hN hq16) 3 (by decide) lk_Main_94 rfl rfl d_Main_readAreaOf_19 ?_
      refine zv_iload_n X d_Main_readAreaOf_22 rfl 3 rfl ?_
      refine zv_iald X (zq_8 hN hq16) d_Main_readAreaOf_23 (fun ha23 hb23 => ?_)
      refine zv_iload_n X d_Main_readAreaOf_24 rfl 1 rfl ?_
      refine zv_icmp_ne X (tgt := 63) d_Main_readAreaOf_25 (by decide) (fun h25 => ?_) (fun h25 => ?_)
      · exact v_Main_readAreaOf_63 X hN v1 v2 v3 (f_Main_readAreaOf_4 v1 D n) D ih
      · refine zv_aload_n X d_Main_readAreaOf_28 rfl 0 rfl ?_
        refine zv_guard (fun hq29 => ?_)
        refine zv_get X (ci := 6) rfl i_Main (za_1 hN) 7 (by decide) lk_Main_51 rfl rfl d_Main_readAreaOf_29 ?_
        refine zv_get X (ci := 5) rfl i_Quern (zq_0 hN hq29) 4 (by decide) lk_Main_98 rfl rfl d_Main_readAreaOf_32 ?_
        refine zv_iload_n X d_Main_readAreaOf_35 rfl 3 rfl ?_
        refine zv_iald X (zq_9 hN hq29) d_Main_readAreaOf_36 (fun ha36 hb36 => ?_)
        refine zv_if_eq X (y := 0) (tgt := 63) d_Main_readAreaOf_37 (by decide) (fun h37 => ?_) (fun h37 => ?_)
        · exact v_Main_readAreaOf_63 X hN v1 v2 v3 (f_Main_readAreaOf_4 v1 D n) D ih
        · refine zv_aload_n X d_Main_readAreaOf_40 rfl 0 rfl ?_
          refine zv_get X (ci := 6) rfl i_Main (za_1 hN) 4 (by decide) lk_Main_40 rfl rfl d_Main_readAreaOf_41 ?_
          refine zv_iload_n X d_Main_readAreaOf_44 rfl 3 rfl ?_
          refine zv_cVP1 X (av := [zi v3]) (st := []) (ci := 4) (c_Finds_isRead Γ.2.1 X.2.2.2.2.2.2.2.1 hN 12 v3 (Or.inl rfl) D) mk_Main_107 rfl (zf_0 hN (Or.inl rfl)) ⟨rfl, rfl, Nat.le_of_ble_eq_true rfl, Nat.le_of_ble_eq_true rfl⟩ rfl (Nat.le_of_ble_eq_true rfl) d_Main_readAreaOf_45 (fun r1 hr1 => ?_)
          refine zv_if_eq X (y := 0) (tgt := 63) d_Main_readAreaOf_48 (by decide) (fun h48 => ?_) (fun h48 => ?_)
          · exact v_Main_readAreaOf_63 X hN v1 v2 v3 (f_Main_readAreaOf_4 v1 D n) D ih
          · refine zv_iload_n X d_Main_readAreaOf_51 rfl 2 rfl ?_
            refine zv_aload_n X d_Main_readAreaOf_52 rfl 0 rfl ?_
            refine zv_guard (fun hq53 => ?_)
            refine zv_get X (ci := 6) rfl i_Main (za_1 hN) 7 (by decide) lk_Main_51 rfl rfl d_Main_readAreaOf_53 ?_
            refine zv_get X (ci := 5) rfl i_Quern (zq_0 hN hq53) 5 (by decide) lk_Main_101 rfl rfl d_Main_readAreaOf_56 ?_
            refine zv_iload_n X d_Main_readAreaOf_59 rfl 3 rfl ?_
            refine zv_iald X (zq_10 hN hq53) d_Main_readAreaOf_60 (fun ha60 hb60 => ?_)
            refine zv_iadd X d_Main_readAreaOf_61 ?_
            refine zv_istore_n X (lv2 := [(2, zi (v2 + (D ((D 1 7) + 10) v3))), (0, zr Z 1), (1, zi v1), (3, zi v3)]) d_Main_readAreaOf_62 rfl (by decide) rfl ?_
            refine zv_sub X [1, 2, 0, 3] rfl ?_
            exact v_Main_readAreaOf_63 X hN v1 (v2 + (D ((D 1 7) + 10) v3)) v3 (f_Main_readAreaOf_4 v1 D n) D ih
set_option maxRecDepth 100000 in
theorem c_Main_readAreaOf (l : Launch) {Z : Zt} (hZ : Zok Z) (hN : 143 ≤ Z.2.2.2.1) (v1 : Int)  (D : Mm) : CtP l Z y_Main_readAreaOf prog_1_method_34_code 4 (some .int) rm_Main_readAreaOf 1 [zr Z 1, zi v1] D (f_Main_readAreaOf v1 D) := by
  refine zm_P (lv := [(0, zr Z 1), (1, zi v1)]) hZ (by decide +kernel) rfl (Nat.le_of_ble_eq_true rfl) rfl (fun Γ hl X => ?_)
  subst hl
  unfold f_Main_readAreaOf
  refine zv_iconst X d_Main_readAreaOf_0 ?_
  refine zv_istore_n X (lv2 := [(2, zi 0), (0, zr Z 1), (1, zi v1)]) d_Main_readAreaOf_1 rfl (by decide) rfl ?_
  refine zv_iconst X d_Main_readAreaOf_2 ?_
  refine zv_istore_n X (lv2 := [(3, zi 0), (2, zi 0), (0, zr Z 1), (1, zi v1)]) d_Main_readAreaOf_3 rfl (by decide) rfl ?_
  refine zv_sub X [2, 3, 1, 0] rfl ?_
  exact v_Main_readAreaOf_4 X hN v1 D zF 0 0
set_option maxRecDepth 100000 in
theorem v_Main_next_70 {Γ : Gt} {Z : Zt} (X : Cx Γ Z prog_1_method_28_code R_Main 5 (some .int) rm_Main_next) (hN : 143 ≤ Z.2.2.2.1) (v1 v2 v3 : Int)  (K6 : Int → Int → Int → Option (Int)) (D : Mm) (hK6 : ∀ (v1 v2 v3 : Int), Zv Γ Z 5 (QfP Γ Z 1 D) (K6 v1 v2 v3) D 7 [(0, zr Z 1), (1, zi v1), (2, zi v2), (3, zi v3)] []) : Zv Γ Z 5 (QfP Γ Z 1 D) (f_Main_next_70 v1 v2 v3 K6 D) D 70 [(0, zr Z 1), (1, zi v1), (2, zi v2), (3, zi v3)] [] := by
  unfold f_Main_next_70
  refine zv_iinc X (lv2 := [(3, zi (v3 + 1)), (0, zr Z 1), (1, zi v1), (2, zi v2)]) d_Main_next_70 3 rfl (by decide) rfl ?_
  refine zv_goto X (tgt := 7) d_Main_next_73 (by decide) ?_
  refine zv_sub X [1, 2, 3, 0] rfl ?_
  exact hK6 v1 v2 (v3 + 1)
set_option maxRecDepth 100000 in
theorem v_Main_next_7 {Γ : Gt} {Z : Zt} (X : Cx Γ Z prog_1_method_28_code R_Main 5 (some .int) rm_Main_next) (hN : 143 ≤ Z.2.2.2.1)   (D : Mm)  : ∀ (n : Nat) (v1 v2 v3 : Int) , Zv Γ Z 5 (QfP Γ Z 1 D) (f_Main_next_7 D n v1 v2 v3) D 7 [(0, zr Z 1), (1, zi v1), (2, zi v2), (3, zi v3)] [] := by
  intro n
  induction n with
  | zero =>
    intro v1 v2 v3
    exact zv_none
  | succ n ih =>
    intro v1 v2 v3
    rw [f_Main_next_7]
    refine zv_iload_n X d_Main_next_7 rfl 3 rfl ?_
    refine zv_aload_n X d_Main_next_8 rfl 0 rfl ?_
    refine zv_guard (fun hq9 => ?_)
    refine zv_get X (ci := 6) rfl i_Main (za_1 hN) 7 (by decide) lk_Main_51 rfl rfl d_Main_next_9 ?_
    refine zv_get X (ci := 5) rfl i_Quern (zq_0 hN hq9) 1 (by decide) lk_Main_83 rfl rfl d_Main_next_12 ?_
    refine zv_icmp_ge X (tgt := 76) d_Main_next_15 (by decide) (fun h15 => ?_) (fun h15 => ?_)
    · refine zv_iload_n X d_Main_next_76 rfl 1 rfl ?_
      exact zv_iretP X d_Main_next_77
    · refine zv_aload_n X d_Main_next_18 rfl 0 rfl ?_
      refine zv_guard (fun hq19 => ?_)
      refine zv_get X (ci := 6) rfl i_Main (za_1 hN) 7 (by decide) lk_Main_51 rfl rfl d_Main_next_19 ?_
      refine zv_get X (ci := 5) rfl i_Quern (zq_0 hN hq19) 4 (by decide) lk_Main_98 rfl rfl d_Main_next_22 ?_
      refine zv_iload_n X d_Main_next_25 rfl 3 rfl ?_
      refine zv_iald X (zq_9 hN hq19) d_Main_next_26 (fun ha26 hb26 => ?_)
      refine zv_if_ne X (y := 0) (tgt := 70) d_Main_next_27 (by decide) (fun h27 => ?_) (fun h27 => ?_)
      · exact v_Main_next_70 X hN v1 v2 v3 (f_Main_next_7 D n) D ih
      · refine zv_aload_n X d_Main_next_30 rfl 0 rfl ?_
        refine zv_get X (ci := 6) rfl i_Main (za_1 hN) 4 (by decide) lk_Main_40 rfl rfl d_Main_next_31 ?_
        refine zv_iload_n X d_Main_next_34 rfl 3 rfl ?_
        refine zv_cVP1 X (av := [zi v3]) (st := []) (ci := 4) (c_Finds_isRead Γ.2.1 X.2.2.2.2.2.2.2.1 hN 12 v3 (Or.inl rfl) D) mk_Main_107 rfl (zf_0 hN (Or.inl rfl)) ⟨rfl, rfl, Nat.le_of_ble_eq_true rfl, Nat.le_of_ble_eq_true rfl⟩ rfl (Nat.le_of_ble_eq_true rfl) d_Main_next_35 (fun r1 hr1 => ?_)
        refine zv_if_eq X (y := 0) (tgt := 44) d_Main_next_38 (by decide) (fun h38 => ?_) (fun h38 => ?_)
        · refine zv_aload_n X d_Main_next_44 rfl 0 rfl ?_
          refine zv_aload_n X d_Main_next_45 rfl 0 rfl ?_
          refine zv_guard (fun hq46 => ?_)
          refine zv_get X (ci := 6) rfl i_Main (za_1 hN) 7 (by decide) lk_Main_51 rfl rfl d_Main_next_46 ?_
          refine zv_get X (ci := 5) rfl i_Quern (zq_0 hN hq46) 3 (by decide) lk_Main_94 rfl rfl d_Main_next_49 ?_
          refine zv_iload_n X d_Main_next_52 rfl 3 rfl ?_
          refine zv_iald X (zq_8 hN hq46) d_Main_next_53 (fun ha53 hb53 => ?_)
          refine zv_cVP1 X (av := [zi (D ((D 1 7) + 8) v3)]) (st := []) (ci := 6) (c_Main_readAreaOf Γ.2.1 X.2.2.2.2.2.2.2.1 hN (D ((D 1 7) + 8) v3) D) mk_Main_225 rfl (za_1 hN) ⟨rfl, rfl, Nat.le_of_ble_eq_true rfl, Nat.le_of_ble_eq_true rfl⟩ rfl (Nat.le_of_ble_eq_true rfl) d_Main_next_54 (fun r2 hr2 => ?_)
          refine zv_istore X (lv2 := [(4, zi r2), (0, zr Z 1), (1, zi v1), (2, zi v2), (3, zi v3)]) d_Main_next_57 (by decide) rfl ?_
          refine zv_iload X d_Main_next_59 0 rfl ?_
          refine zv_iload_n X d_Main_next_61 rfl 3 rfl ?_
          refine zv_icmp_le X (tgt := 70) d_Main_next_62 (by decide) (fun h62 => ?_) (fun h62 => ?_)
          · refine zv_sub X [1, 2, 3, 4] rfl ?_
            exact v_Main_next_70 X hN v1 v2 v3 (f_Main_next_7 D n) D ih
          · refine zv_iload X d_Main_next_65 0 rfl ?_
            refine zv_istore_n X (lv2 := [(2, zi r2), (4, zi r2), (0, zr Z 1), (1, zi v1), (3, zi v3)]) d_Main_next_67 rfl (by decide) rfl ?_
            refine zv_iload_n X d_Main_next_68 rfl 4 rfl ?_
            refine zv_istore_n X (lv2 := [(1, zi v3), (2, zi r2), (4, zi r2), (0, zr Z 1), (3, zi v3)]) d_Main_next_69 rfl (by decide) rfl ?_
            refine zv_sub X [3, 0, 1, 4] rfl ?_
            exact v_Main_next_70 X hN v3 r2 v3 (f_Main_next_7 D n) D ih
        · refine zv_goto X (tgt := 70) d_Main_next_41 (by decide) ?_
          exact v_Main_next_70 X hN v1 v2 v3 (f_Main_next_7 D n) D ih
set_option maxRecDepth 100000 in
theorem c_Main_next (l : Launch) {Z : Zt} (hZ : Zok Z) (hN : 143 ≤ Z.2.2.2.1)  (D : Mm) : CtP l Z y_Main_next prog_1_method_28_code 5 (some .int) rm_Main_next 1 [zr Z 1] D (f_Main_next D) := by
  refine zm_P (lv := [(0, zr Z 1)]) hZ (by decide +kernel) rfl (Nat.le_of_ble_eq_true rfl) rfl (fun Γ hl X => ?_)
  subst hl
  unfold f_Main_next
  refine zv_bipush X d_Main_next_0 (by decide +kernel) ?_
  refine zv_istore_n X (lv2 := [(1, zi (-4)), (0, zr Z 1)]) d_Main_next_2 rfl (by decide) rfl ?_
  refine zv_iconst X d_Main_next_3 ?_
  refine zv_istore_n X (lv2 := [(2, zi (-1)), (1, zi (-4)), (0, zr Z 1)]) d_Main_next_4 rfl (by decide) rfl ?_
  refine zv_iconst X d_Main_next_5 ?_
  refine zv_istore_n X (lv2 := [(3, zi 0), (2, zi (-1)), (1, zi (-4)), (0, zr Z 1)]) d_Main_next_6 rfl (by decide) rfl ?_
  refine zv_sub X [3, 2, 1, 0] rfl ?_
  exact v_Main_next_7 X hN D zF (-4) (-1) 0
set_option maxRecDepth 100000 in
theorem v_Finds_copyFrom_35 {Γ : Gt} {Z : Zt} (X : Cx Γ Z prog_3_method_3_code R_Finds 3 none rm_Finds_copyFrom) (hN : 143 ≤ Z.2.2.2.1) (v0 v1 : Int) (hv0 : isF v0) (hv1 : isF v1)   : ∀ (n : Nat) (v2 : Int) (D : Mm), Zv Γ Z 3 (QfM Γ Z 0) (f_Finds_copyFrom_35 v0 v1 n v2 D) D 35 [(0, zr Z v0), (1, zr Z v1), (2, zi v2)] [] := by
  intro n
  induction n with
  | zero =>
    intro v2 D
    exact zv_none
  | succ n ih =>
    intro v2 D
    rw [f_Finds_copyFrom_35]
    refine zv_iload_n X d_Finds_copyFrom_35 rfl 2 rfl ?_
    refine zv_bipush X d_Finds_copyFrom_36 (by decide +kernel) ?_
    refine zv_icmp_ge X (tgt := 66) d_Finds_copyFrom_38 (by decide) (fun h38 => ?_) (fun h38 => ?_)
    · refine zv_aload_n X d_Finds_copyFrom_66 rfl 0 rfl ?_
      refine zv_aload_n X d_Finds_copyFrom_67 rfl 1 rfl ?_
      refine zv_get X (ci := 4) rfl i_Finds (zf_0 hN hv1) 2 (by decide) lk_Finds_25 rfl rfl d_Finds_copyFrom_68 ?_
      refine zv_putC X (ci := 4) rfl i_Finds t_Finds t_Finds_ok n_Finds (zf_0 hN hv0) 2 rfl (by decide) lk_Finds_25 rfl rfl (ps_4_2 ..) (Nat.le_of_ble_eq_true rfl) rfl rfl d_Finds_copyFrom_71 (fun D1 => ?_)
      refine zv_aload_n X d_Finds_copyFrom_74 rfl 0 rfl ?_
      refine zv_aload_n X d_Finds_copyFrom_75 rfl 1 rfl ?_
      refine zv_get X (ci := 4) rfl i_Finds (zf_0 hN hv1) 3 (by decide) lk_Finds_29 rfl rfl d_Finds_copyFrom_76 ?_
      refine zv_putC X (ci := 4) rfl i_Finds t_Finds t_Finds_ok n_Finds (zf_0 hN hv0) 3 rfl (by decide) lk_Finds_29 rfl rfl (ps_4_3 ..) (Nat.le_of_ble_eq_true rfl) rfl rfl d_Finds_copyFrom_79 (fun D2 => ?_)
      refine zv_aload_n X d_Finds_copyFrom_82 rfl 0 rfl ?_
      refine zv_aload_n X d_Finds_copyFrom_83 rfl 1 rfl ?_
      refine zv_get X (ci := 4) rfl i_Finds (zf_0 hN hv1) 4 (by decide) lk_Finds_32 rfl rfl d_Finds_copyFrom_84 ?_
      refine zv_putC X (ci := 4) rfl i_Finds t_Finds t_Finds_ok n_Finds (zf_0 hN hv0) 4 rfl (by decide) lk_Finds_32 rfl rfl (ps_4_4 ..) (Nat.le_of_ble_eq_true rfl) rfl rfl d_Finds_copyFrom_87 (fun D3 => ?_)
      exact zv_vretM X d_Finds_copyFrom_90
    · refine zv_aload_n X d_Finds_copyFrom_41 rfl 1 rfl ?_
      refine zv_get X (ci := 4) rfl i_Finds (zf_0 hN hv1) 1 (by decide) lk_Finds_16 rfl rfl d_Finds_copyFrom_42 ?_
      refine zv_iload_n X d_Finds_copyFrom_45 rfl 2 rfl ?_
      refine zv_aald X (v1 + 13 + v2) (zf_12 hN hv1) d_Finds_copyFrom_46 (by omega) (fun ha46 hb46 => ?_)
      refine zv_iconst X d_Finds_copyFrom_47 ?_
      refine zv_aload_n X d_Finds_copyFrom_48 rfl 0 rfl ?_
      refine zv_get X (ci := 4) rfl i_Finds (zf_0 hN hv0) 1 (by decide) lk_Finds_16 rfl rfl d_Finds_copyFrom_49 ?_
      refine zv_iload_n X d_Finds_copyFrom_52 rfl 2 rfl ?_
      refine zv_aald X (v0 + 13 + v2) (zf_12 hN hv0) d_Finds_copyFrom_53 (by omega) (fun ha53 hb53 => ?_)
      refine zv_iconst X d_Finds_copyFrom_54 ?_
      refine zv_bipush X d_Finds_copyFrom_55 (by decide +kernel) ?_
      refine zv_copyK X (zf_12r hN hv1 ha46 hb46) (zf_12r hN hv0 ha53 hb53) ac_Finds_35 (by decide) (by decide) (by decide) (by decide) (by decide) ⟨Nat.le_of_ble_eq_true rfl, Nat.le_of_ble_eq_true rfl⟩ d_Finds_copyFrom_57 (fun D4 => ?_)
      refine zv_iinc X (lv2 := [(2, zi (v2 + 1)), (0, zr Z v0), (1, zr Z v1)]) d_Finds_copyFrom_60 2 rfl (by decide) rfl ?_
      refine zv_goto X (tgt := 35) d_Finds_copyFrom_63 (by decide) ?_
      refine zv_sub X [1, 2, 0] rfl ?_
      exact ih (v2 + 1) D4
set_option maxRecDepth 100000 in
theorem v_Finds_copyFrom_2 {Γ : Gt} {Z : Zt} (X : Cx Γ Z prog_3_method_3_code R_Finds 3 none rm_Finds_copyFrom) (hN : 143 ≤ Z.2.2.2.1) (v0 v1 : Int) (hv0 : isF v0) (hv1 : isF v1)   : ∀ (n : Nat) (v2 : Int) (D : Mm), Zv Γ Z 3 (QfM Γ Z 0) (f_Finds_copyFrom_2 v0 v1 n v2 D) D 2 [(0, zr Z v0), (1, zr Z v1), (2, zi v2)] [] := by
  intro n
  induction n with
  | zero =>
    intro v2 D
    exact zv_none
  | succ n ih =>
    intro v2 D
    rw [f_Finds_copyFrom_2]
    refine zv_iload_n X d_Finds_copyFrom_2 rfl 2 rfl ?_
    refine zv_bipush X d_Finds_copyFrom_3 (by decide +kernel) ?_
    refine zv_icmp_ge X (tgt := 33) d_Finds_copyFrom_5 (by decide) (fun h5 => ?_) (fun h5 => ?_)
    · refine zv_iconst X d_Finds_copyFrom_33 ?_
      refine zv_istore_n X (lv2 := [(2, zi 0), (0, zr Z v0), (1, zr Z v1)]) d_Finds_copyFrom_34 rfl (by decide) rfl ?_
      refine zv_sub X [1, 2, 0] rfl ?_
      exact v_Finds_copyFrom_35 X hN v0 v1 hv0 hv1 zF 0 D
    · refine zv_aload_n X d_Finds_copyFrom_8 rfl 1 rfl ?_
      refine zv_get X (ci := 4) rfl i_Finds (zf_0 hN hv1) 0 (by decide) lk_Finds_11 rfl rfl d_Finds_copyFrom_9 ?_
      refine zv_iload_n X d_Finds_copyFrom_12 rfl 2 rfl ?_
      refine zv_aald X (v1 + 2 + v2) (zf_1 hN hv1) d_Finds_copyFrom_13 (by omega) (fun ha13 hb13 => ?_)
      refine zv_iconst X d_Finds_copyFrom_14 ?_
      refine zv_aload_n X d_Finds_copyFrom_15 rfl 0 rfl ?_
      refine zv_get X (ci := 4) rfl i_Finds (zf_0 hN hv0) 0 (by decide) lk_Finds_11 rfl rfl d_Finds_copyFrom_16 ?_
      refine zv_iload_n X d_Finds_copyFrom_19 rfl 2 rfl ?_
      refine zv_aald X (v0 + 2 + v2) (zf_1 hN hv0) d_Finds_copyFrom_20 (by omega) (fun ha20 hb20 => ?_)
      refine zv_iconst X d_Finds_copyFrom_21 ?_
      refine zv_bipush X d_Finds_copyFrom_22 (by decide +kernel) ?_
      refine zv_copyK X (zf_1r hN hv1 ha13 hb13) (zf_1r hN hv0 ha20 hb20) ac_Finds_35 (by decide) (by decide) (by decide) (by decide) (by decide) ⟨Nat.le_of_ble_eq_true rfl, Nat.le_of_ble_eq_true rfl⟩ d_Finds_copyFrom_24 (fun D1 => ?_)
      refine zv_iinc X (lv2 := [(2, zi (v2 + 1)), (0, zr Z v0), (1, zr Z v1)]) d_Finds_copyFrom_27 2 rfl (by decide) rfl ?_
      refine zv_goto X (tgt := 2) d_Finds_copyFrom_30 (by decide) ?_
      refine zv_sub X [1, 2, 0] rfl ?_
      exact ih (v2 + 1) D1
set_option maxRecDepth 100000 in
theorem c_Finds_copyFrom (l : Launch) {Z : Zt} (hZ : Zok Z) (hN : 143 ≤ Z.2.2.2.1) (v0 v1 : Int) (hv0 : isF v0) (hv1 : isF v1) (D : Mm) : CtM l Z y_Finds_copyFrom prog_3_method_3_code 3 none rm_Finds_copyFrom 0 [zr Z v0, zr Z v1] D (f_Finds_copyFrom v0 v1 D) := by
  refine zm_M (lv := [(0, zr Z v0), (1, zr Z v1)]) hZ (by decide +kernel) rfl (Nat.le_of_ble_eq_true rfl) rfl (fun Γ hl X => ?_)
  subst hl
  unfold f_Finds_copyFrom
  refine zv_iconst X d_Finds_copyFrom_0 ?_
  refine zv_istore_n X (lv2 := [(2, zi 0), (0, zr Z v0), (1, zr Z v1)]) d_Finds_copyFrom_1 rfl (by decide) rfl ?_
  refine zv_sub X [1, 2, 0] rfl ?_
  exact v_Finds_copyFrom_2 X hN v0 v1 hv0 hv1 zF 0 D
set_option maxRecDepth 100000 in
theorem c_Main_keep (l : Launch) {Z : Zt} (hZ : Zok Z) (hN : 143 ≤ Z.2.2.2.1)  (D : Mm) : CtM l Z y_Main_keep prog_1_method_29_code 1 (some .int) rm_Main_keep 1 [zr Z 1] D (f_Main_keep D) := by
  refine zm_M (lv := [(0, zr Z 1)]) hZ (by decide +kernel) rfl (Nat.le_of_ble_eq_true rfl) rfl (fun Γ hl X => ?_)
  subst hl
  unfold f_Main_keep
  refine zv_aload_n X d_Main_keep_0 rfl 0 rfl ?_
  refine zv_get X (ci := 6) rfl i_Main (za_1 hN) 6 (by decide) lk_Main_87 rfl rfl d_Main_keep_1 ?_
  refine zv_iconst X d_Main_keep_4 ?_
  refine zv_icmp_lt X (tgt := 11) d_Main_keep_5 (by decide) (fun h5 => ?_) (fun h5 => ?_)
  · refine zv_aload_n X d_Main_keep_11 rfl 0 rfl ?_
    refine zv_get X (ci := 6) rfl i_Main (za_1 hN) 5 (by decide) lk_Main_44 rfl rfl d_Main_keep_12 ?_
    refine zv_aload_n X d_Main_keep_15 rfl 0 rfl ?_
    refine zv_get X (ci := 6) rfl i_Main (za_1 hN) 6 (by decide) lk_Main_87 rfl rfl d_Main_keep_16 ?_
    refine zv_fald X (106 + 19 * (D 1 6)) (za_31 hN) d_Main_keep_19 rfl (fun ha19 hb19 => ?_)
    refine zv_aload_n X d_Main_keep_20 rfl 0 rfl ?_
    refine zv_get X (ci := 6) rfl i_Main (za_1 hN) 4 (by decide) lk_Main_40 rfl rfl d_Main_keep_21 ?_
    refine zv_cVM0 X (av := [zr Z 12]) (st := []) (ci := 4) (c_Finds_copyFrom Γ.2.1 X.2.2.2.2.2.2.2.1 hN (106 + 19 * (D 1 6)) 12 (zk_F ha19 hb19) (Or.inl rfl) D) mk_Main_228 rfl (zf_0 hN (zk_F ha19 hb19)) ⟨rfl, rfl, Nat.le_of_ble_eq_true rfl, Nat.le_of_ble_eq_true rfl⟩ rfl (Nat.le_of_ble_eq_true rfl) d_Main_keep_24 (fun _ D2 hr1 => ?_)
    refine zv_aload_n X d_Main_keep_27 rfl 0 rfl ?_
    refine zv_dup X d_Main_keep_28 rfl ?_
    refine zv_get X (ci := 6) rfl i_Main (za_1 hN) 6 (by decide) lk_Main_87 rfl rfl d_Main_keep_29 ?_
    refine zv_iconst X d_Main_keep_32 ?_
    refine zv_iadd X d_Main_keep_33 ?_
    refine zv_putC X (ci := 6) rfl i_Main t_Main t_Main_ok n_Main (za_1 hN) 6 rfl (by decide) lk_Main_87 rfl rfl (ps_6_6 ..) (Nat.le_of_ble_eq_true rfl) rfl rfl d_Main_keep_34 (fun D3 => ?_)
    refine zv_aload_n X d_Main_keep_37 rfl 0 rfl ?_
    refine zv_get X (ci := 6) rfl i_Main (za_1 hN) 6 (by decide) lk_Main_87 rfl rfl d_Main_keep_38 ?_
    exact zv_iretM X d_Main_keep_41
  · refine zv_bipush X d_Main_keep_8 (by decide +kernel) ?_
    exact zv_iretM X d_Main_keep_10
set_option maxRecDepth 100000 in
theorem c_Main_back (l : Launch) {Z : Zt} (hZ : Zok Z) (hN : 143 ≤ Z.2.2.2.1)  (D : Mm) : CtM l Z y_Main_back prog_1_method_30_code 1 (some .int) rm_Main_back 1 [zr Z 1] D (f_Main_back D) := by
  refine zm_M (lv := [(0, zr Z 1)]) hZ (by decide +kernel) rfl (Nat.le_of_ble_eq_true rfl) rfl (fun Γ hl X => ?_)
  subst hl
  unfold f_Main_back
  refine zv_aload_n X d_Main_back_0 rfl 0 rfl ?_
  refine zv_get X (ci := 6) rfl i_Main (za_1 hN) 6 (by decide) lk_Main_87 rfl rfl d_Main_back_1 ?_
  refine zv_if_ne X (y := 0) (tgt := 10) d_Main_back_4 (by decide) (fun h4 => ?_) (fun h4 => ?_)
  · refine zv_aload_n X d_Main_back_10 rfl 0 rfl ?_
    refine zv_dup X d_Main_back_11 rfl ?_
    refine zv_get X (ci := 6) rfl i_Main (za_1 hN) 6 (by decide) lk_Main_87 rfl rfl d_Main_back_12 ?_
    refine zv_iconst X d_Main_back_15 ?_
    refine zv_isub X d_Main_back_16 ?_
    refine zv_putC X (ci := 6) rfl i_Main t_Main t_Main_ok n_Main (za_1 hN) 6 rfl (by decide) lk_Main_87 rfl rfl (ps_6_6 ..) (Nat.le_of_ble_eq_true rfl) rfl rfl d_Main_back_17 (fun D1 => ?_)
    refine zv_aload_n X d_Main_back_20 rfl 0 rfl ?_
    refine zv_get X (ci := 6) rfl i_Main (za_1 hN) 4 (by decide) lk_Main_40 rfl rfl d_Main_back_21 ?_
    refine zv_aload_n X d_Main_back_24 rfl 0 rfl ?_
    refine zv_get X (ci := 6) rfl i_Main (za_1 hN) 5 (by decide) lk_Main_44 rfl rfl d_Main_back_25 ?_
    refine zv_aload_n X d_Main_back_28 rfl 0 rfl ?_
    refine zv_get X (ci := 6) rfl i_Main (za_1 hN) 6 (by decide) lk_Main_87 rfl rfl d_Main_back_29 ?_
    refine zv_fald X (106 + 19 * (D1 1 6)) (za_31 hN) d_Main_back_32 rfl (fun ha32 hb32 => ?_)
    refine zv_cVM0 X (av := [zr Z (106 + 19 * (D1 1 6))]) (st := []) (ci := 4) (c_Finds_copyFrom Γ.2.1 X.2.2.2.2.2.2.2.1 hN 12 (106 + 19 * (D1 1 6)) (Or.inl rfl) (zk_F ha32 hb32) D1) mk_Main_228 rfl (zf_0 hN (Or.inl rfl)) ⟨rfl, rfl, Nat.le_of_ble_eq_true rfl, Nat.le_of_ble_eq_true rfl⟩ rfl (Nat.le_of_ble_eq_true rfl) d_Main_back_33 (fun _ D3 hr2 => ?_)
    refine zv_aload_n X d_Main_back_36 rfl 0 rfl ?_
    refine zv_get X (ci := 6) rfl i_Main (za_1 hN) 6 (by decide) lk_Main_87 rfl rfl d_Main_back_37 ?_
    exact zv_iretM X d_Main_back_40
  · refine zv_bipush X d_Main_back_7 (by decide +kernel) ?_
    exact zv_iretM X d_Main_back_9
set_option maxRecDepth 100000 in
theorem c_Main_size (l : Launch) {Z : Zt} (hZ : Zok Z) (hN : 143 ≤ Z.2.2.2.1) (v1 : Int)  (D : Mm) : CtP l Z y_Main_size prog_1_method_31_code 2 (some .int) rm_Main_size 1 [zr Z 1, zi v1] D (f_Main_size v1 D) := by
  refine zm_P (lv := [(0, zr Z 1), (1, zi v1)]) hZ (by decide +kernel) rfl (Nat.le_of_ble_eq_true rfl) rfl (fun Γ hl X => ?_)
  subst hl
  unfold f_Main_size
  refine zv_iload_n X d_Main_size_0 rfl 1 rfl ?_
  refine zv_split (fun h1_0 => ?_) (fun h1_0 => ?_)
  · refine zv_tin X (tgt := 40) (off := 39) d_Main_size_1 h1_0 (by decide +kernel) (by decide) ?_
    refine zv_aload_n X d_Main_size_40 rfl 0 rfl ?_
    refine zv_guard (fun hq41 => ?_)
    refine zv_get X (ci := 6) rfl i_Main (za_1 hN) 7 (by decide) lk_Main_51 rfl rfl d_Main_size_41 ?_
    refine zv_get X (ci := 5) rfl i_Quern (zq_0 hN hq41) 0 (by decide) lk_Main_80 rfl rfl d_Main_size_44 ?_
    exact zv_iretP X d_Main_size_47
  refine zv_split (fun h1_1 => ?_) (fun h1_1 => ?_)
  · refine zv_tin X (tgt := 48) (off := 47) d_Main_size_1 h1_1 (by decide +kernel) (by decide) ?_
    refine zv_aload_n X d_Main_size_48 rfl 0 rfl ?_
    refine zv_guard (fun hq49 => ?_)
    refine zv_get X (ci := 6) rfl i_Main (za_1 hN) 7 (by decide) lk_Main_51 rfl rfl d_Main_size_49 ?_
    refine zv_get X (ci := 5) rfl i_Quern (zq_0 hN hq49) 1 (by decide) lk_Main_83 rfl rfl d_Main_size_52 ?_
    exact zv_iretP X d_Main_size_55
  refine zv_split (fun h1_2 => ?_) (fun h1_2 => ?_)
  · refine zv_tin X (tgt := 56) (off := 55) d_Main_size_1 h1_2 (by decide +kernel) (by decide) ?_
    refine zv_aload_n X d_Main_size_56 rfl 0 rfl ?_
    refine zv_get X (ci := 6) rfl i_Main (za_1 hN) 0 (by decide) lk_Main_10 rfl rfl d_Main_size_57 ?_
    refine zv_get X (ci := 0) rfl i_Text (za_2 hN) 1 (by decide) lk_Main_65 rfl rfl d_Main_size_60 ?_
    exact zv_iretP X d_Main_size_63
  refine zv_split (fun h1_3 => ?_) (fun h1_3 => ?_)
  · refine zv_tin X (tgt := 64) (off := 63) d_Main_size_1 h1_3 (by decide +kernel) (by decide) ?_
    refine zv_aload_n X d_Main_size_64 rfl 0 rfl ?_
    refine zv_get X (ci := 6) rfl i_Main (za_1 hN) 4 (by decide) lk_Main_40 rfl rfl d_Main_size_65 ?_
    refine zv_get X (ci := 4) rfl i_Finds (zf_0 hN (Or.inl rfl)) 3 (by decide) lk_Main_207 rfl rfl d_Main_size_68 ?_
    exact zv_iretP X d_Main_size_71
  refine zv_split (fun h1_4 => ?_) (fun h1_4 => ?_)
  · refine zv_tin X (tgt := 72) (off := 71) d_Main_size_1 h1_4 (by decide +kernel) (by decide) ?_
    refine zv_aload_n X d_Main_size_72 rfl 0 rfl ?_
    refine zv_get X (ci := 6) rfl i_Main (za_1 hN) 6 (by decide) lk_Main_87 rfl rfl d_Main_size_73 ?_
    exact zv_iretP X d_Main_size_76
  refine zv_split (fun h1_5 => ?_) (fun h1_5 => ?_)
  · refine zv_tin X (tgt := 77) (off := 76) d_Main_size_1 h1_5 (by decide +kernel) (by decide) ?_
    refine zv_aload_n X d_Main_size_77 rfl 0 rfl ?_
    refine zv_get X (ci := 6) rfl i_Main (za_1 hN) 4 (by decide) lk_Main_40 rfl rfl d_Main_size_78 ?_
    refine zv_get X (ci := 4) rfl i_Finds (zf_0 hN (Or.inl rfl)) 2 (by decide) lk_Main_232 rfl rfl d_Main_size_81 ?_
    refine zv_cSP1 X (av := [zi (D 12 2)]) (st := []) (c_Integer_bitCount Γ.2.1 X.2.2.2.2.2.2.2.1 (D 12 2) D) mk_Main_235 ⟨rfl, rfl, Nat.le_of_ble_eq_true rfl, Nat.le_of_ble_eq_true rfl⟩ rfl (Nat.le_of_ble_eq_true rfl) d_Main_size_84 (fun r1 hr1 => ?_)
    exact zv_iretP X d_Main_size_87
  refine zv_tdef X (tgt := 88) d_Main_size_1 (zt_def (cs := [0, 1, 2, 3, 4, 5]) (by decide +kernel) (by decide) (List.forall_mem_cons.mpr ⟨zI_nek h1_0 (by decide +kernel), List.forall_mem_cons.mpr ⟨zI_nek h1_1 (by decide +kernel), List.forall_mem_cons.mpr ⟨zI_nek h1_2 (by decide +kernel), List.forall_mem_cons.mpr ⟨zI_nek h1_3 (by decide +kernel), List.forall_mem_cons.mpr ⟨zI_nek h1_4 (by decide +kernel), List.forall_mem_cons.mpr ⟨zI_nek h1_5 (by decide +kernel), List.forall_mem_nil _⟩⟩⟩⟩⟩⟩)) (by decide) ?_
  refine zv_iconst X d_Main_size_88 ?_
  exact zv_iretP X d_Main_size_89
set_option maxRecDepth 100000 in
theorem c_Model_in (l : Launch) {Z : Zt} (hZ : Zok Z) (hN : 166 ≤ Z.2.2.2.1) (v0 v2 v4 : Int)  (D : Mm) : CtP l Z y_Model_in prog_10_method_2_code 6 (some .boolean) rm_Model_in 1 [zl v0, zl v2, zl v4] D (f_Model_in v0 v2 v4 D) := by
  refine zm_P (lv := [(0, zl v0), (2, zl v2), (4, zl v4)]) hZ (by decide +kernel) rfl (Nat.le_of_ble_eq_true rfl) rfl (fun Γ hl X => ?_)
  subst hl
  unfold f_Model_in
  refine zv_lload_n X d_Model_in_0 rfl 0 rfl ?_
  refine zv_lload_n X d_Model_in_1 rfl 1 rfl ?_
  refine zv_lcmp_lt X (tgt := 17) d_Model_in_2 d_Model_in_3 (by decide) (fun h2 => ?_) (fun h2 => ?_)
  · refine zv_iconst X d_Model_in_17 ?_
    exact zv_zretPK X (Or.inl rfl) d_Model_in_18
  · refine zv_lload_n X d_Model_in_6 rfl 0 rfl ?_
    refine zv_lload X d_Model_in_7 2 rfl ?_
    refine zv_lcmp_gt X (tgt := 17) d_Model_in_9 d_Model_in_10 (by decide) (fun h9 => ?_) (fun h9 => ?_)
    · refine zv_iconst X d_Model_in_17 ?_
      exact zv_zretPK X (Or.inl rfl) d_Model_in_18
    · refine zv_iconst X d_Model_in_13 ?_
      refine zv_goto X (tgt := 18) d_Model_in_14 (by decide) ?_
      exact zv_zretPK X (Or.inr rfl) d_Model_in_18
set_option maxRecDepth 100000 in
theorem c_Model_has (l : Launch) {Z : Zt} (hZ : Zok Z) (hN : 166 ≤ Z.2.2.2.1) (v0 v1 : Int)  (D : Mm) : CtP l Z y_Model_has prog_10_method_3_code 2 (some .boolean) rm_Model_has 1 [zi v0, zi v1] D (f_Model_has v0 v1 D) := by
  refine zm_P (lv := [(0, zi v0), (1, zi v1)]) hZ (by decide +kernel) rfl (Nat.le_of_ble_eq_true rfl) rfl (fun Γ hl X => ?_)
  subst hl
  unfold f_Model_has
  refine zv_iload_n X d_Model_has_0 rfl 0 rfl ?_
  refine zv_iload_n X d_Model_has_1 rfl 1 rfl ?_
  refine zv_ishr X d_Model_has_2 ?_
  refine zv_iconst X d_Model_has_3 ?_
  refine zv_iand X d_Model_has_4 ?_
  refine zv_iconst X d_Model_has_5 ?_
  refine zv_icmp_ne X (tgt := 13) d_Model_has_6 (by decide) (fun h6 => ?_) (fun h6 => ?_)
  · refine zv_iconst X d_Model_has_13 ?_
    exact zv_zretPK X (Or.inl rfl) d_Model_has_14
  · refine zv_iconst X d_Model_has_9 ?_
    refine zv_goto X (tgt := 14) d_Model_has_10 (by decide) ?_
    exact zv_zretPK X (Or.inr rfl) d_Model_has_14
set_option maxRecDepth 100000 in
theorem v_Model_noStones_114 {Γ : Gt} {Z : Zt} (X : Cx Γ Z prog_10_method_4_code R_Model 3 none rm_Model_noStones) (hN : 166 ≤ Z.2.2.2.1) (v1 : Int)    : ∀ (n : Nat) (v2 : Int) (D : Mm), Zv Γ Z 3 (QfM Γ Z 0) (f_Model_noStones_114 v1 n v2 D) D 114 [(0, zr Z 144), (1, zi v1), (2, zi v2)] [] := by
  intro n
  induction n with
  | zero =>
    intro v2 D
    exact zv_none
  | succ n ih =>
    intro v2 D
    rw [f_Model_noStones_114]
    refine zv_iload_n X d_Model_noStones_114 rfl 2 rfl ?_
    refine zv_bipush X d_Model_noStones_115 (by decide +kernel) ?_
    refine zv_icmp_ge X (tgt := 138) d_Model_noStones_117 (by decide) (fun h117 => ?_) (fun h117 => ?_)
    · exact zv_vretM X d_Model_noStones_138
    · refine zv_aload_n X d_Model_noStones_120 rfl 0 rfl ?_
      refine zv_get X (ci := 7) rfl i_Model (za_144 hN) 14 (by decide) lk_Model_49 rfl rfl d_Model_noStones_121 ?_
      refine zv_bipush X d_Model_noStones_124 (by decide +kernel) ?_
      refine zv_iload_n X d_Model_noStones_126 rfl 1 rfl ?_
      refine zv_imul X d_Model_noStones_127 ?_
      refine zv_iload_n X d_Model_noStones_128 rfl 2 rfl ?_
      refine zv_iadd X d_Model_noStones_129 ?_
      refine zv_iconst X d_Model_noStones_130 ?_
      refine zv_iastC X (za_158 hN) d_Model_noStones_131 (fun ha131 hb131 D1 => ?_)
      refine zv_iinc X (lv2 := [(2, zi (v2 + 1)), (0, zr Z 144), (1, zi v1)]) d_Model_noStones_132 2 rfl (by decide) rfl ?_
      refine zv_goto X (tgt := 114) d_Model_noStones_135 (by decide) ?_
      refine zv_sub X [1, 2, 0] rfl ?_
      exact ih (v2 + 1) D1
set_option maxRecDepth 100000 in
theorem v_Model_noStones_68 {Γ : Gt} {Z : Zt} (X : Cx Γ Z prog_10_method_4_code R_Model 3 none rm_Model_noStones) (hN : 166 ≤ Z.2.2.2.1) (v1 : Int)    : ∀ (n : Nat) (v2 : Int) (D : Mm), Zv Γ Z 3 (QfM Γ Z 0) (f_Model_noStones_68 v1 n v2 D) D 68 [(0, zr Z 144), (1, zi v1), (2, zi v2)] [] := by
  intro n
  induction n with
  | zero =>
    intro v2 D
    exact zv_none
  | succ n ih =>
    intro v2 D
    rw [f_Model_noStones_68]
    refine zv_iload_n X d_Model_noStones_68 rfl 2 rfl ?_
    refine zv_iconst X d_Model_noStones_69 ?_
    refine zv_icmp_ge X (tgt := 112) d_Model_noStones_70 (by decide) (fun h70 => ?_) (fun h70 => ?_)
    · refine zv_iconst X d_Model_noStones_112 ?_
      refine zv_istore_n X (lv2 := [(2, zi 0), (0, zr Z 144), (1, zi v1)]) d_Model_noStones_113 rfl (by decide) rfl ?_
      refine zv_sub X [1, 2, 0] rfl ?_
      exact v_Model_noStones_114 X hN v1 zF 0 D
    · refine zv_aload_n X d_Model_noStones_73 rfl 0 rfl ?_
      refine zv_get X (ci := 7) rfl i_Model (za_144 hN) 11 (by decide) lk_Model_40 rfl rfl d_Model_noStones_74 ?_
      refine zv_iconst X d_Model_noStones_77 ?_
      refine zv_iload_n X d_Model_noStones_78 rfl 1 rfl ?_
      refine zv_imul X d_Model_noStones_79 ?_
      refine zv_iload_n X d_Model_noStones_80 rfl 2 rfl ?_
      refine zv_iadd X d_Model_noStones_81 ?_
      refine zv_iconst X d_Model_noStones_82 ?_
      refine zv_iastC X (za_155 hN) d_Model_noStones_83 (fun ha83 hb83 D1 => ?_)
      refine zv_aload_n X d_Model_noStones_84 rfl 0 rfl ?_
      refine zv_get X (ci := 7) rfl i_Model (za_144 hN) 12 (by decide) lk_Model_43 rfl rfl d_Model_noStones_85 ?_
      refine zv_iconst X d_Model_noStones_88 ?_
      refine zv_iload_n X d_Model_noStones_89 rfl 1 rfl ?_
      refine zv_imul X d_Model_noStones_90 ?_
      refine zv_iload_n X d_Model_noStones_91 rfl 2 rfl ?_
      refine zv_iadd X d_Model_noStones_92 ?_
      refine zv_iconst X d_Model_noStones_93 ?_
      refine zv_iastC X (za_156 hN) d_Model_noStones_94 (fun ha94 hb94 D2 => ?_)
      refine zv_aload_n X d_Model_noStones_95 rfl 0 rfl ?_
      refine zv_get X (ci := 7) rfl i_Model (za_144 hN) 13 (by decide) lk_Model_46 rfl rfl d_Model_noStones_96 ?_
      refine zv_iconst X d_Model_noStones_99 ?_
      refine zv_iload_n X d_Model_noStones_100 rfl 1 rfl ?_
      refine zv_imul X d_Model_noStones_101 ?_
      refine zv_iload_n X d_Model_noStones_102 rfl 2 rfl ?_
      refine zv_iadd X d_Model_noStones_103 ?_
      refine zv_iconst X d_Model_noStones_104 ?_
      refine zv_iastC X (za_157 hN) d_Model_noStones_105 (fun ha105 hb105 D3 => ?_)
      refine zv_iinc X (lv2 := [(2, zi (v2 + 1)), (0, zr Z 144), (1, zi v1)]) d_Model_noStones_106 2 rfl (by decide) rfl ?_
      refine zv_goto X (tgt := 68) d_Model_noStones_109 (by decide) ?_
      refine zv_sub X [1, 2, 0] rfl ?_
      exact ih (v2 + 1) D3
set_option maxRecDepth 100000 in
theorem v_Model_noStones_42 {Γ : Gt} {Z : Zt} (X : Cx Γ Z prog_10_method_4_code R_Model 3 none rm_Model_noStones) (hN : 166 ≤ Z.2.2.2.1) (v1 : Int)    : ∀ (n : Nat) (v2 : Int) (D : Mm), Zv Γ Z 3 (QfM Γ Z 0) (f_Model_noStones_42 v1 n v2 D) D 42 [(0, zr Z 144), (1, zi v1), (2, zi v2)] [] := by
  intro n
  induction n with
  | zero =>
    intro v2 D
    exact zv_none
  | succ n ih =>
    intro v2 D
    rw [f_Model_noStones_42]
    refine zv_iload_n X d_Model_noStones_42 rfl 2 rfl ?_
    refine zv_bipush X d_Model_noStones_43 (by decide +kernel) ?_
    refine zv_icmp_ge X (tgt := 66) d_Model_noStones_45 (by decide) (fun h45 => ?_) (fun h45 => ?_)
    · refine zv_iconst X d_Model_noStones_66 ?_
      refine zv_istore_n X (lv2 := [(2, zi 0), (0, zr Z 144), (1, zi v1)]) d_Model_noStones_67 rfl (by decide) rfl ?_
      refine zv_sub X [1, 2, 0] rfl ?_
      exact v_Model_noStones_68 X hN v1 zF 0 D
    · refine zv_aload_n X d_Model_noStones_48 rfl 0 rfl ?_
      refine zv_get X (ci := 7) rfl i_Model (za_144 hN) 10 (by decide) lk_Model_37 rfl rfl d_Model_noStones_49 ?_
      refine zv_bipush X d_Model_noStones_52 (by decide +kernel) ?_
      refine zv_iload_n X d_Model_noStones_54 rfl 1 rfl ?_
      refine zv_imul X d_Model_noStones_55 ?_
      refine zv_iload_n X d_Model_noStones_56 rfl 2 rfl ?_
      refine zv_iadd X d_Model_noStones_57 ?_
      refine zv_iconst X d_Model_noStones_58 ?_
      refine zv_iastC X (za_154 hN) d_Model_noStones_59 (fun ha59 hb59 D1 => ?_)
      refine zv_iinc X (lv2 := [(2, zi (v2 + 1)), (0, zr Z 144), (1, zi v1)]) d_Model_noStones_60 2 rfl (by decide) rfl ?_
      refine zv_goto X (tgt := 42) d_Model_noStones_63 (by decide) ?_
      refine zv_sub X [1, 2, 0] rfl ?_
      exact ih (v2 + 1) D1
set_option maxRecDepth 100000 in
theorem v_Model_noStones_16 {Γ : Gt} {Z : Zt} (X : Cx Γ Z prog_10_method_4_code R_Model 3 none rm_Model_noStones) (hN : 166 ≤ Z.2.2.2.1) (v1 : Int)    : ∀ (n : Nat) (v2 : Int) (D : Mm), Zv Γ Z 3 (QfM Γ Z 0) (f_Model_noStones_16 v1 n v2 D) D 16 [(0, zr Z 144), (1, zi v1), (2, zi v2)] [] := by
  intro n
  induction n with
  | zero =>
    intro v2 D
    exact zv_none
  | succ n ih =>
    intro v2 D
    rw [f_Model_noStones_16]
    refine zv_iload_n X d_Model_noStones_16 rfl 2 rfl ?_
    refine zv_bipush X d_Model_noStones_17 (by decide +kernel) ?_
    refine zv_icmp_ge X (tgt := 40) d_Model_noStones_19 (by decide) (fun h19 => ?_) (fun h19 => ?_)
    · refine zv_iconst X d_Model_noStones_40 ?_
      refine zv_istore_n X (lv2 := [(2, zi 0), (0, zr Z 144), (1, zi v1)]) d_Model_noStones_41 rfl (by decide) rfl ?_
      refine zv_sub X [1, 2, 0] rfl ?_
      exact v_Model_noStones_42 X hN v1 zF 0 D
    · refine zv_aload_n X d_Model_noStones_22 rfl 0 rfl ?_
      refine zv_get X (ci := 7) rfl i_Model (za_144 hN) 9 (by decide) lk_Model_34 rfl rfl d_Model_noStones_23 ?_
      refine zv_bipush X d_Model_noStones_26 (by decide +kernel) ?_
      refine zv_iload_n X d_Model_noStones_28 rfl 1 rfl ?_
      refine zv_imul X d_Model_noStones_29 ?_
      refine zv_iload_n X d_Model_noStones_30 rfl 2 rfl ?_
      refine zv_iadd X d_Model_noStones_31 ?_
      refine zv_iconst X d_Model_noStones_32 ?_
      refine zv_iastC X (za_153 hN) d_Model_noStones_33 (fun ha33 hb33 D1 => ?_)
      refine zv_iinc X (lv2 := [(2, zi (v2 + 1)), (0, zr Z 144), (1, zi v1)]) d_Model_noStones_34 2 rfl (by decide) rfl ?_
      refine zv_goto X (tgt := 16) d_Model_noStones_37 (by decide) ?_
      refine zv_sub X [1, 2, 0] rfl ?_
      exact ih (v2 + 1) D1
set_option maxRecDepth 100000 in
theorem c_Model_noStones (l : Launch) {Z : Zt} (hZ : Zok Z) (hN : 166 ≤ Z.2.2.2.1) (v1 : Int)  (D : Mm) : CtM l Z y_Model_noStones prog_10_method_4_code 3 none rm_Model_noStones 0 [zr Z 144, zi v1] D (f_Model_noStones v1 D) := by
  refine zm_M (lv := [(0, zr Z 144), (1, zi v1)]) hZ (by decide +kernel) rfl (Nat.le_of_ble_eq_true rfl) rfl (fun Γ hl X => ?_)
  subst hl
  unfold f_Model_noStones
  refine zv_aload_n X d_Model_noStones_0 rfl 0 rfl ?_
  refine zv_get X (ci := 7) rfl i_Model (za_144 hN) 2 (by decide) lk_Model_13 rfl rfl d_Model_noStones_1 ?_
  refine zv_iload_n X d_Model_noStones_4 rfl 1 rfl ?_
  refine zv_iconst X d_Model_noStones_5 ?_
  refine zv_iastC X (za_146 hN) d_Model_noStones_6 (fun ha6 hb6 D1 => ?_)
  refine zv_aload_n X d_Model_noStones_7 rfl 0 rfl ?_
  refine zv_get X (ci := 7) rfl i_Model (za_144 hN) 4 (by decide) lk_Model_19 rfl rfl d_Model_noStones_8 ?_
  refine zv_iload_n X d_Model_noStones_11 rfl 1 rfl ?_
  refine zv_iconst X d_Model_noStones_12 ?_
  refine zv_iastC X (za_148 hN) d_Model_noStones_13 (fun ha13 hb13 D2 => ?_)
  refine zv_iconst X d_Model_noStones_14 ?_
  refine zv_istore_n X (lv2 := [(2, zi 0), (0, zr Z 144), (1, zi v1)]) d_Model_noStones_15 rfl (by decide) rfl ?_
  refine zv_sub X [1, 2, 0] rfl ?_
  exact v_Model_noStones_16 X hN v1 zF 0 D2
set_option maxRecDepth 100000 in
theorem v_Model_write_34 {Γ : Gt} {Z : Zt} (X : Cx Γ Z prog_10_method_5_code R_Model 5 (some .int) rm_Model_write) (hN : 166 ≤ Z.2.2.2.1) (v2 : Int)    : ∀ (n : Nat) (v4 : Int) (D : Mm), Zv Γ Z 5 (QfM Γ Z 1) (f_Model_write_34 v2 n v4 D) D 34 [(0, zr Z 144), (2, zl v2), (4, zi v4)] [] := by
  intro n
  induction n with
  | zero =>
    intro v4 D
    exact zv_none
  | succ n ih =>
    intro v4 D
    rw [f_Model_write_34]
    refine zv_iload X d_Model_write_34 2 rfl ?_
    refine zv_if_lt X (y := 0) (tgt := 76) d_Model_write_36 (by decide) (fun h36 => ?_) (fun h36 => ?_)
    · refine zv_aload_n X d_Model_write_76 rfl 0 rfl ?_
      refine zv_get X (ci := 7) rfl i_Model (za_144 hN) 0 (by decide) lk_Model_86 rfl rfl d_Model_write_77 ?_
      exact zv_iretM X d_Model_write_80
    · refine zv_aload_n X d_Model_write_39 rfl 0 rfl ?_
      refine zv_get X (ci := 7) rfl i_Model (za_144 hN) 1 (by decide) lk_Model_7 rfl rfl d_Model_write_40 ?_
      refine zv_aload_n X d_Model_write_43 rfl 0 rfl ?_
      refine zv_get X (ci := 7) rfl i_Model (za_144 hN) 0 (by decide) lk_Model_86 rfl rfl d_Model_write_44 ?_
      refine zv_lload_n X d_Model_write_47 rfl 1 rfl ?_
      refine zv_bipush X d_Model_write_48 (by decide +kernel) ?_
      refine zv_iload X d_Model_write_50 2 rfl ?_
      refine zv_imul X d_Model_write_52 ?_
      refine zv_lshr X d_Model_write_53 ?_
      refine zv_ldc2 X 255 kc_Model_90 (by decide +kernel) d_Model_write_54 ?_
      refine zv_land X d_Model_write_57 ?_
      refine zv_l2i X d_Model_write_58 ?_
      refine zv_iastC X (za_145 hN) d_Model_write_59 (fun ha59 hb59 D1 => ?_)
      refine zv_aload_n X d_Model_write_60 rfl 0 rfl ?_
      refine zv_dup X d_Model_write_61 rfl ?_
      refine zv_get X (ci := 7) rfl i_Model (za_144 hN) 0 (by decide) lk_Model_86 rfl rfl d_Model_write_62 ?_
      refine zv_iconst X d_Model_write_65 ?_
      refine zv_iadd X d_Model_write_66 ?_
      refine zv_putC X (ci := 7) rfl i_Model t_Model t_Model_ok n_Model (za_144 hN) 0 rfl (by decide) lk_Model_86 rfl rfl (ps_7_0 ..) (Nat.le_of_ble_eq_true rfl) rfl rfl d_Model_write_67 (fun D2 => ?_)
      refine zv_iinc X (lv2 := [(4, zi (v4 + (-1))), (0, zr Z 144), (2, zl v2)]) d_Model_write_70 2 rfl (by decide) rfl ?_
      refine zv_goto X (tgt := 34) d_Model_write_73 (by decide) ?_
      refine zv_sub X [1, 2, 0] rfl ?_
      exact ih (v4 + (-1)) D2
set_option maxRecDepth 100000 in
theorem c_Model_write (l : Launch) {Z : Zt} (hZ : Zok Z) (hN : 166 ≤ Z.2.2.2.1) (v1 v2 : Int)  (D : Mm) : CtM l Z y_Model_write prog_10_method_5_code 5 (some .int) rm_Model_write 1 [zr Z 144, zi v1, zl v2] D (f_Model_write v1 v2 D) := by
  refine zm_M (lv := [(0, zr Z 144), (1, zi v1), (2, zl v2)]) hZ (by decide +kernel) rfl (Nat.le_of_ble_eq_true rfl) rfl (fun Γ hl X => ?_)
  subst hl
  unfold f_Model_write
  refine zv_iload_n X d_Model_write_0 rfl 1 rfl ?_
  refine zv_i2l X d_Model_write_1 ?_
  refine zv_lconst X (x := 1) d_Model_write_2 (by decide +kernel) ?_
  refine zv_ldc2 X 8 kc_Model_80 (by decide +kernel) d_Model_write_3 ?_
  refine zv_cSP1 X (av := [zl (wI v1), zl 1, zl 8]) (st := []) (c_Model_in Γ.2.1 X.2.2.2.2.2.2.2.1 hN (wI v1) 1 8 D) mk_Model_82 ⟨rfl, rfl, Nat.le_of_ble_eq_true rfl, Nat.le_of_ble_eq_true rfl⟩ rfl (Nat.le_of_ble_eq_true rfl) d_Model_write_6 (fun r1 hr1 => ?_)
  refine zv_if_ne X (y := 0) (tgt := 14) d_Model_write_9 (by decide) (fun h9 => ?_) (fun h9 => ?_)
  · refine zv_aload_n X d_Model_write_14 rfl 0 rfl ?_
    refine zv_get X (ci := 7) rfl i_Model (za_144 hN) 0 (by decide) lk_Model_86 rfl rfl d_Model_write_15 ?_
    refine zv_iload_n X d_Model_write_18 rfl 1 rfl ?_
    refine zv_iadd X d_Model_write_19 ?_
    refine zv_sipush X d_Model_write_20 (by decide +kernel) ?_
    refine zv_icmp_le X (tgt := 29) d_Model_write_23 (by decide) (fun h23 => ?_) (fun h23 => ?_)
    · refine zv_iload_n X d_Model_write_29 rfl 1 rfl ?_
      refine zv_iconst X d_Model_write_30 ?_
      refine zv_isub X d_Model_write_31 ?_
      refine zv_istore X (lv2 := [(4, zi (v1 - 1)), (0, zr Z 144), (1, zi v1), (2, zl v2)]) d_Model_write_32 (by decide) rfl ?_
      refine zv_sub X [1, 3, 0] rfl ?_
      exact v_Model_write_34 X hN v2 zF (v1 - 1) D
    · refine zv_bipush X d_Model_write_26 (by decide +kernel) ?_
      exact zv_iretM X d_Model_write_28
  · refine zv_iconst X d_Model_write_12 ?_
    exact zv_iretM X d_Model_write_13
set_option maxRecDepth 100000 in
theorem c_Model_wipe (l : Launch) {Z : Zt} (hZ : Zok Z) (hN : 166 ≤ Z.2.2.2.1)  (D : Mm) : CtM l Z y_Model_wipe prog_10_method_6_code 2 (some .int) rm_Model_wipe 1 [zr Z 144] D (f_Model_wipe D) := by
  refine zm_M (lv := [(0, zr Z 144)]) hZ (by decide +kernel) rfl (Nat.le_of_ble_eq_true rfl) rfl (fun Γ hl X => ?_)
  subst hl
  unfold f_Model_wipe
  refine zv_aload_n X d_Model_wipe_0 rfl 0 rfl ?_
  refine zv_get X (ci := 7) rfl i_Model (za_144 hN) 0 (by decide) lk_Model_86 rfl rfl d_Model_wipe_1 ?_
  refine zv_istore_n X (lv2 := [(1, zi (D 144 0)), (0, zr Z 144)]) d_Model_wipe_4 rfl (by decide) rfl ?_
  refine zv_aload_n X d_Model_wipe_5 rfl 1 rfl ?_
  refine zv_iconst X d_Model_wipe_6 ?_
  refine zv_putC X (ci := 7) rfl i_Model t_Model t_Model_ok n_Model (za_144 hN) 0 rfl (by decide) lk_Model_86 rfl rfl (ps_7_0 ..) (Nat.le_of_ble_eq_true rfl) rfl rfl d_Model_wipe_7 (fun D1 => ?_)
  refine zv_iload_n X d_Model_wipe_10 rfl 0 rfl ?_
  exact zv_iretM X d_Model_wipe_11
set_option maxRecDepth 100000 in
theorem c_Model_byteAt (l : Launch) {Z : Zt} (hZ : Zok Z) (hN : 166 ≤ Z.2.2.2.1) (v1 : Int)  (D : Mm) : CtP l Z y_Model_byteAt prog_10_method_7_code 2 (some .int) rm_Model_byteAt 1 [zr Z 144, zi v1] D (f_Model_byteAt v1 D) := by
  refine zm_P (lv := [(0, zr Z 144), (1, zi v1)]) hZ (by decide +kernel) rfl (Nat.le_of_ble_eq_true rfl) rfl (fun Γ hl X => ?_)
  subst hl
  unfold f_Model_byteAt
  refine zv_iload_n X d_Model_byteAt_0 rfl 1 rfl ?_
  refine zv_aload_n X d_Model_byteAt_1 rfl 0 rfl ?_
  refine zv_get X (ci := 7) rfl i_Model (za_144 hN) 0 (by decide) lk_Model_86 rfl rfl d_Model_byteAt_2 ?_
  refine zv_icmp_ge X (tgt := 17) d_Model_byteAt_5 (by decide) (fun h5 => ?_) (fun h5 => ?_)
  · refine zv_iconst X d_Model_byteAt_17 ?_
    exact zv_iretP X d_Model_byteAt_18
  · refine zv_aload_n X d_Model_byteAt_8 rfl 0 rfl ?_
    refine zv_get X (ci := 7) rfl i_Model (za_144 hN) 1 (by decide) lk_Model_7 rfl rfl d_Model_byteAt_9 ?_
    refine zv_iload_n X d_Model_byteAt_12 rfl 1 rfl ?_
    refine zv_iald X (za_145 hN) d_Model_byteAt_13 (fun ha13 hb13 => ?_)
    refine zv_goto X (tgt := 18) d_Model_byteAt_14 (by decide) ?_
    exact zv_iretP X d_Model_byteAt_18
set_option maxRecDepth 100000 in
theorem v_Model_figures_107 {Γ : Gt} {Z : Zt} (X : Cx Γ Z prog_10_method_8_code R_Model 5 (some .boolean) rm_Model_figures) (hN : 166 ≤ Z.2.2.2.1) (v1 v2 v4 s0 s1 : Int)  (K2 : Int → Mm → Option (Int × Mm)) (D : Mm) (hK2 : ∀ (v2 : Int) (D : Mm), Zv Γ Z 5 (QfM Γ Z 1) (K2 v2 D) D 2 [(0, zr Z 144), (1, zi v1), (2, zi v2)] []) : Zv Γ Z 5 (QfM Γ Z 1) (f_Model_figures_107 v1 v2 v4 s0 s1 K2 D) D 107 [(0, zr Z 144), (1, zi v1), (2, zi v2), (4, zi v4)] [zi s0, zi s1] := by
  unfold f_Model_figures_107
  refine zv_icmp_eq X (tgt := 112) d_Model_figures_107 (by decide) (fun h107 => ?_) (fun h107 => ?_)
  · refine zv_aload_n X d_Model_figures_112 rfl 0 rfl ?_
    refine zv_get X (ci := 7) rfl i_Model (za_144 hN) 21 (by decide) lk_Model_64 rfl rfl d_Model_figures_113 ?_
    refine zv_iload_n X d_Model_figures_116 rfl 2 rfl ?_
    refine zv_iload X d_Model_figures_117 3 rfl ?_
    refine zv_iastC X (za_163 hN) d_Model_figures_119 (fun ha119 hb119 D1 => ?_)
    refine zv_aload_n X d_Model_figures_120 rfl 0 rfl ?_
    refine zv_dup X d_Model_figures_121 rfl ?_
    refine zv_get X (ci := 7) rfl i_Model (za_144 hN) 20 (by decide) lk_Model_92 rfl rfl d_Model_figures_122 ?_
    refine zv_iconst X d_Model_figures_125 ?_
    refine zv_iadd X d_Model_figures_126 ?_
    refine zv_putC X (ci := 7) rfl i_Model t_Model t_Model_ok n_Model (za_144 hN) 20 rfl (by decide) lk_Model_92 rfl rfl (ps_7_20 ..) (Nat.le_of_ble_eq_true rfl) rfl rfl d_Model_figures_127 (fun D2 => ?_)
    refine zv_iinc X (lv2 := [(2, zi (v2 + 1)), (0, zr Z 144), (1, zi v1), (4, zi v4)]) d_Model_figures_130 2 rfl (by decide) rfl ?_
    refine zv_goto X (tgt := 2) d_Model_figures_133 (by decide) ?_
    refine zv_sub X [1, 2, 0] rfl ?_
    exact hK2 (v2 + 1) D2
  · refine zv_iconst X d_Model_figures_110 ?_
    exact zv_zretMK X (Or.inl rfl) d_Model_figures_111
set_option maxRecDepth 100000 in
theorem v_Model_figures_73 {Γ : Gt} {Z : Zt} (X : Cx Γ Z prog_10_method_8_code R_Model 5 (some .boolean) rm_Model_figures) (hN : 166 ≤ Z.2.2.2.1) (v1 v2 v3 v4 : Int)  (K2 : Int → Mm → Option (Int × Mm)) (D : Mm) (hK2 : ∀ (v2 : Int) (D : Mm), Zv Γ Z 5 (QfM Γ Z 1) (K2 v2 D) D 2 [(0, zr Z 144), (1, zi v1), (2, zi v2)] []) : Zv Γ Z 5 (QfM Γ Z 1) (f_Model_figures_73 v1 v2 v3 v4 K2 D) D 73 [(0, zr Z 144), (1, zi v1), (2, zi v2), (3, zi v3), (4, zi v4)] [] := by
  unfold f_Model_figures_73
  refine zv_iload_n X d_Model_figures_73 rfl 3 rfl ?_
  refine zv_i2l X d_Model_figures_74 ?_
  refine zv_lconst X (x := 1) d_Model_figures_75 (by decide +kernel) ?_
  refine zv_ldc2 X 3 kc_Model_103 (by decide +kernel) d_Model_figures_76 ?_
  refine zv_cSP1 X (av := [zl (wI v3), zl 1, zl 3]) (st := []) (c_Model_in Γ.2.1 X.2.2.2.2.2.2.2.1 hN (wI v3) 1 3 D) mk_Model_82 ⟨rfl, rfl, Nat.le_of_ble_eq_true rfl, Nat.le_of_ble_eq_true rfl⟩ rfl (Nat.le_of_ble_eq_true rfl) d_Model_figures_79 (fun r1 hr1 => ?_)
  refine zv_if_eq X (y := 0) (tgt := 110) d_Model_figures_82 (by decide) (fun h82 => ?_) (fun h82 => ?_)
  · refine zv_iconst X d_Model_figures_110 ?_
    exact zv_zretMK X (Or.inl rfl) d_Model_figures_111
  · refine zv_aload_n X d_Model_figures_85 rfl 0 rfl ?_
    refine zv_aload_n X d_Model_figures_86 rfl 0 rfl ?_
    refine zv_get X (ci := 7) rfl i_Model (za_144 hN) 20 (by decide) lk_Model_92 rfl rfl d_Model_figures_87 ?_
    refine zv_cVP1 X (av := [zi (D 144 20)]) (st := []) (ci := 7) (c_Model_byteAt Γ.2.1 X.2.2.2.2.2.2.2.1 hN (D 144 20) D) mk_Model_95 rfl (za_144 hN) ⟨rfl, rfl, Nat.le_of_ble_eq_true rfl, Nat.le_of_ble_eq_true rfl⟩ rfl (Nat.le_of_ble_eq_true rfl) d_Model_figures_90 (fun r2 hr2 => ?_)
    refine zv_iload_n X d_Model_figures_93 rfl 2 rfl ?_
    refine zv_iload_n X d_Model_figures_94 rfl 1 rfl ?_
    refine zv_iconst X d_Model_figures_95 ?_
    refine zv_isub X d_Model_figures_96 ?_
    refine zv_icmp_ge X (tgt := 105) d_Model_figures_97 (by decide) (fun h97 => ?_) (fun h97 => ?_)
    · refine zv_bipush X d_Model_figures_105 (by decide +kernel) ?_
      refine zv_sub X [0, 1, 2, 4] rfl ?_
      exact v_Model_figures_107 X hN v1 v2 v4 59 r2 K2 D hK2
    · refine zv_bipush X d_Model_figures_100 (by decide +kernel) ?_
      refine zv_goto X (tgt := 107) d_Model_figures_102 (by decide) ?_
      refine zv_sub X [0, 1, 2, 4] rfl ?_
      exact v_Model_figures_107 X hN v1 v2 v4 44 r2 K2 D hK2
set_option maxRecDepth 100000 in
theorem v_Model_figures_12 {Γ : Gt} {Z : Zt} (X : Cx Γ Z prog_10_method_8_code R_Model 5 (some .boolean) rm_Model_figures) (hN : 166 ≤ Z.2.2.2.1) (v1 v2 : Int)  (K2 : Int → Mm → Option (Int × Mm))  (hK2 : ∀ (v2 : Int) (D : Mm), Zv Γ Z 5 (QfM Γ Z 1) (K2 v2 D) D 2 [(0, zr Z 144), (1, zi v1), (2, zi v2)] []): ∀ (n : Nat) (v3 v4 : Int) (D : Mm), Zv Γ Z 5 (QfM Γ Z 1) (f_Model_figures_12 v1 v2 K2 n v3 v4 D) D 12 [(0, zr Z 144), (1, zi v1), (2, zi v2), (3, zi v3), (4, zi v4)] [] := by
  intro n
  induction n with
  | zero =>
    intro v3 v4 D
    exact zv_none
  | succ n ih =>
    intro v3 v4 D
    rw [f_Model_figures_12]
    refine zv_aload_n X d_Model_figures_12 rfl 0 rfl ?_
    refine zv_aload_n X d_Model_figures_13 rfl 0 rfl ?_
    refine zv_get X (ci := 7) rfl i_Model (za_144 hN) 20 (by decide) lk_Model_92 rfl rfl d_Model_figures_14 ?_
    refine zv_cVP1 X (av := [zi (D 144 20)]) (st := []) (ci := 7) (c_Model_byteAt Γ.2.1 X.2.2.2.2.2.2.2.1 hN (D 144 20) D) mk_Model_95 rfl (za_144 hN) ⟨rfl, rfl, Nat.le_of_ble_eq_true rfl, Nat.le_of_ble_eq_true rfl⟩ rfl (Nat.le_of_ble_eq_true rfl) d_Model_figures_17 (fun r1 hr1 => ?_)
    refine zv_i2l X d_Model_figures_20 ?_
    refine zv_ldc2 X 48 kc_Model_99 (by decide +kernel) d_Model_figures_21 ?_
    refine zv_ldc2 X 57 kc_Model_101 (by decide +kernel) d_Model_figures_24 ?_
    refine zv_cSP1 X (av := [zl (wI r1), zl 48, zl 57]) (st := []) (c_Model_in Γ.2.1 X.2.2.2.2.2.2.2.1 hN (wI r1) 48 57 D) mk_Model_82 ⟨rfl, rfl, Nat.le_of_ble_eq_true rfl, Nat.le_of_ble_eq_true rfl⟩ rfl (Nat.le_of_ble_eq_true rfl) d_Model_figures_27 (fun r2 hr2 => ?_)
    refine zv_if_eq X (y := 0) (tgt := 73) d_Model_figures_30 (by decide) (fun h30 => ?_) (fun h30 => ?_)
    · exact v_Model_figures_73 X hN v1 v2 v3 v4 K2 D hK2
    · refine zv_iload_n X d_Model_figures_33 rfl 3 rfl ?_
      refine zv_iconst X d_Model_figures_34 ?_
      refine zv_icmp_ge X (tgt := 73) d_Model_figures_35 (by decide) (fun h35 => ?_) (fun h35 => ?_)
      · exact v_Model_figures_73 X hN v1 v2 v3 v4 K2 D hK2
      · refine zv_bipush X d_Model_figures_38 (by decide +kernel) ?_
        refine zv_iload X d_Model_figures_40 4 rfl ?_
        refine zv_imul X d_Model_figures_42 ?_
        refine zv_aload_n X d_Model_figures_43 rfl 0 rfl ?_
        refine zv_aload_n X d_Model_figures_44 rfl 0 rfl ?_
        refine zv_get X (ci := 7) rfl i_Model (za_144 hN) 20 (by decide) lk_Model_92 rfl rfl d_Model_figures_45 ?_
        refine zv_cVP1 X (av := [zi (D 144 20)]) (st := [zi (10 * v4)]) (ci := 7) (c_Model_byteAt Γ.2.1 X.2.2.2.2.2.2.2.1 hN (D 144 20) D) mk_Model_95 rfl (za_144 hN) ⟨rfl, rfl, Nat.le_of_ble_eq_true rfl, Nat.le_of_ble_eq_true rfl⟩ rfl (Nat.le_of_ble_eq_true rfl) d_Model_figures_48 (fun r3 hr3 => ?_)
        refine zv_iadd X d_Model_figures_51 ?_
        refine zv_bipush X d_Model_figures_52 (by decide +kernel) ?_
        refine zv_isub X d_Model_figures_54 ?_
        refine zv_istore X (lv2 := [(4, zi (((10 * v4) + r3) - 48)), (0, zr Z 144), (1, zi v1), (2, zi v2), (3, zi v3)]) d_Model_figures_55 (by decide) rfl ?_
        refine zv_iinc X (lv2 := [(3, zi (v3 + 1)), (4, zi (((10 * v4) + r3) - 48)), (0, zr Z 144), (1, zi v1), (2, zi v2)]) d_Model_figures_57 4 rfl (by decide) rfl ?_
        refine zv_aload_n X d_Model_figures_60 rfl 2 rfl ?_
        refine zv_dup X d_Model_figures_61 rfl ?_
        refine zv_get X (ci := 7) rfl i_Model (za_144 hN) 20 (by decide) lk_Model_92 rfl rfl d_Model_figures_62 ?_
        refine zv_iconst X d_Model_figures_65 ?_
        refine zv_iadd X d_Model_figures_66 ?_
        refine zv_putC X (ci := 7) rfl i_Model t_Model t_Model_ok n_Model (za_144 hN) 20 rfl (by decide) lk_Model_92 rfl rfl (ps_7_20 ..) (Nat.le_of_ble_eq_true rfl) rfl rfl d_Model_figures_67 (fun D4 => ?_)
        refine zv_goto X (tgt := 12) d_Model_figures_70 (by decide) ?_
        refine zv_sub X [2, 3, 4, 0, 1] rfl ?_
        exact ih (v3 + 1) (((10 * v4) + r3) - 48) D4
set_option maxRecDepth 100000 in
theorem v_Model_figures_2 {Γ : Gt} {Z : Zt} (X : Cx Γ Z prog_10_method_8_code R_Model 5 (some .boolean) rm_Model_figures) (hN : 166 ≤ Z.2.2.2.1) (v1 : Int)    : ∀ (n : Nat) (v2 : Int) (D : Mm), Zv Γ Z 5 (QfM Γ Z 1) (f_Model_figures_2 v1 n v2 D) D 2 [(0, zr Z 144), (1, zi v1), (2, zi v2)] [] := by
  intro n
  induction n with
  | zero =>
    intro v2 D
    exact zv_none
  | succ n ih =>
    intro v2 D
    rw [f_Model_figures_2]
    refine zv_iload_n X d_Model_figures_2 rfl 2 rfl ?_
    refine zv_iload_n X d_Model_figures_3 rfl 1 rfl ?_
    refine zv_icmp_ge X (tgt := 136) d_Model_figures_4 (by decide) (fun h4 => ?_) (fun h4 => ?_)
    · refine zv_iconst X d_Model_figures_136 ?_
      exact zv_zretMK X (Or.inr rfl) d_Model_figures_137
    · refine zv_iconst X d_Model_figures_7 ?_
      refine zv_istore_n X (lv2 := [(3, zi 0), (0, zr Z 144), (1, zi v1), (2, zi v2)]) d_Model_figures_8 rfl (by decide) rfl ?_
      refine zv_iconst X d_Model_figures_9 ?_
      refine zv_istore X (lv2 := [(4, zi 0), (3, zi 0), (0, zr Z 144), (1, zi v1), (2, zi v2)]) d_Model_figures_10 (by decide) rfl ?_
      refine zv_sub X [2, 3, 4, 1, 0] rfl ?_
      exact v_Model_figures_12 X hN v1 v2 (f_Model_figures_2 v1 n) ih zF 0 0 D
set_option maxRecDepth 100000 in
theorem c_Model_figures (l : Launch) {Z : Zt} (hZ : Zok Z) (hN : 166 ≤ Z.2.2.2.1) (v1 : Int)  (D : Mm) : CtM l Z y_Model_figures prog_10_method_8_code 5 (some .boolean) rm_Model_figures 1 [zr Z 144, zi v1] D (f_Model_figures v1 D) := by
  refine zm_M (lv := [(0, zr Z 144), (1, zi v1)]) hZ (by decide +kernel) rfl (Nat.le_of_ble_eq_true rfl) rfl (fun Γ hl X => ?_)
  subst hl
  unfold f_Model_figures
  refine zv_iconst X d_Model_figures_0 ?_
  refine zv_istore_n X (lv2 := [(2, zi 0), (0, zr Z 144), (1, zi v1)]) d_Model_figures_1 rfl (by decide) rfl ?_
  refine zv_sub X [1, 2, 0] rfl ?_
  exact v_Model_figures_2 X hN v1 zF 0 D

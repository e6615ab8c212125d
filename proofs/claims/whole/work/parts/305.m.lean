set_option maxRecDepth 100000 in
theorem v_Main_books_55 {Γ : Gt} {Z : Zt} (X : Cx Γ Z prog_1_method_18_code R_Main 5 (some .int) rm_Main_books) (hN : 143 ≤ Z.2.2.2.1) (v3 v4 s0 s1 s2 s4 : Int) (hs4 : isQ s4)  (D : Mm)  : Zv Γ Z 5 (QfM Γ Z 1) (f_Main_books_55 v3 v4 s0 s1 s2 s4 D) D 55 [(0, zr Z 1), (3, zi v3), (4, zi v4)] [zi s0, zi s1, zi s2, zr Z 12, zr Z s4, zr Z 6] := by
  unfold f_Main_books_55
  refine zv_cVM0 X (av := [zr Z s4, zr Z 12, zi s2, zi s1, zi s0]) (st := []) (ci := 2) (c_Books_search Γ.2.1 X.2.2.2.2.2.2.2.1 hN s4 12 s2 s1 s0 hs4 (Or.inl rfl) D) mk_Main_181 rfl (za_6 hN) ⟨rfl, rfl, Nat.le_of_ble_eq_true rfl, Nat.le_of_ble_eq_true rfl⟩ rfl (Nat.le_of_ble_eq_true rfl) d_Main_books_55 (fun _ D2 hr1 => ?_)
  refine zv_iload_n X d_Main_books_58 rfl 1 rfl ?_
  refine zv_iconst X d_Main_books_59 ?_
  refine zv_icmp_ne X (tgt := 71) d_Main_books_60 (by decide) (fun h60 => ?_) (fun h60 => ?_)
  · refine zv_aload_n X d_Main_books_71 rfl 0 rfl ?_
    refine zv_get X (ci := 6) rfl i_Main (za_1 hN) 2 (by decide) lk_Main_26 rfl rfl d_Main_books_72 ?_
    refine zv_get X (ci := 2) rfl i_Books (za_6 hN) 4 (by decide) lk_Main_185 rfl rfl d_Main_books_75 ?_
    refine zv_if_ne X (y := 0) (tgt := 84) d_Main_books_78 (by decide) (fun h78 => ?_) (fun h78 => ?_)
    · refine zv_iload X d_Main_books_84 2 rfl ?_
      refine zv_if_eq X (y := 0) (tgt := 99) d_Main_books_86 (by decide) (fun h86 => ?_) (fun h86 => ?_)
      · refine zv_aload_n X d_Main_books_99 rfl 0 rfl ?_
        refine zv_get X (ci := 6) rfl i_Main (za_1 hN) 2 (by decide) lk_Main_26 rfl rfl d_Main_books_100 ?_
        refine zv_get X (ci := 2) rfl i_Books (za_6 hN) 5 (by decide) lk_Main_191 rfl rfl d_Main_books_103 ?_
        exact zv_iretM X d_Main_books_106
      · refine zv_aload_n X d_Main_books_89 rfl 0 rfl ?_
        refine zv_get X (ci := 6) rfl i_Main (za_1 hN) 2 (by decide) lk_Main_26 rfl rfl d_Main_books_90 ?_
        refine zv_get X (ci := 2) rfl i_Books (za_6 hN) 6 (by decide) lk_Main_188 rfl rfl d_Main_books_93 ?_
        refine zv_goto X (tgt := 106) d_Main_books_96 (by decide) ?_
        exact zv_iretM X d_Main_books_106
    · refine zv_bipush X d_Main_books_81 (by decide +kernel) ?_
      exact zv_iretM X d_Main_books_83
  · refine zv_aload_n X d_Main_books_63 rfl 0 rfl ?_
    refine zv_get X (ci := 6) rfl i_Main (za_1 hN) 2 (by decide) lk_Main_26 rfl rfl d_Main_books_64 ?_
    refine zv_get X (ci := 2) rfl i_Books (za_6 hN) 4 (by decide) lk_Main_185 rfl rfl d_Main_books_67 ?_
    exact zv_iretM X d_Main_books_70
set_option maxRecDepth 100000 in
theorem c_Main_books (l : Launch) {Z : Zt} (hZ : Zok Z) (hN : 143 ≤ Z.2.2.2.1) (v1 v2 v3 v4 : Int)  (D : Mm) : CtM l Z y_Main_books prog_1_method_18_code 5 (some .int) rm_Main_books 1 [zr Z 1, zi v1, zi v2, zi v3, zi v4] D (f_Main_books v1 v2 v3 v4 D) := by
  refine zm_M (lv := [(0, zr Z 1), (1, zi v1), (2, zi v2), (3, zi v3), (4, zi v4)]) hZ (by decide +kernel) rfl (Nat.le_of_ble_eq_true rfl) rfl (fun Γ hl X => ?_)
  subst hl
  unfold f_Main_books
  refine zv_aload_n X d_Main_books_0 rfl 0 rfl ?_
  refine zv_guard (fun hq1 => ?_)
  refine zv_get X (ci := 6) rfl i_Main (za_1 hN) 7 (by decide) lk_Main_51 rfl rfl d_Main_books_1 ?_
  refine zv_iload_n X d_Main_books_4 rfl 1 rfl ?_
  refine zv_cVP1 X (av := [zi v1]) (st := []) (ci := 5) (c_Quern_hasSort Γ.2.1 X.2.2.2.2.2.2.2.1 hN (D 1 7) v1 hq1 D) mk_Main_110 rfl (zq_0 hN hq1) ⟨rfl, rfl, Nat.le_of_ble_eq_true rfl, Nat.le_of_ble_eq_true rfl⟩ rfl (Nat.le_of_ble_eq_true rfl) d_Main_books_5 (fun r1 hr1 => ?_)
  refine zv_if_eq X (y := 0) (tgt := 27) d_Main_books_8 (by decide) (fun h8 => ?_) (fun h8 => ?_)
  · refine zv_iconst X d_Main_books_27 ?_
    exact zv_iretM X d_Main_books_28
  · refine zv_iload_n X d_Main_books_11 rfl 2 rfl ?_
    refine zv_cSP1 X (av := [zi v2]) (st := []) (c_Main_isDoubt Γ.2.1 X.2.2.2.2.2.2.2.1 hN v2 D) mk_Main_178 ⟨rfl, rfl, Nat.le_of_ble_eq_true rfl, Nat.le_of_ble_eq_true rfl⟩ rfl (Nat.le_of_ble_eq_true rfl) d_Main_books_12 (fun r2 hr2 => ?_)
    refine zv_if_eq X (y := 0) (tgt := 27) d_Main_books_15 (by decide) (fun h15 => ?_) (fun h15 => ?_)
    · refine zv_iconst X d_Main_books_27 ?_
      exact zv_iretM X d_Main_books_28
    · refine zv_iload_n X d_Main_books_18 rfl 3 rfl ?_
      refine zv_iconst X d_Main_books_19 ?_
      refine zv_iconst X d_Main_books_20 ?_
      refine zv_cSP1 X (av := [zi v3, zi (-1), zi 3]) (st := []) (c_Main_within Γ.2.1 X.2.2.2.2.2.2.2.1 hN v3 (-1) 3 D) mk_Main_61 ⟨rfl, rfl, Nat.le_of_ble_eq_true rfl, Nat.le_of_ble_eq_true rfl⟩ rfl (Nat.le_of_ble_eq_true rfl) d_Main_books_21 (fun r3 hr3 => ?_)
      refine zv_if_ne X (y := 0) (tgt := 29) d_Main_books_24 (by decide) (fun h24 => ?_) (fun h24 => ?_)
      · refine zv_aload_n X d_Main_books_29 rfl 0 rfl ?_
        refine zv_get X (ci := 6) rfl i_Main (za_1 hN) 2 (by decide) lk_Main_26 rfl rfl d_Main_books_30 ?_
        refine zv_aload_n X d_Main_books_33 rfl 0 rfl ?_
        refine zv_guard (fun hq34 => ?_)
        refine zv_get X (ci := 6) rfl i_Main (za_1 hN) 7 (by decide) lk_Main_51 rfl rfl d_Main_books_34 ?_
        refine zv_aload_n X d_Main_books_37 rfl 0 rfl ?_
        refine zv_get X (ci := 6) rfl i_Main (za_1 hN) 4 (by decide) lk_Main_40 rfl rfl d_Main_books_38 ?_
        refine zv_iload_n X d_Main_books_41 rfl 1 rfl ?_
        refine zv_iload_n X d_Main_books_42 rfl 2 rfl ?_
        refine zv_iload_n X d_Main_books_43 rfl 3 rfl ?_
        refine zv_iconst X d_Main_books_44 ?_
        refine zv_icmp_ne X (tgt := 52) d_Main_books_45 (by decide) (fun h45 => ?_) (fun h45 => ?_)
        · refine zv_iconst X d_Main_books_52 ?_
          refine zv_iload_n X d_Main_books_53 rfl 3 rfl ?_
          refine zv_ishl X d_Main_books_54 ?_
          refine zv_sub X [0, 3, 4] rfl ?_
          exact v_Main_books_55 X hN v3 v4 (jshl 1 v3) v2 v1 (D 1 7) hq34 D
        · refine zv_iconst X d_Main_books_48 ?_
          refine zv_goto X (tgt := 55) d_Main_books_49 (by decide) ?_
          refine zv_sub X [0, 3, 4] rfl ?_
          exact v_Main_books_55 X hN v3 v4 0 v2 v1 (D 1 7) hq34 D
      · refine zv_iconst X d_Main_books_27 ?_
        exact zv_iretM X d_Main_books_28
set_option maxRecDepth 100000 in
theorem v_Main_groundOn_61 {Γ : Gt} {Z : Zt} (X : Cx Γ Z prog_1_method_32_code R_Main 6 (some .int) rm_Main_groundOn) (hN : 143 ≤ Z.2.2.2.1) (v1 v2 s0 : Int)   (D : Mm)  : Zv Γ Z 6 (QfM Γ Z 1) (f_Main_groundOn_61 v1 v2 s0 D) D 61 [(0, zr Z 1), (1, zi v1), (2, zi v2)] [zi s0] := by
  unfold f_Main_groundOn_61
  refine zv_istore X (lv2 := [(5, zi s0), (0, zr Z 1), (1, zi v1), (2, zi v2)]) d_Main_groundOn_61 (by decide) rfl ?_
  refine zv_iconst X d_Main_groundOn_63 ?_
  refine zv_aload_n X d_Main_groundOn_64 rfl 1 rfl ?_
  refine zv_get X (ci := 6) rfl i_Main (za_1 hN) 4 (by decide) lk_Main_40 rfl rfl d_Main_groundOn_65 ?_
  refine zv_get X (ci := 4) rfl i_Finds (zf_0 hN (Or.inl rfl)) 0 (by decide) lk_Main_240 rfl rfl d_Main_groundOn_68 ?_
  refine zv_iload_n X d_Main_groundOn_71 rfl 2 rfl ?_
  refine zv_aald X (12 + 2 + v1) (zf_1 hN (Or.inl rfl)) d_Main_groundOn_72 (by omega) (fun ha72 hb72 => ?_)
  refine zv_iload_n X d_Main_groundOn_73 rfl 3 rfl ?_
  refine zv_iald X (zf_1r hN (Or.inl rfl) ha72 hb72) d_Main_groundOn_74 (fun ha74 hb74 => ?_)
  refine zv_iload X d_Main_groundOn_75 0 rfl ?_
  refine zv_aload_n X d_Main_groundOn_77 rfl 1 rfl ?_
  refine zv_guard (fun hq78 => ?_)
  refine zv_get X (ci := 6) rfl i_Main (za_1 hN) 7 (by decide) lk_Main_51 rfl rfl d_Main_groundOn_78 ?_
  refine zv_get X (ci := 5) rfl i_Quern (zq_0 hN hq78) 5 (by decide) lk_Main_101 rfl rfl d_Main_groundOn_81 ?_
  refine zv_iload_n X d_Main_groundOn_84 rfl 2 rfl ?_
  refine zv_iald X (zq_10 hN hq78) d_Main_groundOn_85 (fun ha85 hb85 => ?_)
  refine zv_imul X d_Main_groundOn_86 ?_
  refine zv_isub X d_Main_groundOn_87 ?_
  refine zv_cSP1 X (av := [zi 0, zi ((D (12 + 2 + v1) v2) - (s0 * (D ((D 1 7) + 10) v1)))]) (st := []) (c_Math_max Γ.2.1 X.2.2.2.2.2.2.2.1 0 ((D (12 + 2 + v1) v2) - (s0 * (D ((D 1 7) + 10) v1))) D) mk_Main_243 ⟨rfl, rfl, Nat.le_of_ble_eq_true rfl, Nat.le_of_ble_eq_true rfl⟩ rfl (Nat.le_of_ble_eq_true rfl) d_Main_groundOn_88 (fun r1 hr1 => ?_)
  exact zv_iretM X d_Main_groundOn_91
set_option maxRecDepth 100000 in
theorem c_Main_groundOn (l : Launch) {Z : Zt} (hZ : Zok Z) (hN : 143 ≤ Z.2.2.2.1) (v1 v2 v3 v4 : Int)  (D : Mm) : CtM l Z y_Main_groundOn prog_1_method_32_code 6 (some .int) rm_Main_groundOn 1 [zr Z 1, zi v1, zi v2, zi v3, zi v4] D (f_Main_groundOn v1 v2 v3 v4 D) := by
  refine zm_M (lv := [(0, zr Z 1), (1, zi v1), (2, zi v2), (3, zi v3), (4, zi v4)]) hZ (by decide +kernel) rfl (Nat.le_of_ble_eq_true rfl) rfl (fun Γ hl X => ?_)
  subst hl
  unfold f_Main_groundOn
  refine zv_aload_n X d_Main_groundOn_0 rfl 0 rfl ?_
  refine zv_get X (ci := 6) rfl i_Main (za_1 hN) 2 (by decide) lk_Main_26 rfl rfl d_Main_groundOn_1 ?_
  refine zv_aload_n X d_Main_groundOn_4 rfl 0 rfl ?_
  refine zv_guard (fun hq5 => ?_)
  refine zv_get X (ci := 6) rfl i_Main (za_1 hN) 7 (by decide) lk_Main_51 rfl rfl d_Main_groundOn_5 ?_
  refine zv_aload_n X d_Main_groundOn_8 rfl 0 rfl ?_
  refine zv_get X (ci := 6) rfl i_Main (za_1 hN) 4 (by decide) lk_Main_40 rfl rfl d_Main_groundOn_9 ?_
  refine zv_iload_n X d_Main_groundOn_12 rfl 2 rfl ?_
  refine zv_iload_n X d_Main_groundOn_13 rfl 3 rfl ?_
  refine zv_aload_n X d_Main_groundOn_14 rfl 0 rfl ?_
  refine zv_guard (fun hq15 => ?_)
  refine zv_get X (ci := 6) rfl i_Main (za_1 hN) 7 (by decide) lk_Main_51 rfl rfl d_Main_groundOn_15 ?_
  refine zv_get X (ci := 5) rfl i_Quern (zq_0 hN hq15) 6 (by decide) lk_Main_104 rfl rfl d_Main_groundOn_18 ?_
  refine zv_iload_n X d_Main_groundOn_21 rfl 1 rfl ?_
  refine zv_iald X (zq_11 hN hq15) d_Main_groundOn_22 (fun ha22 hb22 => ?_)
  refine zv_cVM0 X (av := [zr Z (D 1 7), zr Z 12, zi v2, zi v3, zi (D ((D 1 7) + 11) v1)]) (st := []) (ci := 2) (c_Books_search Γ.2.1 X.2.2.2.2.2.2.2.1 hN (D 1 7) 12 v2 v3 (D ((D 1 7) + 11) v1) hq5 (Or.inl rfl) D) mk_Main_181 rfl (za_6 hN) ⟨rfl, rfl, Nat.le_of_ble_eq_true rfl, Nat.le_of_ble_eq_true rfl⟩ rfl (Nat.le_of_ble_eq_true rfl) d_Main_groundOn_23 (fun _ D2 hr1 => ?_)
  refine zv_aload_n X d_Main_groundOn_26 rfl 0 rfl ?_
  refine zv_get X (ci := 6) rfl i_Main (za_1 hN) 2 (by decide) lk_Main_26 rfl rfl d_Main_groundOn_27 ?_
  refine zv_get X (ci := 2) rfl i_Books (za_6 hN) 4 (by decide) lk_Main_185 rfl rfl d_Main_groundOn_30 ?_
  refine zv_if_ne X (y := 0) (tgt := 39) d_Main_groundOn_33 (by decide) (fun h33 => ?_) (fun h33 => ?_)
  · refine zv_iload X d_Main_groundOn_39 4 rfl ?_
    refine zv_if_eq X (y := 0) (tgt := 54) d_Main_groundOn_41 (by decide) (fun h41 => ?_) (fun h41 => ?_)
    · refine zv_aload_n X d_Main_groundOn_54 rfl 0 rfl ?_
      refine zv_get X (ci := 6) rfl i_Main (za_1 hN) 2 (by decide) lk_Main_26 rfl rfl d_Main_groundOn_55 ?_
      refine zv_get X (ci := 2) rfl i_Books (za_6 hN) 6 (by decide) lk_Main_188 rfl rfl d_Main_groundOn_58 ?_
      refine zv_sub X [0, 1, 2] rfl ?_
      exact v_Main_groundOn_61 X hN v1 v2 (D2 6 6) D2
    · refine zv_aload_n X d_Main_groundOn_44 rfl 0 rfl ?_
      refine zv_get X (ci := 6) rfl i_Main (za_1 hN) 2 (by decide) lk_Main_26 rfl rfl d_Main_groundOn_45 ?_
      refine zv_get X (ci := 2) rfl i_Books (za_6 hN) 5 (by decide) lk_Main_191 rfl rfl d_Main_groundOn_48 ?_
      refine zv_goto X (tgt := 61) d_Main_groundOn_51 (by decide) ?_
      refine zv_sub X [0, 1, 2] rfl ?_
      exact v_Main_groundOn_61 X hN v1 v2 (D2 6 5) D2
  · refine zv_bipush X d_Main_groundOn_36 (by decide +kernel) ?_
    exact zv_iretM X d_Main_groundOn_38
set_option maxRecDepth 100000 in
theorem c_Main_ground (l : Launch) {Z : Zt} (hZ : Zok Z) (hN : 143 ≤ Z.2.2.2.1) (v1 v2 v3 v4 : Int)  (D : Mm) : CtM l Z y_Main_ground prog_1_method_19_code 5 (some .int) rm_Main_ground 1 [zr Z 1, zi v1, zi v2, zi v3, zi v4] D (f_Main_ground v1 v2 v3 v4 D) := by
  refine zm_M (lv := [(0, zr Z 1), (1, zi v1), (2, zi v2), (3, zi v3), (4, zi v4)]) hZ (by decide +kernel) rfl (Nat.le_of_ble_eq_true rfl) rfl (fun Γ hl X => ?_)
  subst hl
  unfold f_Main_ground
  refine zv_aload_n X d_Main_ground_0 rfl 0 rfl ?_
  refine zv_guard (fun hq1 => ?_)
  refine zv_get X (ci := 6) rfl i_Main (za_1 hN) 7 (by decide) lk_Main_51 rfl rfl d_Main_ground_1 ?_
  refine zv_iload_n X d_Main_ground_4 rfl 1 rfl ?_
  refine zv_cVP1 X (av := [zi v1]) (st := []) (ci := 5) (c_Quern_hasPatch Γ.2.1 X.2.2.2.2.2.2.2.1 hN (D 1 7) v1 hq1 D) mk_Main_90 rfl (zq_0 hN hq1) ⟨rfl, rfl, Nat.le_of_ble_eq_true rfl, Nat.le_of_ble_eq_true rfl⟩ rfl (Nat.le_of_ble_eq_true rfl) d_Main_ground_5 (fun r1 hr1 => ?_)
  refine zv_if_eq X (y := 0) (tgt := 29) d_Main_ground_8 (by decide) (fun h8 => ?_) (fun h8 => ?_)
  · refine zv_iconst X d_Main_ground_29 ?_
    exact zv_iretM X d_Main_ground_30
  · refine zv_aload_n X d_Main_ground_11 rfl 0 rfl ?_
    refine zv_guard (fun hq12 => ?_)
    refine zv_get X (ci := 6) rfl i_Main (za_1 hN) 7 (by decide) lk_Main_51 rfl rfl d_Main_ground_12 ?_
    refine zv_iload_n X d_Main_ground_15 rfl 2 rfl ?_
    refine zv_cVP1 X (av := [zi v2]) (st := []) (ci := 5) (c_Quern_hasSort Γ.2.1 X.2.2.2.2.2.2.2.1 hN (D 1 7) v2 hq12 D) mk_Main_110 rfl (zq_0 hN hq12) ⟨rfl, rfl, Nat.le_of_ble_eq_true rfl, Nat.le_of_ble_eq_true rfl⟩ rfl (Nat.le_of_ble_eq_true rfl) d_Main_ground_16 (fun r2 hr2 => ?_)
    refine zv_if_eq X (y := 0) (tgt := 29) d_Main_ground_19 (by decide) (fun h19 => ?_) (fun h19 => ?_)
    · refine zv_iconst X d_Main_ground_29 ?_
      exact zv_iretM X d_Main_ground_30
    · refine zv_iload_n X d_Main_ground_22 rfl 3 rfl ?_
      refine zv_cSP1 X (av := [zi v3]) (st := []) (c_Main_isDoubt Γ.2.1 X.2.2.2.2.2.2.2.1 hN v3 D) mk_Main_178 ⟨rfl, rfl, Nat.le_of_ble_eq_true rfl, Nat.le_of_ble_eq_true rfl⟩ rfl (Nat.le_of_ble_eq_true rfl) d_Main_ground_23 (fun r3 hr3 => ?_)
      refine zv_if_ne X (y := 0) (tgt := 31) d_Main_ground_26 (by decide) (fun h26 => ?_) (fun h26 => ?_)
      · refine zv_aload_n X d_Main_ground_31 rfl 0 rfl ?_
        refine zv_iload_n X d_Main_ground_32 rfl 1 rfl ?_
        refine zv_iload_n X d_Main_ground_33 rfl 2 rfl ?_
        refine zv_iload_n X d_Main_ground_34 rfl 3 rfl ?_
        refine zv_iload X d_Main_ground_35 4 rfl ?_
        refine zv_cVM1 X (av := [zi v1, zi v2, zi v3, zi v4]) (st := []) (ci := 6) (c_Main_groundOn Γ.2.1 X.2.2.2.2.2.2.2.1 hN v1 v2 v3 v4 D) mk_Main_194 rfl (za_1 hN) ⟨rfl, rfl, Nat.le_of_ble_eq_true rfl, Nat.le_of_ble_eq_true rfl⟩ rfl (Nat.le_of_ble_eq_true rfl) d_Main_ground_37 (fun r4 D5 hr4 => ?_)
        exact zv_iretM X d_Main_ground_40
      · refine zv_iconst X d_Main_ground_29 ?_
        exact zv_iretM X d_Main_ground_30
set_option maxRecDepth 100000 in
theorem v_Main_surelyGround_36 {Γ : Gt} {Z : Zt} (X : Cx Γ Z prog_1_method_33_code R_Main 5 (some .int) rm_Main_surelyGround) (hN : 143 ≤ Z.2.2.2.1) (v1 v2 v3 v4 : Int)  (K4 : Int → Int → Mm → Option (Int × Mm)) (D : Mm) (hK4 : ∀ (v3 v4 : Int) (D : Mm), Zv Γ Z 5 (QfM Γ Z 1) (K4 v3 v4 D) D 5 [(0, zr Z 1), (1, zi v1), (2, zi v2), (3, zi v3), (4, zi v4)] []) : Zv Γ Z 5 (QfM Γ Z 1) (f_Main_surelyGround_36 v1 v2 v3 v4 K4 D) D 36 [(0, zr Z 1), (1, zi v1), (2, zi v2), (3, zi v3), (4, zi v4)] [] := by
  unfold f_Main_surelyGround_36
  refine zv_iinc X (lv2 := [(4, zi (v4 + 1)), (0, zr Z 1), (1, zi v1), (2, zi v2), (3, zi v3)]) d_Main_surelyGround_36 4 rfl (by decide) rfl ?_
  refine zv_goto X (tgt := 5) d_Main_surelyGround_39 (by decide) ?_
  refine zv_sub X [1, 2, 3, 4, 0] rfl ?_
  exact hK4 v3 (v4 + 1) D
set_option maxRecDepth 100000 in
theorem v_Main_surelyGround_5 {Γ : Gt} {Z : Zt} (X : Cx Γ Z prog_1_method_33_code R_Main 5 (some .int) rm_Main_surelyGround) (hN : 143 ≤ Z.2.2.2.1) (v1 v2 : Int)    : ∀ (n : Nat) (v3 v4 : Int) (D : Mm), Zv Γ Z 5 (QfM Γ Z 1) (f_Main_surelyGround_5 v1 v2 n v3 v4 D) D 5 [(0, zr Z 1), (1, zi v1), (2, zi v2), (3, zi v3), (4, zi v4)] [] := by
  intro n
  induction n with
  | zero =>
    intro v3 v4 D
    exact zv_none
  | succ n ih =>
    intro v3 v4 D
    rw [f_Main_surelyGround_5]
    refine zv_iload X d_Main_surelyGround_5 4 rfl ?_
    refine zv_aload_n X d_Main_surelyGround_7 rfl 0 rfl ?_
    refine zv_guard (fun hq8 => ?_)
    refine zv_get X (ci := 6) rfl i_Main (za_1 hN) 7 (by decide) lk_Main_51 rfl rfl d_Main_surelyGround_8 ?_
    refine zv_get X (ci := 5) rfl i_Quern (zq_0 hN hq8) 0 (by decide) lk_Main_80 rfl rfl d_Main_surelyGround_11 ?_
    refine zv_icmp_ge X (tgt := 42) d_Main_surelyGround_14 (by decide) (fun h14 => ?_) (fun h14 => ?_)
    · refine zv_iload_n X d_Main_surelyGround_42 rfl 3 rfl ?_
      exact zv_iretM X d_Main_surelyGround_43
    · refine zv_aload_n X d_Main_surelyGround_17 rfl 0 rfl ?_
      refine zv_iload_n X d_Main_surelyGround_18 rfl 1 rfl ?_
      refine zv_iload X d_Main_surelyGround_19 4 rfl ?_
      refine zv_iload_n X d_Main_surelyGround_21 rfl 2 rfl ?_
      refine zv_iconst X d_Main_surelyGround_22 ?_
      refine zv_cVM1 X (av := [zi v1, zi v4, zi v2, zi 0]) (st := []) (ci := 6) (c_Main_groundOn Γ.2.1 X.2.2.2.2.2.2.2.1 hN v1 v4 v2 0 D) mk_Main_194 rfl (za_1 hN) ⟨rfl, rfl, Nat.le_of_ble_eq_true rfl, Nat.le_of_ble_eq_true rfl⟩ rfl (Nat.le_of_ble_eq_true rfl) d_Main_surelyGround_23 (fun r1 D2 hr1 => ?_)
      refine zv_if_le X (y := 0) (tgt := 36) d_Main_surelyGround_26 (by decide) (fun h26 => ?_) (fun h26 => ?_)
      · exact v_Main_surelyGround_36 X hN v1 v2 v3 v4 (f_Main_surelyGround_5 v1 v2 n) D2 ih
      · refine zv_iload_n X d_Main_surelyGround_29 rfl 3 rfl ?_
        refine zv_iconst X d_Main_surelyGround_30 ?_
        refine zv_iload X d_Main_surelyGround_31 4 rfl ?_
        refine zv_ishl X d_Main_surelyGround_33 ?_
        refine zv_ior X d_Main_surelyGround_34 ?_
        refine zv_istore_n X (lv2 := [(3, zi (jor v3 (jshl 1 v4))), (0, zr Z 1), (1, zi v1), (2, zi v2), (4, zi v4)]) d_Main_surelyGround_35 rfl (by decide) rfl ?_
        refine zv_sub X [1, 2, 3, 0, 4] rfl ?_
        exact v_Main_surelyGround_36 X hN v1 v2 (jor v3 (jshl 1 v4)) v4 (f_Main_surelyGround_5 v1 v2 n) D2 ih
set_option maxRecDepth 100000 in
theorem c_Main_surelyGround (l : Launch) {Z : Zt} (hZ : Zok Z) (hN : 143 ≤ Z.2.2.2.1) (v1 v2 : Int)  (D : Mm) : CtM l Z y_Main_surelyGround prog_1_method_33_code 5 (some .int) rm_Main_surelyGround 1 [zr Z 1, zi v1, zi v2] D (f_Main_surelyGround v1 v2 D) := by
  refine zm_M (lv := [(0, zr Z 1), (1, zi v1), (2, zi v2)]) hZ (by decide +kernel) rfl (Nat.le_of_ble_eq_true rfl) rfl (fun Γ hl X => ?_)
  subst hl
  unfold f_Main_surelyGround
  refine zv_iconst X d_Main_surelyGround_0 ?_
  refine zv_istore_n X (lv2 := [(3, zi 0), (0, zr Z 1), (1, zi v1), (2, zi v2)]) d_Main_surelyGround_1 rfl (by decide) rfl ?_
  refine zv_iconst X d_Main_surelyGround_2 ?_
  refine zv_istore X (lv2 := [(4, zi 0), (3, zi 0), (0, zr Z 1), (1, zi v1), (2, zi v2)]) d_Main_surelyGround_3 (by decide) rfl ?_
  refine zv_sub X [2, 3, 4, 1, 0] rfl ?_
  exact v_Main_surelyGround_5 X hN v1 v2 zF 0 0 D
set_option maxRecDepth 100000 in
theorem c_Main_sure (l : Launch) {Z : Zt} (hZ : Zok Z) (hN : 143 ≤ Z.2.2.2.1) (v1 v2 : Int)  (D : Mm) : CtM l Z y_Main_sure prog_1_method_20_code 3 (some .int) rm_Main_sure 1 [zr Z 1, zi v1, zi v2] D (f_Main_sure v1 v2 D) := by
  refine zm_M (lv := [(0, zr Z 1), (1, zi v1), (2, zi v2)]) hZ (by decide +kernel) rfl (Nat.le_of_ble_eq_true rfl) rfl (fun Γ hl X => ?_)
  subst hl
  unfold f_Main_sure
  refine zv_aload_n X d_Main_sure_0 rfl 0 rfl ?_
  refine zv_guard (fun hq1 => ?_)
  refine zv_get X (ci := 6) rfl i_Main (za_1 hN) 7 (by decide) lk_Main_51 rfl rfl d_Main_sure_1 ?_
  refine zv_iload_n X d_Main_sure_4 rfl 1 rfl ?_
  refine zv_cVP1 X (av := [zi v1]) (st := []) (ci := 5) (c_Quern_hasPatch Γ.2.1 X.2.2.2.2.2.2.2.1 hN (D 1 7) v1 hq1 D) mk_Main_90 rfl (zq_0 hN hq1) ⟨rfl, rfl, Nat.le_of_ble_eq_true rfl, Nat.le_of_ble_eq_true rfl⟩ rfl (Nat.le_of_ble_eq_true rfl) d_Main_sure_5 (fun r1 hr1 => ?_)
  refine zv_if_eq X (y := 0) (tgt := 18) d_Main_sure_8 (by decide) (fun h8 => ?_) (fun h8 => ?_)
  · refine zv_iconst X d_Main_sure_18 ?_
    exact zv_iretM X d_Main_sure_19
  · refine zv_iload_n X d_Main_sure_11 rfl 2 rfl ?_
    refine zv_cSP1 X (av := [zi v2]) (st := []) (c_Main_isDoubt Γ.2.1 X.2.2.2.2.2.2.2.1 hN v2 D) mk_Main_178 ⟨rfl, rfl, Nat.le_of_ble_eq_true rfl, Nat.le_of_ble_eq_true rfl⟩ rfl (Nat.le_of_ble_eq_true rfl) d_Main_sure_12 (fun r2 hr2 => ?_)
    refine zv_if_ne X (y := 0) (tgt := 20) d_Main_sure_15 (by decide) (fun h15 => ?_) (fun h15 => ?_)
    · refine zv_aload_n X d_Main_sure_20 rfl 0 rfl ?_
      refine zv_iload_n X d_Main_sure_21 rfl 1 rfl ?_
      refine zv_iload_n X d_Main_sure_22 rfl 2 rfl ?_
      refine zv_cVM1 X (av := [zi v1, zi v2]) (st := []) (ci := 6) (c_Main_surelyGround Γ.2.1 X.2.2.2.2.2.2.2.1 hN v1 v2 D) mk_Main_198 rfl (za_1 hN) ⟨rfl, rfl, Nat.le_of_ble_eq_true rfl, Nat.le_of_ble_eq_true rfl⟩ rfl (Nat.le_of_ble_eq_true rfl) d_Main_sure_23 (fun r3 D4 hr3 => ?_)
      exact zv_iretM X d_Main_sure_26
    · refine zv_iconst X d_Main_sure_18 ?_
      exact zv_iretM X d_Main_sure_19
set_option maxRecDepth 100000 in
theorem v_Quern_hoursSaved_26 {Γ : Gt} {Z : Zt} (X : Cx Γ Z prog_6_method_27_code R_Quern 4 (some .int) rm_Quern_hoursSaved) (hN : 143 ≤ Z.2.2.2.1) (v0 v1 v2 v3 : Int) (hv0 : isQ v0) (K4 : Int → Int → Option (Int)) (D : Mm) (hK4 : ∀ (v2 v3 : Int), Zv Γ Z 4 (QfP Γ Z 1 D) (K4 v2 v3) D 4 [(0, zr Z v0), (1, zi v1), (2, zi v2), (3, zi v3)] []) : Zv Γ Z 4 (QfP Γ Z 1 D) (f_Quern_hoursSaved_26 v0 v1 v2 v3 K4 D) D 26 [(0, zr Z v0), (1, zi v1), (2, zi v2), (3, zi v3)] [] := by
  unfold f_Quern_hoursSaved_26
  refine zv_iinc X (lv2 := [(3, zi (v3 + 1)), (0, zr Z v0), (1, zi v1), (2, zi v2)]) d_Quern_hoursSaved_26 3 rfl (by decide) rfl ?_
  refine zv_goto X (tgt := 4) d_Quern_hoursSaved_29 (by decide) ?_
  refine zv_sub X [1, 2, 3, 0] rfl ?_
  exact hK4 v2 (v3 + 1)
set_option maxRecDepth 100000 in
theorem v_Quern_hoursSaved_4 {Γ : Gt} {Z : Zt} (X : Cx Γ Z prog_6_method_27_code R_Quern 4 (some .int) rm_Quern_hoursSaved) (hN : 143 ≤ Z.2.2.2.1) (v0 v1 : Int) (hv0 : isQ v0)  (D : Mm)  : ∀ (n : Nat) (v2 v3 : Int) , Zv Γ Z 4 (QfP Γ Z 1 D) (f_Quern_hoursSaved_4 v0 v1 D n v2 v3) D 4 [(0, zr Z v0), (1, zi v1), (2, zi v2), (3, zi v3)] [] := by
  intro n
  induction n with
  | zero =>
    intro v2 v3
    exact zv_none
  | succ n ih =>
    intro v2 v3
    rw [f_Quern_hoursSaved_4]
    refine zv_iload_n X d_Quern_hoursSaved_4 rfl 3 rfl ?_
    refine zv_iconst X d_Quern_hoursSaved_5 ?_
    refine zv_icmp_ge X (tgt := 32) d_Quern_hoursSaved_6 (by decide) (fun h6 => ?_) (fun h6 => ?_)
    · refine zv_iload_n X d_Quern_hoursSaved_32 rfl 2 rfl ?_
      exact zv_iretP X d_Quern_hoursSaved_33
    · refine zv_iload_n X d_Quern_hoursSaved_9 rfl 1 rfl ?_
      refine zv_iload_n X d_Quern_hoursSaved_10 rfl 3 rfl ?_
      refine zv_ishr X d_Quern_hoursSaved_11 ?_
      refine zv_iconst X d_Quern_hoursSaved_12 ?_
      refine zv_iand X d_Quern_hoursSaved_13 ?_
      refine zv_if_eq X (y := 0) (tgt := 26) d_Quern_hoursSaved_14 (by decide) (fun h14 => ?_) (fun h14 => ?_)
      · exact v_Quern_hoursSaved_26 X hN v0 v1 v2 v3 hv0 (f_Quern_hoursSaved_4 v0 v1 D n) D ih
      · refine zv_iload_n X d_Quern_hoursSaved_17 rfl 2 rfl ?_
        refine zv_aload_n X d_Quern_hoursSaved_18 rfl 0 rfl ?_
        refine zv_get X (ci := 5) rfl i_Quern (zq_0 hN hv0) 10 (by decide) lk_Quern_38 rfl rfl d_Quern_hoursSaved_19 ?_
        refine zv_iload_n X d_Quern_hoursSaved_22 rfl 3 rfl ?_
        refine zv_iald X (zq_29 hN hv0) d_Quern_hoursSaved_23 (fun ha23 hb23 => ?_)
        refine zv_iadd X d_Quern_hoursSaved_24 ?_
        refine zv_istore_n X (lv2 := [(2, zi (v2 + (D (v0 + 29) v3))), (0, zr Z v0), (1, zi v1), (3, zi v3)]) d_Quern_hoursSaved_25 rfl (by decide) rfl ?_
        refine zv_sub X [1, 2, 0, 3] rfl ?_
        exact v_Quern_hoursSaved_26 X hN v0 v1 (v2 + (D (v0 + 29) v3)) v3 hv0 (f_Quern_hoursSaved_4 v0 v1 D n) D ih
set_option maxRecDepth 100000 in
theorem c_Quern_hoursSaved (l : Launch) {Z : Zt} (hZ : Zok Z) (hN : 143 ≤ Z.2.2.2.1) (v0 v1 : Int) (hv0 : isQ v0) (D : Mm) : CtP l Z y_Quern_hoursSaved prog_6_method_27_code 4 (some .int) rm_Quern_hoursSaved 1 [zr Z v0, zi v1] D (f_Quern_hoursSaved v0 v1 D) := by
  refine zm_P (lv := [(0, zr Z v0), (1, zi v1)]) hZ (by decide +kernel) rfl (Nat.le_of_ble_eq_true rfl) rfl (fun Γ hl X => ?_)
  subst hl
  unfold f_Quern_hoursSaved
  refine zv_iconst X d_Quern_hoursSaved_0 ?_
  refine zv_istore_n X (lv2 := [(2, zi 0), (0, zr Z v0), (1, zi v1)]) d_Quern_hoursSaved_1 rfl (by decide) rfl ?_
  refine zv_iconst X d_Quern_hoursSaved_2 ?_
  refine zv_istore_n X (lv2 := [(3, zi 0), (2, zi 0), (0, zr Z v0), (1, zi v1)]) d_Quern_hoursSaved_3 rfl (by decide) rfl ?_
  refine zv_sub X [2, 3, 1, 0] rfl ?_
  exact v_Quern_hoursSaved_4 X hN v0 v1 hv0 D zF 0 0
set_option maxRecDepth 100000 in
theorem v_Quern_grainsWithout_50 {Γ : Gt} {Z : Zt} (X : Cx Γ Z prog_6_method_28_code R_Quern 5 (some .int) rm_Quern_grainsWithout) (hN : 143 ≤ Z.2.2.2.1) (v0 v1 v2 v3 : Int) (hv0 : isQ v0) (K4 : Int → Int → Option (Int)) (D : Mm) (hK4 : ∀ (v2 v3 : Int), Zv Γ Z 5 (QfP Γ Z 1 D) (K4 v2 v3) D 4 [(0, zr Z v0), (1, zi v1), (2, zi v2), (3, zi v3)] []) : Zv Γ Z 5 (QfP Γ Z 1 D) (f_Quern_grainsWithout_50 v0 v1 v2 v3 K4 D) D 50 [(0, zr Z v0), (1, zi v1), (2, zi v2), (3, zi v3)] [] := by
  unfold f_Quern_grainsWithout_50
  refine zv_iinc X (lv2 := [(3, zi (v3 + 1)), (0, zr Z v0), (1, zi v1), (2, zi v2)]) d_Quern_grainsWithout_50 3 rfl (by decide) rfl ?_
  refine zv_goto X (tgt := 4) d_Quern_grainsWithout_53 (by decide) ?_
  refine zv_sub X [1, 2, 3, 0] rfl ?_
  exact hK4 v2 (v3 + 1)
set_option maxRecDepth 100000 in
theorem v_Quern_grainsWithout_23 {Γ : Gt} {Z : Zt} (X : Cx Γ Z prog_6_method_28_code R_Quern 5 (some .int) rm_Quern_grainsWithout) (hN : 143 ≤ Z.2.2.2.1) (v0 v1 v3 : Int) (hv0 : isQ v0) (K4 : Int → Int → Option (Int)) (D : Mm)  (hK4 : ∀ (v2 v3 : Int), Zv Γ Z 5 (QfP Γ Z 1 D) (K4 v2 v3) D 4 [(0, zr Z v0), (1, zi v1), (2, zi v2), (3, zi v3)] []): ∀ (n : Nat) (v2 v4 : Int) , Zv Γ Z 5 (QfP Γ Z 1 D) (f_Quern_grainsWithout_23 v0 v1 v3 K4 D n v2 v4) D 23 [(0, zr Z v0), (1, zi v1), (2, zi v2), (3, zi v3), (4, zi v4)] [] := by
  intro n
  induction n with
  | zero =>
    intro v2 v4
    exact zv_none
  | succ n ih =>
    intro v2 v4
    rw [f_Quern_grainsWithout_23]
    refine zv_iload X d_Quern_grainsWithout_23 4 rfl ?_
    refine zv_aload_n X d_Quern_grainsWithout_25 rfl 0 rfl ?_
    refine zv_get X (ci := 5) rfl i_Quern (zq_0 hN hv0) 0 (by decide) lk_Quern_44 rfl rfl d_Quern_grainsWithout_26 ?_
    refine zv_icmp_ge X (tgt := 50) d_Quern_grainsWithout_29 (by decide) (fun h29 => ?_) (fun h29 => ?_)
    · refine zv_sub X [0, 1, 2, 3] rfl ?_
      exact v_Quern_grainsWithout_50 X hN v0 v1 v2 v3 hv0 K4 D hK4
    · refine zv_iload_n X d_Quern_grainsWithout_32 rfl 2 rfl ?_
      refine zv_aload_n X d_Quern_grainsWithout_33 rfl 0 rfl ?_
      refine zv_get X (ci := 5) rfl i_Quern (zq_0 hN hv0) 8 (by decide) lk_Quern_32 rfl rfl d_Quern_grainsWithout_34 ?_
      refine zv_iload_n X d_Quern_grainsWithout_37 rfl 3 rfl ?_
      refine zv_aald X (v0 + 24 + v3) (zq_23 hN hv0) d_Quern_grainsWithout_38 (by omega) (fun ha38 hb38 => ?_)
      refine zv_iload X d_Quern_grainsWithout_39 4 rfl ?_
      refine zv_iald X (zq_23r hN hv0 ha38 hb38) d_Quern_grainsWithout_41 (fun ha41 hb41 => ?_)
      refine zv_iadd X d_Quern_grainsWithout_42 ?_
      refine zv_istore_n X (lv2 := [(2, zi (v2 + (D (v0 + 24 + v3) v4))), (0, zr Z v0), (1, zi v1), (3, zi v3), (4, zi v4)]) d_Quern_grainsWithout_43 rfl (by decide) rfl ?_
      refine zv_iinc X (lv2 := [(4, zi (v4 + 1)), (2, zi (v2 + (D (v0 + 24 + v3) v4))), (0, zr Z v0), (1, zi v1), (3, zi v3)]) d_Quern_grainsWithout_44 4 rfl (by decide) rfl ?_
      refine zv_goto X (tgt := 23) d_Quern_grainsWithout_47 (by decide) ?_
      refine zv_sub X [2, 3, 1, 4, 0] rfl ?_
      exact ih (v2 + (D (v0 + 24 + v3) v4)) (v4 + 1)
set_option maxRecDepth 100000 in
theorem v_Quern_grainsWithout_4 {Γ : Gt} {Z : Zt} (X : Cx Γ Z prog_6_method_28_code R_Quern 5 (some .int) rm_Quern_grainsWithout) (hN : 143 ≤ Z.2.2.2.1) (v0 v1 : Int) (hv0 : isQ v0)  (D : Mm)  : ∀ (n : Nat) (v2 v3 : Int) , Zv Γ Z 5 (QfP Γ Z 1 D) (f_Quern_grainsWithout_4 v0 v1 D n v2 v3) D 4 [(0, zr Z v0), (1, zi v1), (2, zi v2), (3, zi v3)] [] := by
  intro n
  induction n with
  | zero =>
    intro v2 v3
    exact zv_none
  | succ n ih =>
    intro v2 v3
    rw [f_Quern_grainsWithout_4]
    refine zv_iload_n X d_Quern_grainsWithout_4 rfl 3 rfl ?_
    refine zv_iconst X d_Quern_grainsWithout_5 ?_
    refine zv_icmp_ge X (tgt := 56) d_Quern_grainsWithout_6 (by decide) (fun h6 => ?_) (fun h6 => ?_)
    · refine zv_iload_n X d_Quern_grainsWithout_56 rfl 2 rfl ?_
      exact zv_iretP X d_Quern_grainsWithout_57
    · refine zv_iload_n X d_Quern_grainsWithout_9 rfl 1 rfl ?_
      refine zv_iload_n X d_Quern_grainsWithout_10 rfl 3 rfl ?_
      refine zv_ishr X d_Quern_grainsWithout_11 ?_
      refine zv_iconst X d_Quern_grainsWithout_12 ?_
      refine zv_iand X d_Quern_grainsWithout_13 ?_
      refine zv_if_eq X (y := 0) (tgt := 20) d_Quern_grainsWithout_14 (by decide) (fun h14 => ?_) (fun h14 => ?_)
      · refine zv_iconst X d_Quern_grainsWithout_20 ?_
        refine zv_istore X (lv2 := [(4, zi 0), (0, zr Z v0), (1, zi v1), (2, zi v2), (3, zi v3)]) d_Quern_grainsWithout_21 (by decide) rfl ?_
        refine zv_sub X [1, 2, 3, 4, 0] rfl ?_
        exact v_Quern_grainsWithout_23 X hN v0 v1 v3 hv0 (f_Quern_grainsWithout_4 v0 v1 D n) D ih zF v2 0
      · refine zv_goto X (tgt := 50) d_Quern_grainsWithout_17 (by decide) ?_
        exact v_Quern_grainsWithout_50 X hN v0 v1 v2 v3 hv0 (f_Quern_grainsWithout_4 v0 v1 D n) D ih
set_option maxRecDepth 100000 in
theorem c_Quern_grainsWithout (l : Launch) {Z : Zt} (hZ : Zok Z) (hN : 143 ≤ Z.2.2.2.1) (v0 v1 : Int) (hv0 : isQ v0) (D : Mm) : CtP l Z y_Quern_grainsWithout prog_6_method_28_code 5 (some .int) rm_Quern_grainsWithout 1 [zr Z v0, zi v1] D (f_Quern_grainsWithout v0 v1 D) := by
  refine zm_P (lv := [(0, zr Z v0), (1, zi v1)]) hZ (by decide +kernel) rfl (Nat.le_of_ble_eq_true rfl) rfl (fun Γ hl X => ?_)
  subst hl
  unfold f_Quern_grainsWithout
  refine zv_iconst X d_Quern_grainsWithout_0 ?_
  refine zv_istore_n X (lv2 := [(2, zi 0), (0, zr Z v0), (1, zi v1)]) d_Quern_grainsWithout_1 rfl (by decide) rfl ?_
  refine zv_iconst X d_Quern_grainsWithout_2 ?_
  refine zv_istore_n X (lv2 := [(3, zi 0), (2, zi 0), (0, zr Z v0), (1, zi v1)]) d_Quern_grainsWithout_3 rfl (by decide) rfl ?_
  refine zv_sub X [2, 3, 1, 0] rfl ?_
  exact v_Quern_grainsWithout_4 X hN v0 v1 hv0 D zF 0 0
set_option maxRecDepth 100000 in
theorem v_Quern_bestLeftOut_64 {Γ : Gt} {Z : Zt} (X : Cx Γ Z prog_6_method_26_code R_Quern 6 (some .int) rm_Quern_bestLeftOut) (hN : 143 ≤ Z.2.2.2.1) (v0 v1 v2 v3 v4 : Int) (hv0 : isQ v0) (K6 : Int → Int → Int → Option (Int)) (D : Mm) (hK6 : ∀ (v2 v3 v4 : Int), Zv Γ Z 6 (QfP Γ Z 1 D) (K6 v2 v3 v4) D 8 [(0, zr Z v0), (1, zi v1), (2, zi v2), (3, zi v3), (4, zi v4)] []) : Zv Γ Z 6 (QfP Γ Z 1 D) (f_Quern_bestLeftOut_64 v0 v1 v2 v3 v4 K6 D) D 64 [(0, zr Z v0), (1, zi v1), (2, zi v2), (3, zi v3), (4, zi v4)] [] := by
  unfold f_Quern_bestLeftOut_64
  refine zv_iinc X (lv2 := [(4, zi (v4 + 1)), (0, zr Z v0), (1, zi v1), (2, zi v2), (3, zi v3)]) d_Quern_bestLeftOut_64 4 rfl (by decide) rfl ?_
  refine zv_goto X (tgt := 8) d_Quern_bestLeftOut_67 (by decide) ?_
  refine zv_sub X [1, 2, 3, 4, 0] rfl ?_
  exact hK6 v2 v3 (v4 + 1)
set_option maxRecDepth 100000 in
theorem v_Quern_bestLeftOut_58 {Γ : Gt} {Z : Zt} (X : Cx Γ Z prog_6_method_26_code R_Quern 6 (some .int) rm_Quern_bestLeftOut) (hN : 143 ≤ Z.2.2.2.1) (v0 v1 v4 v5 : Int) (hv0 : isQ v0) (K6 : Int → Int → Int → Option (Int)) (D : Mm) (hK6 : ∀ (v2 v3 v4 : Int), Zv Γ Z 6 (QfP Γ Z 1 D) (K6 v2 v3 v4) D 8 [(0, zr Z v0), (1, zi v1), (2, zi v2), (3, zi v3), (4, zi v4)] []) : Zv Γ Z 6 (QfP Γ Z 1 D) (f_Quern_bestLeftOut_58 v0 v1 v4 v5 K6 D) D 58 [(0, zr Z v0), (1, zi v1), (4, zi v4), (5, zi v5)] [] := by
  unfold f_Quern_bestLeftOut_58
  refine zv_iload X d_Quern_bestLeftOut_58 2 rfl ?_
  refine zv_istore_n X (lv2 := [(2, zi v4), (0, zr Z v0), (1, zi v1), (4, zi v4), (5, zi v5)]) d_Quern_bestLeftOut_60 rfl (by decide) rfl ?_
  refine zv_iload X d_Quern_bestLeftOut_61 4 rfl ?_
  refine zv_istore_n X (lv2 := [(3, zi v5), (2, zi v4), (0, zr Z v0), (1, zi v1), (4, zi v4), (5, zi v5)]) d_Quern_bestLeftOut_63 rfl (by decide) rfl ?_
  refine zv_sub X [2, 3, 1, 0, 4] rfl ?_
  exact v_Quern_bestLeftOut_64 X hN v0 v1 v4 v5 v4 hv0 K6 D hK6
set_option maxRecDepth 100000 in
theorem v_Quern_bestLeftOut_8 {Γ : Gt} {Z : Zt} (X : Cx Γ Z prog_6_method_26_code R_Quern 6 (some .int) rm_Quern_bestLeftOut) (hN : 143 ≤ Z.2.2.2.1) (v0 v1 : Int) (hv0 : isQ v0)  (D : Mm)  : ∀ (n : Nat) (v2 v3 v4 : Int) , Zv Γ Z 6 (QfP Γ Z 1 D) (f_Quern_bestLeftOut_8 v0 v1 D n v2 v3 v4) D 8 [(0, zr Z v0), (1, zi v1), (2, zi v2), (3, zi v3), (4, zi v4)] [] := by
  intro n
  induction n with
  | zero =>
    intro v2 v3 v4
    exact zv_none
  | succ n ih =>
    intro v2 v3 v4
    rw [f_Quern_bestLeftOut_8]
    refine zv_iload X d_Quern_bestLeftOut_8 4 rfl ?_
    refine zv_bipush X d_Quern_bestLeftOut_10 (by decide +kernel) ?_
    refine zv_icmp_ge X (tgt := 70) d_Quern_bestLeftOut_12 (by decide) (fun h12 => ?_) (fun h12 => ?_)
    · refine zv_iload_n X d_Quern_bestLeftOut_70 rfl 2 rfl ?_
      exact zv_iretP X d_Quern_bestLeftOut_71
    · refine zv_iload X d_Quern_bestLeftOut_15 4 rfl ?_
      refine zv_aload_n X d_Quern_bestLeftOut_17 rfl 0 rfl ?_
      refine zv_get X (ci := 5) rfl i_Quern (zq_0 hN hv0) 11 (by decide) lk_Quern_51 rfl rfl d_Quern_bestLeftOut_18 ?_
      refine zv_iand X d_Quern_bestLeftOut_21 ?_
      refine zv_if_ne X (y := 0) (tgt := 64) d_Quern_bestLeftOut_22 (by decide) (fun h22 => ?_) (fun h22 => ?_)
      · exact v_Quern_bestLeftOut_64 X hN v0 v1 v2 v3 v4 hv0 (f_Quern_bestLeftOut_8 v0 v1 D n) D ih
      · refine zv_aload_n X d_Quern_bestLeftOut_25 rfl 0 rfl ?_
        refine zv_iload X d_Quern_bestLeftOut_26 4 rfl ?_
        refine zv_cVP1 X (av := [zi v4]) (st := []) (ci := 5) (c_Quern_hoursSaved Γ.2.1 X.2.2.2.2.2.2.2.1 hN v0 v4 hv0 D) mk_Quern_150 rfl (zq_0 hN hv0) ⟨rfl, rfl, Nat.le_of_ble_eq_true rfl, Nat.le_of_ble_eq_true rfl⟩ rfl (Nat.le_of_ble_eq_true rfl) d_Quern_bestLeftOut_28 (fun r1 hr1 => ?_)
        refine zv_iload_n X d_Quern_bestLeftOut_31 rfl 1 rfl ?_
        refine zv_icmp_ge X (tgt := 38) d_Quern_bestLeftOut_32 (by decide) (fun h32 => ?_) (fun h32 => ?_)
        · refine zv_aload_n X d_Quern_bestLeftOut_38 rfl 0 rfl ?_
          refine zv_iload X d_Quern_bestLeftOut_39 4 rfl ?_
          refine zv_cVP1 X (av := [zi v4]) (st := []) (ci := 5) (c_Quern_grainsWithout Γ.2.1 X.2.2.2.2.2.2.2.1 hN v0 v4 hv0 D) mk_Quern_153 rfl (zq_0 hN hv0) ⟨rfl, rfl, Nat.le_of_ble_eq_true rfl, Nat.le_of_ble_eq_true rfl⟩ rfl (Nat.le_of_ble_eq_true rfl) d_Quern_bestLeftOut_41 (fun r2 hr2 => ?_)
          refine zv_istore X (lv2 := [(5, zi r2), (0, zr Z v0), (1, zi v1), (2, zi v2), (3, zi v3), (4, zi v4)]) d_Quern_bestLeftOut_44 (by decide) rfl ?_
          refine zv_iload_n X d_Quern_bestLeftOut_46 rfl 3 rfl ?_
          refine zv_bipush X d_Quern_bestLeftOut_47 (by decide +kernel) ?_
          refine zv_icmp_eq X (tgt := 58) d_Quern_bestLeftOut_49 (by decide) (fun h49 => ?_) (fun h49 => ?_)
          · refine zv_sub X [1, 2, 5, 0] rfl ?_
            exact v_Quern_bestLeftOut_58 X hN v0 v1 v4 r2 hv0 (f_Quern_bestLeftOut_8 v0 v1 D n) D ih
          · refine zv_iload X d_Quern_bestLeftOut_52 0 rfl ?_
            refine zv_iload_n X d_Quern_bestLeftOut_54 rfl 4 rfl ?_
            refine zv_icmp_ge X (tgt := 64) d_Quern_bestLeftOut_55 (by decide) (fun h55 => ?_) (fun h55 => ?_)
            · refine zv_sub X [1, 2, 3, 4, 5] rfl ?_
              exact v_Quern_bestLeftOut_64 X hN v0 v1 v2 v3 v4 hv0 (f_Quern_bestLeftOut_8 v0 v1 D n) D ih
            · refine zv_sub X [1, 2, 5, 0] rfl ?_
              exact v_Quern_bestLeftOut_58 X hN v0 v1 v4 r2 hv0 (f_Quern_bestLeftOut_8 v0 v1 D n) D ih
        · refine zv_goto X (tgt := 64) d_Quern_bestLeftOut_35 (by decide) ?_
          exact v_Quern_bestLeftOut_64 X hN v0 v1 v2 v3 v4 hv0 (f_Quern_bestLeftOut_8 v0 v1 D n) D ih
set_option maxRecDepth 100000 in
theorem c_Quern_bestLeftOut (l : Launch) {Z : Zt} (hZ : Zok Z) (hN : 143 ≤ Z.2.2.2.1) (v0 v1 : Int) (hv0 : isQ v0) (D : Mm) : CtP l Z y_Quern_bestLeftOut prog_6_method_26_code 6 (some .int) rm_Quern_bestLeftOut 1 [zr Z v0, zi v1] D (f_Quern_bestLeftOut v0 v1 D) := by
  refine zm_P (lv := [(0, zr Z v0), (1, zi v1)]) hZ (by decide +kernel) rfl (Nat.le_of_ble_eq_true rfl) rfl (fun Γ hl X => ?_)
  subst hl
  unfold f_Quern_bestLeftOut
  refine zv_bipush X d_Quern_bestLeftOut_0 (by decide +kernel) ?_
  refine zv_istore_n X (lv2 := [(2, zi (-4)), (0, zr Z v0), (1, zi v1)]) d_Quern_bestLeftOut_2 rfl (by decide) rfl ?_
  refine zv_iconst X d_Quern_bestLeftOut_3 ?_
  refine zv_istore_n X (lv2 := [(3, zi 0), (2, zi (-4)), (0, zr Z v0), (1, zi v1)]) d_Quern_bestLeftOut_4 rfl (by decide) rfl ?_
  refine zv_iconst X d_Quern_bestLeftOut_5 ?_
  refine zv_istore X (lv2 := [(4, zi 0), (3, zi 0), (2, zi (-4)), (0, zr Z v0), (1, zi v1)]) d_Quern_bestLeftOut_6 (by decide) rfl ?_
  refine zv_sub X [3, 4, 2, 1, 0] rfl ?_
  exact v_Quern_bestLeftOut_8 X hN v0 v1 hv0 D zF (-4) 0 0
set_option maxRecDepth 100000 in
theorem c_Main_leave (l : Launch) {Z : Zt} (hZ : Zok Z) (hN : 143 ≤ Z.2.2.2.1) (v1 v2 : Int)  (D : Mm) : CtP l Z y_Main_leave prog_1_method_21_code 4 (some .int) rm_Main_leave 1 [zr Z 1, zi v1, zi v2] D (f_Main_leave v1 v2 D) := by
  refine zm_P (lv := [(0, zr Z 1), (1, zi v1), (2, zi v2)]) hZ (by decide +kernel) rfl (Nat.le_of_ble_eq_true rfl) rfl (fun Γ hl X => ?_)
  subst hl
  unfold f_Main_leave
  refine zv_iload_n X d_Main_leave_0 rfl 1 rfl ?_
  refine zv_iconst X d_Main_leave_1 ?_
  refine zv_sipush X d_Main_leave_2 (by decide +kernel) ?_
  refine zv_cSP1 X (av := [zi v1, zi 0, zi 399]) (st := []) (c_Main_within Γ.2.1 X.2.2.2.2.2.2.2.1 hN v1 0 399 D) mk_Main_61 ⟨rfl, rfl, Nat.le_of_ble_eq_true rfl, Nat.le_of_ble_eq_true rfl⟩ rfl (Nat.le_of_ble_eq_true rfl) d_Main_leave_5 (fun r1 hr1 => ?_)
  refine zv_if_eq X (y := 0) (tgt := 20) d_Main_leave_8 (by decide) (fun h8 => ?_) (fun h8 => ?_)
  · refine zv_iconst X d_Main_leave_20 ?_
    exact zv_iretP X d_Main_leave_21
  · refine zv_iload_n X d_Main_leave_11 rfl 2 rfl ?_
    refine zv_iconst X d_Main_leave_12 ?_
    refine zv_iconst X d_Main_leave_13 ?_
    refine zv_cSP1 X (av := [zi v2, zi 0, zi 1]) (st := []) (c_Main_within Γ.2.1 X.2.2.2.2.2.2.2.1 hN v2 0 1 D) mk_Main_61 ⟨rfl, rfl, Nat.le_of_ble_eq_true rfl, Nat.le_of_ble_eq_true rfl⟩ rfl (Nat.le_of_ble_eq_true rfl) d_Main_leave_14 (fun r2 hr2 => ?_)
    refine zv_if_ne X (y := 0) (tgt := 22) d_Main_leave_17 (by decide) (fun h17 => ?_) (fun h17 => ?_)
    · refine zv_aload_n X d_Main_leave_22 rfl 0 rfl ?_
      refine zv_guard (fun hq23 => ?_)
      refine zv_get X (ci := 6) rfl i_Main (za_1 hN) 7 (by decide) lk_Main_51 rfl rfl d_Main_leave_23 ?_
      refine zv_iload_n X d_Main_leave_26 rfl 1 rfl ?_
      refine zv_cVP1 X (av := [zi v1]) (st := []) (ci := 5) (c_Quern_bestLeftOut Γ.2.1 X.2.2.2.2.2.2.2.1 hN (D 1 7) v1 hq23 D) mk_Main_201 rfl (zq_0 hN hq23) ⟨rfl, rfl, Nat.le_of_ble_eq_true rfl, Nat.le_of_ble_eq_true rfl⟩ rfl (Nat.le_of_ble_eq_true rfl) d_Main_leave_27 (fun r3 hr3 => ?_)
      refine zv_istore_n X (lv2 := [(3, zi r3), (0, zr Z 1), (1, zi v1), (2, zi v2)]) d_Main_leave_30 rfl (by decide) rfl ?_
      refine zv_iload_n X d_Main_leave_31 rfl 0 rfl ?_
      refine zv_bipush X d_Main_leave_32 (by decide +kernel) ?_
      refine zv_icmp_eq X (tgt := 41) d_Main_leave_34 (by decide) (fun h34 => ?_) (fun h34 => ?_)
      · refine zv_iload_n X d_Main_leave_41 rfl 0 rfl ?_
        refine zv_goto X (tgt := 53) d_Main_leave_42 (by decide) ?_
        exact zv_iretP X d_Main_leave_53
      · refine zv_iload_n X d_Main_leave_37 rfl 3 rfl ?_
        refine zv_if_ne X (y := 0) (tgt := 45) d_Main_leave_38 (by decide) (fun h38 => ?_) (fun h38 => ?_)
        · refine zv_aload_n X d_Main_leave_45 rfl 1 rfl ?_
          refine zv_guard (fun hq46 => ?_)
          refine zv_get X (ci := 6) rfl i_Main (za_1 hN) 7 (by decide) lk_Main_51 rfl rfl d_Main_leave_46 ?_
          refine zv_iload_n X d_Main_leave_49 rfl 0 rfl ?_
          refine zv_cVP1 X (av := [zi r3]) (st := []) (ci := 5) (c_Quern_grainsWithout Γ.2.1 X.2.2.2.2.2.2.2.1 hN (D 1 7) r3 hq46 D) mk_Main_204 rfl (zq_0 hN hq46) ⟨rfl, rfl, Nat.le_of_ble_eq_true rfl, Nat.le_of_ble_eq_true rfl⟩ rfl (Nat.le_of_ble_eq_true rfl) d_Main_leave_50 (fun r4 hr4 => ?_)
          exact zv_iretP X d_Main_leave_53
        · refine zv_iload_n X d_Main_leave_41 rfl 0 rfl ?_
          refine zv_goto X (tgt := 53) d_Main_leave_42 (by decide) ?_
          exact zv_iretP X d_Main_leave_53
    · refine zv_iconst X d_Main_leave_20 ?_
      exact zv_iretP X d_Main_leave_21
set_option maxRecDepth 100000 in
theorem c_Finds_tellBlind (l : Launch) {Z : Zt} (hZ : Zok Z) (hN : 143 ≤ Z.2.2.2.1) (v0 v1 v2 : Int) (hv0 : isF v0) (D : Mm) : CtM l Z y_Finds_tellBlind prog_3_method_6_code 3 (some .int) rm_Finds_tellBlind 1 [zr Z v0, zi v1, zi v2] D (f_Finds_tellBlind v0 v1 v2 D) := by
  refine zm_M (lv := [(0, zr Z v0), (1, zi v1), (2, zi v2)]) hZ (by decide +kernel) rfl (Nat.le_of_ble_eq_true rfl) rfl (fun Γ hl X => ?_)
  subst hl
  unfold f_Finds_tellBlind
  refine zv_aload_n X d_Finds_tellBlind_0 rfl 0 rfl ?_
  refine zv_get X (ci := 4) rfl i_Finds (zf_0 hN hv0) 1 (by decide) lk_Finds_16 rfl rfl d_Finds_tellBlind_1 ?_
  refine zv_iload_n X d_Finds_tellBlind_4 rfl 1 rfl ?_
  refine zv_aald X (v0 + 13 + v1) (zf_12 hN hv0) d_Finds_tellBlind_5 (by omega) (fun ha5 hb5 => ?_)
  refine zv_iload_n X d_Finds_tellBlind_6 rfl 2 rfl ?_
  refine zv_dup2 X d_Finds_tellBlind_7 rfl rfl ?_
  refine zv_iald X (zf_12r hN hv0 ha5 hb5) d_Finds_tellBlind_8 (fun ha8 hb8 => ?_)
  refine zv_iconst X d_Finds_tellBlind_9 ?_
  refine zv_iadd X d_Finds_tellBlind_10 ?_
  refine zv_iastC X (zf_12r hN hv0 ha5 hb5) d_Finds_tellBlind_11 (fun ha11 hb11 D1 => ?_)
  refine zv_aload_n X d_Finds_tellBlind_12 rfl 0 rfl ?_
  refine zv_dup X d_Finds_tellBlind_13 rfl ?_
  refine zv_get X (ci := 4) rfl i_Finds (zf_0 hN hv0) 3 (by decide) lk_Finds_29 rfl rfl d_Finds_tellBlind_14 ?_
  refine zv_iconst X d_Finds_tellBlind_17 ?_
  refine zv_iadd X d_Finds_tellBlind_18 ?_
  refine zv_putC X (ci := 4) rfl i_Finds t_Finds t_Finds_ok n_Finds (zf_0 hN hv0) 3 rfl (by decide) lk_Finds_29 rfl rfl (ps_4_3 ..) (Nat.le_of_ble_eq_true rfl) rfl rfl d_Finds_tellBlind_19 (fun D2 => ?_)
  refine zv_aload_n X d_Finds_tellBlind_22 rfl 0 rfl ?_
  refine zv_get X (ci := 4) rfl i_Finds (zf_0 hN hv0) 1 (by decide) lk_Finds_16 rfl rfl d_Finds_tellBlind_23 ?_
  refine zv_iload_n X d_Finds_tellBlind_26 rfl 1 rfl ?_
  refine zv_aald X (v0 + 13 + v1) (zf_12 hN hv0) d_Finds_tellBlind_27 (by omega) (fun ha27 hb27 => ?_)
  refine zv_iload_n X d_Finds_tellBlind_28 rfl 2 rfl ?_
  refine zv_iald X (zf_12r hN hv0 ha27 hb27) d_Finds_tellBlind_29 (fun ha29 hb29 => ?_)
  exact zv_iretM X d_Finds_tellBlind_30
set_option maxRecDepth 100000 in
theorem c_Main_blind (l : Launch) {Z : Zt} (hZ : Zok Z) (hN : 143 ≤ Z.2.2.2.1) (v1 v2 : Int)  (D : Mm) : CtM l Z y_Main_blind prog_1_method_22_code 3 (some .int) rm_Main_blind 1 [zr Z 1, zi v1, zi v2] D (f_Main_blind v1 v2 D) := by
  refine zm_M (lv := [(0, zr Z 1), (1, zi v1), (2, zi v2)]) hZ (by decide +kernel) rfl (Nat.le_of_ble_eq_true rfl) rfl (fun Γ hl X => ?_)
  subst hl
  unfold f_Main_blind
  refine zv_aload_n X d_Main_blind_0 rfl 0 rfl ?_
  refine zv_guard (fun hq1 => ?_)
  refine zv_get X (ci := 6) rfl i_Main (za_1 hN) 7 (by decide) lk_Main_51 rfl rfl d_Main_blind_1 ?_
  refine zv_iload_n X d_Main_blind_4 rfl 1 rfl ?_
  refine zv_cVP1 X (av := [zi v1]) (st := []) (ci := 5) (c_Quern_hasSort Γ.2.1 X.2.2.2.2.2.2.2.1 hN (D 1 7) v1 hq1 D) mk_Main_110 rfl (zq_0 hN hq1) ⟨rfl, rfl, Nat.le_of_ble_eq_true rfl, Nat.le_of_ble_eq_true rfl⟩ rfl (Nat.le_of_ble_eq_true rfl) d_Main_blind_5 (fun r1 hr1 => ?_)
  refine zv_if_eq X (y := 0) (tgt := 22) d_Main_blind_8 (by decide) (fun h8 => ?_) (fun h8 => ?_)
  · refine zv_iconst X d_Main_blind_22 ?_
    exact zv_iretM X d_Main_blind_23
  · refine zv_aload_n X d_Main_blind_11 rfl 0 rfl ?_
    refine zv_guard (fun hq12 => ?_)
    refine zv_get X (ci := 6) rfl i_Main (za_1 hN) 7 (by decide) lk_Main_51 rfl rfl d_Main_blind_12 ?_
    refine zv_iload_n X d_Main_blind_15 rfl 2 rfl ?_
    refine zv_cVP1 X (av := [zi v2]) (st := []) (ci := 5) (c_Quern_hasSort Γ.2.1 X.2.2.2.2.2.2.2.1 hN (D 1 7) v2 hq12 D) mk_Main_110 rfl (zq_0 hN hq12) ⟨rfl, rfl, Nat.le_of_ble_eq_true rfl, Nat.le_of_ble_eq_true rfl⟩ rfl (Nat.le_of_ble_eq_true rfl) d_Main_blind_16 (fun r2 hr2 => ?_)
    refine zv_if_ne X (y := 0) (tgt := 24) d_Main_blind_19 (by decide) (fun h19 => ?_) (fun h19 => ?_)
    · refine zv_aload_n X d_Main_blind_24 rfl 0 rfl ?_
      refine zv_get X (ci := 6) rfl i_Main (za_1 hN) 4 (by decide) lk_Main_40 rfl rfl d_Main_blind_25 ?_
      refine zv_get X (ci := 4) rfl i_Finds (zf_0 hN (Or.inl rfl)) 3 (by decide) lk_Main_207 rfl rfl d_Main_blind_28 ?_
      refine zv_sipush X d_Main_blind_31 (by decide +kernel) ?_
      refine zv_icmp_lt X (tgt := 40) d_Main_blind_34 (by decide) (fun h34 => ?_) (fun h34 => ?_)
      · refine zv_aload_n X d_Main_blind_40 rfl 0 rfl ?_
        refine zv_get X (ci := 6) rfl i_Main (za_1 hN) 4 (by decide) lk_Main_40 rfl rfl d_Main_blind_41 ?_
        refine zv_iload_n X d_Main_blind_44 rfl 1 rfl ?_
        refine zv_iload_n X d_Main_blind_45 rfl 2 rfl ?_
        refine zv_cVM1 X (av := [zi v1, zi v2]) (st := []) (ci := 4) (c_Finds_tellBlind Γ.2.1 X.2.2.2.2.2.2.2.1 hN 12 v1 v2 (Or.inl rfl) D) mk_Main_210 rfl (zf_0 hN (Or.inl rfl)) ⟨rfl, rfl, Nat.le_of_ble_eq_true rfl, Nat.le_of_ble_eq_true rfl⟩ rfl (Nat.le_of_ble_eq_true rfl) d_Main_blind_46 (fun r3 D4 hr3 => ?_)
        exact zv_iretM X d_Main_blind_49
      · refine zv_bipush X d_Main_blind_37 (by decide +kernel) ?_
        exact zv_iretM X d_Main_blind_39
    · refine zv_iconst X d_Main_blind_22 ?_
      exact zv_iretM X d_Main_blind_23
set_option maxRecDepth 100000 in
theorem v_Finds_blindThatWere_4 {Γ : Gt} {Z : Zt} (X : Cx Γ Z prog_3_method_7_code R_Finds 4 (some .int) rm_Finds_blindThatWere) (hN : 143 ≤ Z.2.2.2.1) (v0 v1 : Int) (hv0 : isF v0)  (D : Mm)  : ∀ (n : Nat) (v2 v3 : Int) , Zv Γ Z 4 (QfP Γ Z 1 D) (f_Finds_blindThatWere_4 v0 v1 D n v2 v3) D 4 [(0, zr Z v0), (1, zi v1), (2, zi v2), (3, zi v3)] [] := by
  intro n
  induction n with
  | zero =>
    intro v2 v3
    exact zv_none
  | succ n ih =>
    intro v2 v3
    rw [f_Finds_blindThatWere_4]
    refine zv_iload_n X d_Finds_blindThatWere_4 rfl 3 rfl ?_
    refine zv_bipush X d_Finds_blindThatWere_5 (by decide +kernel) ?_
    refine zv_icmp_ge X (tgt := 27) d_Finds_blindThatWere_7 (by decide) (fun h7 => ?_) (fun h7 => ?_)
    · refine zv_iload_n X d_Finds_blindThatWere_27 rfl 2 rfl ?_
      exact zv_iretP X d_Finds_blindThatWere_28
    · refine zv_iload_n X d_Finds_blindThatWere_10 rfl 2 rfl ?_
      refine zv_aload_n X d_Finds_blindThatWere_11 rfl 0 rfl ?_
      refine zv_get X (ci := 4) rfl i_Finds (zf_0 hN hv0) 1 (by decide) lk_Finds_16 rfl rfl d_Finds_blindThatWere_12 ?_
      refine zv_iload_n X d_Finds_blindThatWere_15 rfl 1 rfl ?_
      refine zv_aald X (v0 + 13 + v1) (zf_12 hN hv0) d_Finds_blindThatWere_16 (by omega) (fun ha16 hb16 => ?_)
      refine zv_iload_n X d_Finds_blindThatWere_17 rfl 3 rfl ?_
      refine zv_iald X (zf_12r hN hv0 ha16 hb16) d_Finds_blindThatWere_18 (fun ha18 hb18 => ?_)
      refine zv_iadd X d_Finds_blindThatWere_19 ?_
      refine zv_istore_n X (lv2 := [(2, zi (v2 + (D (v0 + 13 + v1) v3))), (0, zr Z v0), (1, zi v1), (3, zi v3)]) d_Finds_blindThatWere_20 rfl (by decide) rfl ?_
      refine zv_iinc X (lv2 := [(3, zi (v3 + 1)), (2, zi (v2 + (D (v0 + 13 + v1) v3))), (0, zr Z v0), (1, zi v1)]) d_Finds_blindThatWere_21 3 rfl (by decide) rfl ?_
      refine zv_goto X (tgt := 4) d_Finds_blindThatWere_24 (by decide) ?_
      refine zv_sub X [2, 3, 1, 0] rfl ?_
      exact ih (v2 + (D (v0 + 13 + v1) v3)) (v3 + 1)
set_option maxRecDepth 100000 in
theorem c_Finds_blindThatWere (l : Launch) {Z : Zt} (hZ : Zok Z) (hN : 143 ≤ Z.2.2.2.1) (v0 v1 : Int) (hv0 : isF v0) (D : Mm) : CtP l Z y_Finds_blindThatWere prog_3_method_7_code 4 (some .int) rm_Finds_blindThatWere 1 [zr Z v0, zi v1] D (f_Finds_blindThatWere v0 v1 D) := by
  refine zm_P (lv := [(0, zr Z v0), (1, zi v1)]) hZ (by decide +kernel) rfl (Nat.le_of_ble_eq_true rfl) rfl (fun Γ hl X => ?_)
  subst hl
  unfold f_Finds_blindThatWere
  refine zv_iconst X d_Finds_blindThatWere_0 ?_
  refine zv_istore_n X (lv2 := [(2, zi 0), (0, zr Z v0), (1, zi v1)]) d_Finds_blindThatWere_1 rfl (by decide) rfl ?_
  refine zv_iconst X d_Finds_blindThatWere_2 ?_
  refine zv_istore_n X (lv2 := [(3, zi 0), (2, zi 0), (0, zr Z v0), (1, zi v1)]) d_Finds_blindThatWere_3 rfl (by decide) rfl ?_
  refine zv_sub X [2, 3, 1, 0] rfl ?_
  exact v_Finds_blindThatWere_4 X hN v0 v1 hv0 D zF 0 0
set_option maxRecDepth 100000 in
theorem c_Main_slips (l : Launch) {Z : Zt} (hZ : Zok Z) (hN : 143 ≤ Z.2.2.2.1) (v1 v2 v3 : Int)  (D : Mm) : CtP l Z y_Main_slips prog_1_method_23_code 5 (some .int) rm_Main_slips 1 [zr Z 1, zi v1, zi v2, zi v3] D (f_Main_slips v1 v2 v3 D) := by
  refine zm_P (lv := [(0, zr Z 1), (1, zi v1), (2, zi v2), (3, zi v3)]) hZ (by decide +kernel) rfl (Nat.le_of_ble_eq_true rfl) rfl (fun Γ hl X => ?_)
  subst hl
  unfold f_Main_slips
  refine zv_aload_n X d_Main_slips_0 rfl 0 rfl ?_
  refine zv_guard (fun hq1 => ?_)
  refine zv_get X (ci := 6) rfl i_Main (za_1 hN) 7 (by decide) lk_Main_51 rfl rfl d_Main_slips_1 ?_
  refine zv_iload_n X d_Main_slips_4 rfl 1 rfl ?_
  refine zv_cVP1 X (av := [zi v1]) (st := []) (ci := 5) (c_Quern_hasSort Γ.2.1 X.2.2.2.2.2.2.2.1 hN (D 1 7) v1 hq1 D) mk_Main_110 rfl (zq_0 hN hq1) ⟨rfl, rfl, Nat.le_of_ble_eq_true rfl, Nat.le_of_ble_eq_true rfl⟩ rfl (Nat.le_of_ble_eq_true rfl) d_Main_slips_5 (fun r1 hr1 => ?_)
  refine zv_if_eq X (y := 0) (tgt := 31) d_Main_slips_8 (by decide) (fun h8 => ?_) (fun h8 => ?_)
  · refine zv_iconst X d_Main_slips_31 ?_
    exact zv_iretP X d_Main_slips_32
  · refine zv_aload_n X d_Main_slips_11 rfl 0 rfl ?_
    refine zv_guard (fun hq12 => ?_)
    refine zv_get X (ci := 6) rfl i_Main (za_1 hN) 7 (by decide) lk_Main_51 rfl rfl d_Main_slips_12 ?_
    refine zv_iload_n X d_Main_slips_15 rfl 2 rfl ?_
    refine zv_cVP1 X (av := [zi v2]) (st := []) (ci := 5) (c_Quern_hasSort Γ.2.1 X.2.2.2.2.2.2.2.1 hN (D 1 7) v2 hq12 D) mk_Main_110 rfl (zq_0 hN hq12) ⟨rfl, rfl, Nat.le_of_ble_eq_true rfl, Nat.le_of_ble_eq_true rfl⟩ rfl (Nat.le_of_ble_eq_true rfl) d_Main_slips_16 (fun r2 hr2 => ?_)
    refine zv_if_eq X (y := 0) (tgt := 31) d_Main_slips_19 (by decide) (fun h19 => ?_) (fun h19 => ?_)
    · refine zv_iconst X d_Main_slips_31 ?_
      exact zv_iretP X d_Main_slips_32
    · refine zv_iload_n X d_Main_slips_22 rfl 3 rfl ?_
      refine zv_iconst X d_Main_slips_23 ?_
      refine zv_iconst X d_Main_slips_24 ?_
      refine zv_cSP1 X (av := [zi v3, zi 0, zi 1]) (st := []) (c_Main_within Γ.2.1 X.2.2.2.2.2.2.2.1 hN v3 0 1 D) mk_Main_61 ⟨rfl, rfl, Nat.le_of_ble_eq_true rfl, Nat.le_of_ble_eq_true rfl⟩ rfl (Nat.le_of_ble_eq_true rfl) d_Main_slips_25 (fun r3 hr3 => ?_)
      refine zv_if_ne X (y := 0) (tgt := 33) d_Main_slips_28 (by decide) (fun h28 => ?_) (fun h28 => ?_)
      · refine zv_aload_n X d_Main_slips_33 rfl 0 rfl ?_
        refine zv_get X (ci := 6) rfl i_Main (za_1 hN) 4 (by decide) lk_Main_40 rfl rfl d_Main_slips_34 ?_
        refine zv_iload_n X d_Main_slips_37 rfl 1 rfl ?_
        refine zv_cVP1 X (av := [zi v1]) (st := []) (ci := 4) (c_Finds_blindThatWere Γ.2.1 X.2.2.2.2.2.2.2.1 hN 12 v1 (Or.inl rfl) D) mk_Main_213 rfl (zf_0 hN (Or.inl rfl)) ⟨rfl, rfl, Nat.le_of_ble_eq_true rfl, Nat.le_of_ble_eq_true rfl⟩ rfl (Nat.le_of_ble_eq_true rfl) d_Main_slips_38 (fun r4 hr4 => ?_)
        refine zv_istore X (lv2 := [(4, zi r4), (0, zr Z 1), (1, zi v1), (2, zi v2), (3, zi v3)]) d_Main_slips_41 (by decide) rfl ?_
        refine zv_iload X d_Main_slips_43 0 rfl ?_
        refine zv_if_ne X (y := 0) (tgt := 53) d_Main_slips_45 (by decide) (fun h45 => ?_) (fun h45 => ?_)
        · refine zv_aload_n X d_Main_slips_53 rfl 1 rfl ?_
          refine zv_get X (ci := 6) rfl i_Main (za_1 hN) 4 (by decide) lk_Main_40 rfl rfl d_Main_slips_54 ?_
          refine zv_get X (ci := 4) rfl i_Finds (zf_0 hN (Or.inl rfl)) 1 (by decide) lk_Main_216 rfl rfl d_Main_slips_57 ?_
          refine zv_iload_n X d_Main_slips_60 rfl 2 rfl ?_
          refine zv_aald X (12 + 13 + v1) (zf_12 hN (Or.inl rfl)) d_Main_slips_61 (by omega) (fun ha61 hb61 => ?_)
          refine zv_iload_n X d_Main_slips_62 rfl 3 rfl ?_
          refine zv_iald X (zf_12r hN (Or.inl rfl) ha61 hb61) d_Main_slips_63 (fun ha63 hb63 => ?_)
          refine zv_i2l X d_Main_slips_64 ?_
          refine zv_iload X d_Main_slips_65 0 rfl ?_
          refine zv_i2l X d_Main_slips_67 ?_
          refine zv_iload_n X d_Main_slips_68 rfl 4 rfl ?_
          refine zv_cSP2 X (av := [zl (wI (D (12 + 13 + v1) v2)), zl (wI r4), zi v3]) (st := []) (c_Odds_inLowestTerms Γ.2.1 X.2.2.2.2.2.2.2.1 (wI (D (12 + 13 + v1) v2)) (wI r4) v3 D) mk_Main_136 ⟨rfl, rfl, Nat.le_of_ble_eq_true rfl, Nat.le_of_ble_eq_true rfl⟩ rfl (Nat.le_of_ble_eq_true rfl) d_Main_slips_69 (fun r5 hr5 => ?_)
          refine zv_l2i X d_Main_slips_72 ?_
          exact zv_iretP X d_Main_slips_73
        · refine zv_bipush X d_Main_slips_48 (by decide +kernel) ?_
          refine zv_goto X (tgt := 73) d_Main_slips_50 (by decide) ?_
          exact zv_iretP X d_Main_slips_73
      · refine zv_iconst X d_Main_slips_31 ?_
        exact zv_iretP X d_Main_slips_32
set_option maxRecDepth 100000 in
theorem v_Finds_blindCalled_4 {Γ : Gt} {Z : Zt} (X : Cx Γ Z prog_3_method_8_code R_Finds 4 (some .int) rm_Finds_blindCalled) (hN : 143 ≤ Z.2.2.2.1) (v0 v1 : Int) (hv0 : isF v0)  (D : Mm)  : ∀ (n : Nat) (v2 v3 : Int) , Zv Γ Z 4 (QfP Γ Z 1 D) (f_Finds_blindCalled_4 v0 v1 D n v2 v3) D 4 [(0, zr Z v0), (1, zi v1), (2, zi v2), (3, zi v3)] [] := by
  intro n
  induction n with
  | zero =>
    intro v2 v3
    exact zv_none
  | succ n ih =>
    intro v2 v3
    rw [f_Finds_blindCalled_4]
    refine zv_iload_n X d_Finds_blindCalled_4 rfl 3 rfl ?_
    refine zv_bipush X d_Finds_blindCalled_5 (by decide +kernel) ?_
    refine zv_icmp_ge X (tgt := 27) d_Finds_blindCalled_7 (by decide) (fun h7 => ?_) (fun h7 => ?_)
    · refine zv_iload_n X d_Finds_blindCalled_27 rfl 2 rfl ?_
      exact zv_iretP X d_Finds_blindCalled_28
    · refine zv_iload_n X d_Finds_blindCalled_10 rfl 2 rfl ?_
      refine zv_aload_n X d_Finds_blindCalled_11 rfl 0 rfl ?_
      refine zv_get X (ci := 4) rfl i_Finds (zf_0 hN hv0) 1 (by decide) lk_Finds_16 rfl rfl d_Finds_blindCalled_12 ?_
      refine zv_iload_n X d_Finds_blindCalled_15 rfl 3 rfl ?_
      refine zv_aald X (v0 + 13 + v3) (zf_12 hN hv0) d_Finds_blindCalled_16 (by omega) (fun ha16 hb16 => ?_)
      refine zv_iload_n X d_Finds_blindCalled_17 rfl 1 rfl ?_
      refine zv_iald X (zf_12r hN hv0 ha16 hb16) d_Finds_blindCalled_18 (fun ha18 hb18 => ?_)
      refine zv_iadd X d_Finds_blindCalled_19 ?_
      refine zv_istore_n X (lv2 := [(2, zi (v2 + (D (v0 + 13 + v3) v1))), (0, zr Z v0), (1, zi v1), (3, zi v3)]) d_Finds_blindCalled_20 rfl (by decide) rfl ?_
      refine zv_iinc X (lv2 := [(3, zi (v3 + 1)), (2, zi (v2 + (D (v0 + 13 + v3) v1))), (0, zr Z v0), (1, zi v1)]) d_Finds_blindCalled_21 3 rfl (by decide) rfl ?_
      refine zv_goto X (tgt := 4) d_Finds_blindCalled_24 (by decide) ?_
      refine zv_sub X [2, 3, 1, 0] rfl ?_
      exact ih (v2 + (D (v0 + 13 + v3) v1)) (v3 + 1)
set_option maxRecDepth 100000 in
theorem c_Finds_blindCalled (l : Launch) {Z : Zt} (hZ : Zok Z) (hN : 143 ≤ Z.2.2.2.1) (v0 v1 : Int) (hv0 : isF v0) (D : Mm) : CtP l Z y_Finds_blindCalled prog_3_method_8_code 4 (some .int) rm_Finds_blindCalled 1 [zr Z v0, zi v1] D (f_Finds_blindCalled v0 v1 D) := by
  refine zm_P (lv := [(0, zr Z v0), (1, zi v1)]) hZ (by decide +kernel) rfl (Nat.le_of_ble_eq_true rfl) rfl (fun Γ hl X => ?_)
  subst hl
  unfold f_Finds_blindCalled
  refine zv_iconst X d_Finds_blindCalled_0 ?_
  refine zv_istore_n X (lv2 := [(2, zi 0), (0, zr Z v0), (1, zi v1)]) d_Finds_blindCalled_1 rfl (by decide) rfl ?_
  refine zv_iconst X d_Finds_blindCalled_2 ?_
  refine zv_istore_n X (lv2 := [(3, zi 0), (2, zi 0), (0, zr Z v0), (1, zi v1)]) d_Finds_blindCalled_3 rfl (by decide) rfl ?_
  refine zv_sub X [2, 3, 1, 0] rfl ?_
  exact v_Finds_blindCalled_4 X hN v0 v1 hv0 D zF 0 0
set_option maxRecDepth 100000 in
theorem c_Main_lean (l : Launch) {Z : Zt} (hZ : Zok Z) (hN : 143 ≤ Z.2.2.2.1) (v1 : Int)  (D : Mm) : CtP l Z y_Main_lean prog_1_method_24_code 2 (some .int) rm_Main_lean 1 [zr Z 1, zi v1] D (f_Main_lean v1 D) := by
  refine zm_P (lv := [(0, zr Z 1), (1, zi v1)]) hZ (by decide +kernel) rfl (Nat.le_of_ble_eq_true rfl) rfl (fun Γ hl X => ?_)
  subst hl
  unfold f_Main_lean
  refine zv_aload_n X d_Main_lean_0 rfl 0 rfl ?_
  refine zv_guard (fun hq1 => ?_)
  refine zv_get X (ci := 6) rfl i_Main (za_1 hN) 7 (by decide) lk_Main_51 rfl rfl d_Main_lean_1 ?_
  refine zv_iload_n X d_Main_lean_4 rfl 1 rfl ?_
  refine zv_cVP1 X (av := [zi v1]) (st := []) (ci := 5) (c_Quern_hasSort Γ.2.1 X.2.2.2.2.2.2.2.1 hN (D 1 7) v1 hq1 D) mk_Main_110 rfl (zq_0 hN hq1) ⟨rfl, rfl, Nat.le_of_ble_eq_true rfl, Nat.le_of_ble_eq_true rfl⟩ rfl (Nat.le_of_ble_eq_true rfl) d_Main_lean_5 (fun r1 hr1 => ?_)
  refine zv_if_ne X (y := 0) (tgt := 15) d_Main_lean_8 (by decide) (fun h8 => ?_) (fun h8 => ?_)
  · refine zv_aload_n X d_Main_lean_15 rfl 0 rfl ?_
    refine zv_get X (ci := 6) rfl i_Main (za_1 hN) 4 (by decide) lk_Main_40 rfl rfl d_Main_lean_16 ?_
    refine zv_iload_n X d_Main_lean_19 rfl 1 rfl ?_
    refine zv_cVP1 X (av := [zi v1]) (st := []) (ci := 4) (c_Finds_blindCalled Γ.2.1 X.2.2.2.2.2.2.2.1 hN 12 v1 (Or.inl rfl) D) mk_Main_219 rfl (zf_0 hN (Or.inl rfl)) ⟨rfl, rfl, Nat.le_of_ble_eq_true rfl, Nat.le_of_ble_eq_true rfl⟩ rfl (Nat.le_of_ble_eq_true rfl) d_Main_lean_20 (fun r2 hr2 => ?_)
    refine zv_aload_n X d_Main_lean_23 rfl 0 rfl ?_
    refine zv_get X (ci := 6) rfl i_Main (za_1 hN) 4 (by decide) lk_Main_40 rfl rfl d_Main_lean_24 ?_
    refine zv_iload_n X d_Main_lean_27 rfl 1 rfl ?_
    refine zv_cVP1 X (av := [zi v1]) (st := [zi r2]) (ci := 4) (c_Finds_blindThatWere Γ.2.1 X.2.2.2.2.2.2.2.1 hN 12 v1 (Or.inl rfl) D) mk_Main_213 rfl (zf_0 hN (Or.inl rfl)) ⟨rfl, rfl, Nat.le_of_ble_eq_true rfl, Nat.le_of_ble_eq_true rfl⟩ rfl (Nat.le_of_ble_eq_true rfl) d_Main_lean_28 (fun r3 hr3 => ?_)
    refine zv_isub X d_Main_lean_31 ?_
    exact zv_iretP X d_Main_lean_32
  · refine zv_sipush X d_Main_lean_11 (by decide +kernel) ?_
    exact zv_iretP X d_Main_lean_14
set_option maxRecDepth 100000 in
theorem c_Main_right (l : Launch) {Z : Zt} (hZ : Zok Z) (hN : 143 ≤ Z.2.2.2.1) (v1 v2 : Int)  (D : Mm) : CtP l Z y_Main_right prog_1_method_25_code 4 (some .int) rm_Main_right 1 [zr Z 1, zi v1, zi v2] D (f_Main_right v1 v2 D) := by
  refine zm_P (lv := [(0, zr Z 1), (1, zi v1), (2, zi v2)]) hZ (by decide +kernel) rfl (Nat.le_of_ble_eq_true rfl) rfl (fun Γ hl X => ?_)
  subst hl
  unfold f_Main_right
  refine zv_aload_n X d_Main_right_0 rfl 0 rfl ?_
  refine zv_guard (fun hq1 => ?_)
  refine zv_get X (ci := 6) rfl i_Main (za_1 hN) 7 (by decide) lk_Main_51 rfl rfl d_Main_right_1 ?_
  refine zv_iload_n X d_Main_right_4 rfl 1 rfl ?_
  refine zv_cVP1 X (av := [zi v1]) (st := []) (ci := 5) (c_Quern_hasSort Γ.2.1 X.2.2.2.2.2.2.2.1 hN (D 1 7) v1 hq1 D) mk_Main_110 rfl (zq_0 hN hq1) ⟨rfl, rfl, Nat.le_of_ble_eq_true rfl, Nat.le_of_ble_eq_true rfl⟩ rfl (Nat.le_of_ble_eq_true rfl) d_Main_right_5 (fun r1 hr1 => ?_)
  refine zv_if_eq X (y := 0) (tgt := 22) d_Main_right_8 (by decide) (fun h8 => ?_) (fun h8 => ?_)
  · refine zv_iconst X d_Main_right_22 ?_
    exact zv_iretP X d_Main_right_23
  · refine zv_iload_n X d_Main_right_11 rfl 2 rfl ?_
    refine zv_iconst X d_Main_right_12 ?_
    refine zv_sipush X d_Main_right_13 (by decide +kernel) ?_
    refine zv_cSP1 X (av := [zi v2, zi 0, zi 999]) (st := []) (c_Main_within Γ.2.1 X.2.2.2.2.2.2.2.1 hN v2 0 999 D) mk_Main_61 ⟨rfl, rfl, Nat.le_of_ble_eq_true rfl, Nat.le_of_ble_eq_true rfl⟩ rfl (Nat.le_of_ble_eq_true rfl) d_Main_right_16 (fun r2 hr2 => ?_)
    refine zv_if_ne X (y := 0) (tgt := 24) d_Main_right_19 (by decide) (fun h19 => ?_) (fun h19 => ?_)
    · refine zv_aload_n X d_Main_right_24 rfl 0 rfl ?_
      refine zv_get X (ci := 6) rfl i_Main (za_1 hN) 4 (by decide) lk_Main_40 rfl rfl d_Main_right_25 ?_
      refine zv_iload_n X d_Main_right_28 rfl 1 rfl ?_
      refine zv_cVP1 X (av := [zi v1]) (st := []) (ci := 4) (c_Finds_blindCalled Γ.2.1 X.2.2.2.2.2.2.2.1 hN 12 v1 (Or.inl rfl) D) mk_Main_219 rfl (zf_0 hN (Or.inl rfl)) ⟨rfl, rfl, Nat.le_of_ble_eq_true rfl, Nat.le_of_ble_eq_true rfl⟩ rfl (Nat.le_of_ble_eq_true rfl) d_Main_right_29 (fun r3 hr3 => ?_)
      refine zv_istore_n X (lv2 := [(3, zi r3), (0, zr Z 1), (1, zi v1), (2, zi v2)]) d_Main_right_32 rfl (by decide) rfl ?_
      refine zv_iload_n X d_Main_right_33 rfl 0 rfl ?_
      refine zv_if_ne X (y := 0) (tgt := 42) d_Main_right_34 (by decide) (fun h34 => ?_) (fun h34 => ?_)
      · refine zv_iload_n X d_Main_right_42 rfl 3 rfl ?_
        refine zv_aload_n X d_Main_right_43 rfl 1 rfl ?_
        refine zv_get X (ci := 6) rfl i_Main (za_1 hN) 4 (by decide) lk_Main_40 rfl rfl d_Main_right_44 ?_
        refine zv_iload_n X d_Main_right_47 rfl 2 rfl ?_
        refine zv_cVP1 X (av := [zi v1]) (st := [zi v2]) (ci := 4) (c_Finds_blindThatWere Γ.2.1 X.2.2.2.2.2.2.2.1 hN 12 v1 (Or.inl rfl) D) mk_Main_213 rfl (zf_0 hN (Or.inl rfl)) ⟨rfl, rfl, Nat.le_of_ble_eq_true rfl, Nat.le_of_ble_eq_true rfl⟩ rfl (Nat.le_of_ble_eq_true rfl) d_Main_right_48 (fun r4 hr4 => ?_)
        refine zv_imul X d_Main_right_51 ?_
        refine zv_iload_n X d_Main_right_52 rfl 0 rfl ?_
        refine zv_idiv X d_Main_right_53 (fun h53 => ?_)
        exact zv_iretP X d_Main_right_54
      · refine zv_bipush X d_Main_right_37 (by decide +kernel) ?_
        refine zv_goto X (tgt := 54) d_Main_right_39 (by decide) ?_
        exact zv_iretP X d_Main_right_54
    · refine zv_iconst X d_Main_right_22 ?_
      exact zv_iretP X d_Main_right_23

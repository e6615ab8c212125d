set_option maxRecDepth 100000 in
theorem c_Main_cooked (l : Launch) {Z : Zt} (hZ : Zok Z) (hN : 143 ≤ Z.2.2.2.1) (v1 v2 v3 : Int)  (D : Mm) : CtP l Z y_Main_cooked prog_1_method_16_code 4 (some .int) rm_Main_cooked 1 [zr Z 1, zi v1, zi v2, zi v3] D (f_Main_cooked v1 v2 v3 D) := by
  refine zm_P (lv := [(0, zr Z 1), (1, zi v1), (2, zi v2), (3, zi v3)]) hZ (by decide +kernel) rfl (Nat.le_of_ble_eq_true rfl) rfl (fun Γ hl X => ?_)
  subst hl
  unfold f_Main_cooked
  refine zv_aload_n X d_Main_cooked_0 rfl 0 rfl ?_
  refine zv_guard (fun hq1 => ?_)
  refine zv_get X (ci := 6) rfl i_Main (za_1 hN) 7 (by decide) lk_Main_51 rfl rfl d_Main_cooked_1 ?_
  refine zv_iload_n X d_Main_cooked_4 rfl 1 rfl ?_
  refine zv_cVP1 X (av := [zi v1]) (st := []) (ci := 5) (c_Quern_hasSort Γ.2.1 X.2.2.2.2.2.2.2.1 hN (D 1 7) v1 hq1 D) mk_Main_110 rfl (zq_0 hN hq1) ⟨rfl, rfl, Nat.le_of_ble_eq_true rfl, Nat.le_of_ble_eq_true rfl⟩ rfl (Nat.le_of_ble_eq_true rfl) d_Main_cooked_5 (fun r1 hr1 => ?_)
  refine zv_if_eq X (y := 0) (tgt := 30) d_Main_cooked_8 (by decide) (fun h8 => ?_) (fun h8 => ?_)
  · refine zv_iconst X d_Main_cooked_30 ?_
    exact zv_iretP X d_Main_cooked_31
  · refine zv_iload_n X d_Main_cooked_11 rfl 2 rfl ?_
    refine zv_iconst X d_Main_cooked_12 ?_
    refine zv_bipush X d_Main_cooked_13 (by decide +kernel) ?_
    refine zv_cSP1 X (av := [zi v2, zi 0, zi 100]) (st := []) (c_Main_within Γ.2.1 X.2.2.2.2.2.2.2.1 hN v2 0 100 D) mk_Main_61 ⟨rfl, rfl, Nat.le_of_ble_eq_true rfl, Nat.le_of_ble_eq_true rfl⟩ rfl (Nat.le_of_ble_eq_true rfl) d_Main_cooked_15 (fun r2 hr2 => ?_)
    refine zv_if_eq X (y := 0) (tgt := 30) d_Main_cooked_18 (by decide) (fun h18 => ?_) (fun h18 => ?_)
    · refine zv_iconst X d_Main_cooked_30 ?_
      exact zv_iretP X d_Main_cooked_31
    · refine zv_iload_n X d_Main_cooked_21 rfl 3 rfl ?_
      refine zv_iconst X d_Main_cooked_22 ?_
      refine zv_iconst X d_Main_cooked_23 ?_
      refine zv_cSP1 X (av := [zi v3, zi 0, zi 4]) (st := []) (c_Main_within Γ.2.1 X.2.2.2.2.2.2.2.1 hN v3 0 4 D) mk_Main_61 ⟨rfl, rfl, Nat.le_of_ble_eq_true rfl, Nat.le_of_ble_eq_true rfl⟩ rfl (Nat.le_of_ble_eq_true rfl) d_Main_cooked_24 (fun r3 hr3 => ?_)
      refine zv_if_ne X (y := 0) (tgt := 32) d_Main_cooked_27 (by decide) (fun h27 => ?_) (fun h27 => ?_)
      · refine zv_iload_n X d_Main_cooked_32 rfl 3 rfl ?_
        refine zv_iconst X d_Main_cooked_33 ?_
        refine zv_icmp_ne X (tgt := 49) d_Main_cooked_34 (by decide) (fun h34 => ?_) (fun h34 => ?_)
        · refine zv_aload_n X d_Main_cooked_49 rfl 0 rfl ?_
          refine zv_guard (fun hq50 => ?_)
          refine zv_get X (ci := 6) rfl i_Main (za_1 hN) 7 (by decide) lk_Main_51 rfl rfl d_Main_cooked_50 ?_
          refine zv_iload_n X d_Main_cooked_53 rfl 1 rfl ?_
          refine zv_iload_n X d_Main_cooked_54 rfl 2 rfl ?_
          refine zv_iload_n X d_Main_cooked_55 rfl 3 rfl ?_
          refine zv_cVP1 X (av := [zi v1, zi v2, zi v3]) (st := []) (ci := 5) (c_Quern_cookedWave Γ.2.1 X.2.2.2.2.2.2.2.1 hN (D 1 7) v1 v2 v3 hq50 D) mk_Main_172 rfl (zq_0 hN hq50) ⟨rfl, rfl, Nat.le_of_ble_eq_true rfl, Nat.le_of_ble_eq_true rfl⟩ rfl (Nat.le_of_ble_eq_true rfl) d_Main_cooked_56 (fun r4 hr4 => ?_)
          exact zv_iretP X d_Main_cooked_59
        · refine zv_aload_n X d_Main_cooked_37 rfl 0 rfl ?_
          refine zv_guard (fun hq38 => ?_)
          refine zv_get X (ci := 6) rfl i_Main (za_1 hN) 7 (by decide) lk_Main_51 rfl rfl d_Main_cooked_38 ?_
          refine zv_iload_n X d_Main_cooked_41 rfl 1 rfl ?_
          refine zv_iload_n X d_Main_cooked_42 rfl 2 rfl ?_
          refine zv_cVP1 X (av := [zi v1, zi v2]) (st := []) (ci := 5) (c_Quern_likeCooked Γ.2.1 X.2.2.2.2.2.2.2.1 hN (D 1 7) v1 v2 hq38 D) mk_Main_169 rfl (zq_0 hN hq38) ⟨rfl, rfl, Nat.le_of_ble_eq_true rfl, Nat.le_of_ble_eq_true rfl⟩ rfl (Nat.le_of_ble_eq_true rfl) d_Main_cooked_43 (fun r5 hr5 => ?_)
          refine zv_goto X (tgt := 59) d_Main_cooked_46 (by decide) ?_
          exact zv_iretP X d_Main_cooked_59
      · refine zv_iconst X d_Main_cooked_30 ?_
        exact zv_iretP X d_Main_cooked_31
set_option maxRecDepth 100000 in
theorem c_Finds_tell (l : Launch) {Z : Zt} (hZ : Zok Z) (hN : 143 ≤ Z.2.2.2.1) (v0 v1 v2 v3 : Int) (hv0 : isF v0) (D : Mm) : CtM l Z y_Finds_tell prog_3_method_5_code 5 (some .int) rm_Finds_tell 1 [zr Z v0, zi v1, zi v2, zi v3] D (f_Finds_tell v0 v1 v2 v3 D) := by
  refine zm_M (lv := [(0, zr Z v0), (1, zi v1), (2, zi v2), (3, zi v3)]) hZ (by decide +kernel) rfl (Nat.le_of_ble_eq_true rfl) rfl (fun Γ hl X => ?_)
  subst hl
  unfold f_Finds_tell
  refine zv_aload_n X d_Finds_tell_0 rfl 0 rfl ?_
  refine zv_get X (ci := 4) rfl i_Finds (zf_0 hN hv0) 0 (by decide) lk_Finds_11 rfl rfl d_Finds_tell_1 ?_
  refine zv_iload_n X d_Finds_tell_4 rfl 1 rfl ?_
  refine zv_aald X (v0 + 2 + v1) (zf_1 hN hv0) d_Finds_tell_5 (by omega) (fun ha5 hb5 => ?_)
  refine zv_iload_n X d_Finds_tell_6 rfl 2 rfl ?_
  refine zv_iald X (zf_1r hN hv0 ha5 hb5) d_Finds_tell_7 (fun ha7 hb7 => ?_)
  refine zv_istore X (lv2 := [(4, zi (D (v0 + 2 + v1) v2)), (0, zr Z v0), (1, zi v1), (2, zi v2), (3, zi v3)]) d_Finds_tell_8 (by decide) rfl ?_
  refine zv_aload_n X d_Finds_tell_10 rfl 1 rfl ?_
  refine zv_get X (ci := 4) rfl i_Finds (zf_0 hN hv0) 0 (by decide) lk_Finds_11 rfl rfl d_Finds_tell_11 ?_
  refine zv_iload_n X d_Finds_tell_14 rfl 2 rfl ?_
  refine zv_aald X (v0 + 2 + v1) (zf_1 hN hv0) d_Finds_tell_15 (by omega) (fun ha15 hb15 => ?_)
  refine zv_iload_n X d_Finds_tell_16 rfl 3 rfl ?_
  refine zv_iload_n X d_Finds_tell_17 rfl 4 rfl ?_
  refine zv_iastC X (zf_1r hN hv0 ha15 hb15) d_Finds_tell_18 (fun ha18 hb18 D1 => ?_)
  refine zv_aload_n X d_Finds_tell_19 rfl 1 rfl ?_
  refine zv_dup X d_Finds_tell_20 rfl ?_
  refine zv_get X (ci := 4) rfl i_Finds (zf_0 hN hv0) 2 (by decide) lk_Finds_25 rfl rfl d_Finds_tell_21 ?_
  refine zv_iconst X d_Finds_tell_24 ?_
  refine zv_iload_n X d_Finds_tell_25 rfl 2 rfl ?_
  refine zv_ishl X d_Finds_tell_26 ?_
  refine zv_ior X d_Finds_tell_27 ?_
  refine zv_putC X (ci := 4) rfl i_Finds t_Finds t_Finds_ok n_Finds (zf_0 hN hv0) 2 rfl (by decide) lk_Finds_25 rfl rfl (ps_4_2 ..) (Nat.le_of_ble_eq_true rfl) rfl rfl d_Finds_tell_28 (fun D2 => ?_)
  refine zv_iload X d_Finds_tell_31 0 rfl ?_
  exact zv_iretM X d_Finds_tell_33
set_option maxRecDepth 100000 in
theorem c_Main_count (l : Launch) {Z : Zt} (hZ : Zok Z) (hN : 143 ≤ Z.2.2.2.1) (v1 v2 v3 : Int)  (D : Mm) : CtM l Z y_Main_count prog_1_method_17_code 4 (some .int) rm_Main_count 1 [zr Z 1, zi v1, zi v2, zi v3] D (f_Main_count v1 v2 v3 D) := by
  refine zm_M (lv := [(0, zr Z 1), (1, zi v1), (2, zi v2), (3, zi v3)]) hZ (by decide +kernel) rfl (Nat.le_of_ble_eq_true rfl) rfl (fun Γ hl X => ?_)
  subst hl
  unfold f_Main_count
  refine zv_aload_n X d_Main_count_0 rfl 0 rfl ?_
  refine zv_guard (fun hq1 => ?_)
  refine zv_get X (ci := 6) rfl i_Main (za_1 hN) 7 (by decide) lk_Main_51 rfl rfl d_Main_count_1 ?_
  refine zv_iload_n X d_Main_count_4 rfl 1 rfl ?_
  refine zv_cVP1 X (av := [zi v1]) (st := []) (ci := 5) (c_Quern_hasPatch Γ.2.1 X.2.2.2.2.2.2.2.1 hN (D 1 7) v1 hq1 D) mk_Main_90 rfl (zq_0 hN hq1) ⟨rfl, rfl, Nat.le_of_ble_eq_true rfl, Nat.le_of_ble_eq_true rfl⟩ rfl (Nat.le_of_ble_eq_true rfl) d_Main_count_5 (fun r1 hr1 => ?_)
  refine zv_if_eq X (y := 0) (tgt := 32) d_Main_count_8 (by decide) (fun h8 => ?_) (fun h8 => ?_)
  · refine zv_iconst X d_Main_count_32 ?_
    exact zv_iretM X d_Main_count_33
  · refine zv_aload_n X d_Main_count_11 rfl 0 rfl ?_
    refine zv_guard (fun hq12 => ?_)
    refine zv_get X (ci := 6) rfl i_Main (za_1 hN) 7 (by decide) lk_Main_51 rfl rfl d_Main_count_12 ?_
    refine zv_iload_n X d_Main_count_15 rfl 2 rfl ?_
    refine zv_cVP1 X (av := [zi v2]) (st := []) (ci := 5) (c_Quern_hasSort Γ.2.1 X.2.2.2.2.2.2.2.1 hN (D 1 7) v2 hq12 D) mk_Main_110 rfl (zq_0 hN hq12) ⟨rfl, rfl, Nat.le_of_ble_eq_true rfl, Nat.le_of_ble_eq_true rfl⟩ rfl (Nat.le_of_ble_eq_true rfl) d_Main_count_16 (fun r2 hr2 => ?_)
    refine zv_if_eq X (y := 0) (tgt := 32) d_Main_count_19 (by decide) (fun h19 => ?_) (fun h19 => ?_)
    · refine zv_iconst X d_Main_count_32 ?_
      exact zv_iretM X d_Main_count_33
    · refine zv_iload_n X d_Main_count_22 rfl 3 rfl ?_
      refine zv_iconst X d_Main_count_23 ?_
      refine zv_bipush X d_Main_count_24 (by decide +kernel) ?_
      refine zv_cSP1 X (av := [zi v3, zi 0, zi 99]) (st := []) (c_Main_within Γ.2.1 X.2.2.2.2.2.2.2.1 hN v3 0 99 D) mk_Main_61 ⟨rfl, rfl, Nat.le_of_ble_eq_true rfl, Nat.le_of_ble_eq_true rfl⟩ rfl (Nat.le_of_ble_eq_true rfl) d_Main_count_26 (fun r3 hr3 => ?_)
      refine zv_if_ne X (y := 0) (tgt := 34) d_Main_count_29 (by decide) (fun h29 => ?_) (fun h29 => ?_)
      · refine zv_aload_n X d_Main_count_34 rfl 0 rfl ?_
        refine zv_get X (ci := 6) rfl i_Main (za_1 hN) 4 (by decide) lk_Main_40 rfl rfl d_Main_count_35 ?_
        refine zv_iload_n X d_Main_count_38 rfl 1 rfl ?_
        refine zv_iload_n X d_Main_count_39 rfl 2 rfl ?_
        refine zv_iload_n X d_Main_count_40 rfl 3 rfl ?_
        refine zv_cVM1 X (av := [zi v1, zi v2, zi v3]) (st := []) (ci := 4) (c_Finds_tell Γ.2.1 X.2.2.2.2.2.2.2.1 hN 12 v1 v2 v3 (Or.inl rfl) D) mk_Main_175 rfl (zf_0 hN (Or.inl rfl)) ⟨rfl, rfl, Nat.le_of_ble_eq_true rfl, Nat.le_of_ble_eq_true rfl⟩ rfl (Nat.le_of_ble_eq_true rfl) d_Main_count_41 (fun r4 D5 hr4 => ?_)
        exact zv_iretM X d_Main_count_44
      · refine zv_iconst X d_Main_count_32 ?_
        exact zv_iretM X d_Main_count_33
set_option maxRecDepth 100000 in
theorem c_Main_isDoubt (l : Launch) {Z : Zt} (hZ : Zok Z) (hN : 143 ≤ Z.2.2.2.1) (v0 : Int)  (D : Mm) : CtP l Z y_Main_isDoubt prog_1_method_35_code 1 (some .boolean) rm_Main_isDoubt 1 [zi v0] D (f_Main_isDoubt v0 D) := by
  refine zm_P (lv := [(0, zi v0)]) hZ (by decide +kernel) rfl (Nat.le_of_ble_eq_true rfl) rfl (fun Γ hl X => ?_)
  subst hl
  unfold f_Main_isDoubt
  refine zv_iload_n X d_Main_isDoubt_0 rfl 0 rfl ?_
  refine zv_iconst X d_Main_isDoubt_1 ?_
  refine zv_bipush X d_Main_isDoubt_2 (by decide +kernel) ?_
  refine zv_cSP1 X (av := [zi v0, zi 0, zi 99]) (st := []) (c_Main_within Γ.2.1 X.2.2.2.2.2.2.2.1 hN v0 0 99 D) mk_Main_61 ⟨rfl, rfl, Nat.le_of_ble_eq_true rfl, Nat.le_of_ble_eq_true rfl⟩ rfl (Nat.le_of_ble_eq_true rfl) d_Main_isDoubt_4 (fun r1 hr1 => ?_)
  exact zv_zretP X d_Main_isDoubt_7
set_option maxRecDepth 100000 in
theorem c_Math_max (l : Launch) {Z : Zt} (hZ : Zok Z) (v0 v1 : Int)  (D : Mm) : CtP l Z y_Math_max prog_12_method_65_code 2 (some .int) rm_Math_max 1 [zi v0, zi v1] D (f_Math_max v0 v1 D) := by
  refine zm_PF (lv := [(0, zi v0), (1, zi v1)]) hZ (by decide +kernel) rfl (Nat.le_of_ble_eq_true rfl) rfl (fun Γ hl X => ?_)
  subst hl
  unfold f_Math_max
  refine zv_iload_n X d_Math_max_0 rfl 0 rfl ?_
  refine zv_iload_n X d_Math_max_1 rfl 1 rfl ?_
  refine zv_icmp_lt X (tgt := 9) d_Math_max_2 (by decide) (fun h2 => ?_) (fun h2 => ?_)
  · refine zv_iload_n X d_Math_max_9 rfl 1 rfl ?_
    exact zv_iretP X d_Math_max_10
  · refine zv_iload_n X d_Math_max_5 rfl 0 rfl ?_
    refine zv_goto X (tgt := 10) d_Math_max_6 (by decide) ?_
    exact zv_iretP X d_Math_max_10
set_option maxRecDepth 100000 in
theorem c_Math_min (l : Launch) {Z : Zt} (hZ : Zok Z) (v0 v1 : Int)  (D : Mm) : CtP l Z y_Math_min prog_12_method_69_code 2 (some .int) rm_Math_min 1 [zi v0, zi v1] D (f_Math_min v0 v1 D) := by
  refine zm_PF (lv := [(0, zi v0), (1, zi v1)]) hZ (by decide +kernel) rfl (Nat.le_of_ble_eq_true rfl) rfl (fun Γ hl X => ?_)
  subst hl
  unfold f_Math_min
  refine zv_iload_n X d_Math_min_0 rfl 0 rfl ?_
  refine zv_iload_n X d_Math_min_1 rfl 1 rfl ?_
  refine zv_icmp_gt X (tgt := 9) d_Math_min_2 (by decide) (fun h2 => ?_) (fun h2 => ?_)
  · refine zv_iload_n X d_Math_min_9 rfl 1 rfl ?_
    exact zv_iretP X d_Math_min_10
  · refine zv_iload_n X d_Math_min_5 rfl 0 rfl ?_
    refine zv_goto X (tgt := 10) d_Math_min_6 (by decide) ?_
    exact zv_iretP X d_Math_min_10
set_option maxRecDepth 100000 in
theorem c_Integer_bitCount (l : Launch) {Z : Zt} (hZ : Zok Z) (v0 : Int)  (D : Mm) : CtP l Z y_Integer_bitCount prog_11_method_49_code 1 (some .int) rm_Integer_bitCount 1 [zi v0] D (f_Integer_bitCount v0 D) := by
  refine zm_PF (lv := [(0, zi v0)]) hZ (by decide +kernel) rfl (Nat.le_of_ble_eq_true rfl) rfl (fun Γ hl X => ?_)
  subst hl
  unfold f_Integer_bitCount
  refine zv_iload_n X d_Integer_bitCount_0 rfl 0 rfl ?_
  refine zv_iload_n X d_Integer_bitCount_1 rfl 0 rfl ?_
  refine zv_iconst X d_Integer_bitCount_2 ?_
  refine zv_iushr X d_Integer_bitCount_3 ?_
  refine zv_ldcw X 1431655765 kc_Integer_265 (by decide +kernel) d_Integer_bitCount_4 ?_
  refine zv_iand X d_Integer_bitCount_7 ?_
  refine zv_isub X d_Integer_bitCount_8 ?_
  refine zv_istore_n X (lv2 := [(0, zi (v0 - (jand (jushr v0 1) 1431655765)))]) d_Integer_bitCount_9 rfl (by decide) rfl ?_
  refine zv_iload_n X d_Integer_bitCount_10 rfl 0 rfl ?_
  refine zv_ldcw X 858993459 kc_Integer_266 (by decide +kernel) d_Integer_bitCount_11 ?_
  refine zv_iand X d_Integer_bitCount_14 ?_
  refine zv_iload_n X d_Integer_bitCount_15 rfl 0 rfl ?_
  refine zv_iconst X d_Integer_bitCount_16 ?_
  refine zv_iushr X d_Integer_bitCount_17 ?_
  refine zv_ldcw X 858993459 kc_Integer_266 (by decide +kernel) d_Integer_bitCount_18 ?_
  refine zv_iand X d_Integer_bitCount_21 ?_
  refine zv_iadd X d_Integer_bitCount_22 ?_
  refine zv_let (fun x1 => ?_)
  refine zv_istore_n X (lv2 := [(0, zi x1)]) d_Integer_bitCount_23 rfl (by decide) rfl ?_
  refine zv_iload_n X d_Integer_bitCount_24 rfl 0 rfl ?_
  refine zv_iload_n X d_Integer_bitCount_25 rfl 0 rfl ?_
  refine zv_iconst X d_Integer_bitCount_26 ?_
  refine zv_iushr X d_Integer_bitCount_27 ?_
  refine zv_iadd X d_Integer_bitCount_28 ?_
  refine zv_ldcw X 252645135 kc_Integer_267 (by decide +kernel) d_Integer_bitCount_29 ?_
  refine zv_iand X d_Integer_bitCount_32 ?_
  refine zv_istore_n X (lv2 := [(0, zi (jand (x1 + (jushr x1 4)) 252645135))]) d_Integer_bitCount_33 rfl (by decide) rfl ?_
  refine zv_iload_n X d_Integer_bitCount_34 rfl 0 rfl ?_
  refine zv_iload_n X d_Integer_bitCount_35 rfl 0 rfl ?_
  refine zv_bipush X d_Integer_bitCount_36 (by decide +kernel) ?_
  refine zv_iushr X d_Integer_bitCount_38 ?_
  refine zv_iadd X d_Integer_bitCount_39 ?_
  refine zv_let (fun x2 => ?_)
  refine zv_istore_n X (lv2 := [(0, zi x2)]) d_Integer_bitCount_40 rfl (by decide) rfl ?_
  refine zv_iload_n X d_Integer_bitCount_41 rfl 0 rfl ?_
  refine zv_iload_n X d_Integer_bitCount_42 rfl 0 rfl ?_
  refine zv_bipush X d_Integer_bitCount_43 (by decide +kernel) ?_
  refine zv_iushr X d_Integer_bitCount_45 ?_
  refine zv_iadd X d_Integer_bitCount_46 ?_
  refine zv_istore_n X (lv2 := [(0, zi (x2 + (jushr x2 16)))]) d_Integer_bitCount_47 rfl (by decide) rfl ?_
  refine zv_iload_n X d_Integer_bitCount_48 rfl 0 rfl ?_
  refine zv_bipush X d_Integer_bitCount_49 (by decide +kernel) ?_
  refine zv_iand X d_Integer_bitCount_51 ?_
  exact zv_iretP X d_Integer_bitCount_52
set_option maxRecDepth 100000 in
theorem v_Books_boundSum_104 {Γ : Gt} {Z : Zt} (X : Cx Γ Z prog_2_method_4_code R_Books 7 none rm_Books_boundSum) (hN : 143 ≤ Z.2.2.2.1) (v1 : Int)   (D : Mm)  : Zv Γ Z 7 (QfM Γ Z 0) (f_Books_boundSum_104 v1 D) D 104 [(0, zr Z 6), (1, zi v1)] [] := by
  unfold f_Books_boundSum_104
  refine zv_aload_n X d_Books_boundSum_104 rfl 0 rfl ?_
  refine zv_dup X d_Books_boundSum_105 rfl ?_
  refine zv_get X (ci := 2) rfl i_Books (za_6 hN) 3 (by decide) lk_Books_60 rfl rfl d_Books_boundSum_106 ?_
  refine zv_iload_n X d_Books_boundSum_109 rfl 1 rfl ?_
  refine zv_ior X d_Books_boundSum_110 ?_
  refine zv_putC X (ci := 2) rfl i_Books t_Books t_Books_ok n_Books (za_6 hN) 3 rfl (by decide) lk_Books_60 rfl rfl (ps_2_3 ..) (Nat.le_of_ble_eq_true rfl) rfl rfl d_Books_boundSum_111 (fun D1 => ?_)
  exact zv_vretM X d_Books_boundSum_114
set_option maxRecDepth 100000 in
theorem v_Books_boundSum_53 {Γ : Gt} {Z : Zt} (X : Cx Γ Z prog_2_method_4_code R_Books 7 none rm_Books_boundSum) (hN : 143 ≤ Z.2.2.2.1) (v1 v5 v6 : Int)   (D : Mm)  : Zv Γ Z 7 (QfM Γ Z 0) (f_Books_boundSum_53 v1 v5 v6 D) D 53 [(0, zr Z 6), (1, zi v1), (5, zi v5), (6, zi v6)] [] := by
  unfold f_Books_boundSum_53
  refine zv_aload_n X d_Books_boundSum_53 rfl 0 rfl ?_
  refine zv_get X (ci := 2) rfl i_Books (za_6 hN) 0 (by decide) lk_Books_11 rfl rfl d_Books_boundSum_54 ?_
  refine zv_iload_n X d_Books_boundSum_57 rfl 1 rfl ?_
  refine zv_aload_n X d_Books_boundSum_58 rfl 0 rfl ?_
  refine zv_get X (ci := 2) rfl i_Books (za_6 hN) 0 (by decide) lk_Books_11 rfl rfl d_Books_boundSum_59 ?_
  refine zv_iload_n X d_Books_boundSum_62 rfl 1 rfl ?_
  refine zv_iald X (za_7 hN) d_Books_boundSum_63 (fun ha63 hb63 => ?_)
  refine zv_iload X d_Books_boundSum_64 2 rfl ?_
  refine zv_cSP1 X (av := [zi (D 7 v1), zi v5]) (st := [zi v1, zr Z 7]) (c_Math_max Γ.2.1 X.2.2.2.2.2.2.2.1 (D 7 v1) v5 D) mk_Books_91 ⟨rfl, rfl, Nat.le_of_ble_eq_true rfl, Nat.le_of_ble_eq_true rfl⟩ rfl (Nat.le_of_ble_eq_true rfl) d_Books_boundSum_66 (fun r1 hr1 => ?_)
  refine zv_iastC X (za_7 hN) d_Books_boundSum_69 (fun ha69 hb69 D2 => ?_)
  refine zv_aload_n X d_Books_boundSum_70 rfl 0 rfl ?_
  refine zv_get X (ci := 2) rfl i_Books (za_6 hN) 1 (by decide) lk_Books_15 rfl rfl d_Books_boundSum_71 ?_
  refine zv_iload_n X d_Books_boundSum_74 rfl 1 rfl ?_
  refine zv_aload_n X d_Books_boundSum_75 rfl 0 rfl ?_
  refine zv_get X (ci := 2) rfl i_Books (za_6 hN) 1 (by decide) lk_Books_15 rfl rfl d_Books_boundSum_76 ?_
  refine zv_iload_n X d_Books_boundSum_79 rfl 1 rfl ?_
  refine zv_iald X (za_8 hN) d_Books_boundSum_80 (fun ha80 hb80 => ?_)
  refine zv_iload X d_Books_boundSum_81 3 rfl ?_
  refine zv_cSP1 X (av := [zi (D2 8 v1), zi v6]) (st := [zi v1, zr Z 8]) (c_Math_min Γ.2.1 X.2.2.2.2.2.2.2.1 (D2 8 v1) v6 D2) mk_Books_97 ⟨rfl, rfl, Nat.le_of_ble_eq_true rfl, Nat.le_of_ble_eq_true rfl⟩ rfl (Nat.le_of_ble_eq_true rfl) d_Books_boundSum_83 (fun r3 hr3 => ?_)
  refine zv_iastC X (za_8 hN) d_Books_boundSum_86 (fun ha86 hb86 D4 => ?_)
  refine zv_iload X d_Books_boundSum_87 2 rfl ?_
  refine zv_if_gt X (y := 0) (tgt := 104) d_Books_boundSum_89 (by decide) (fun h89 => ?_) (fun h89 => ?_)
  · refine zv_sub X [0, 1] rfl ?_
    exact v_Books_boundSum_104 X hN v1 D4
  · refine zv_iload X d_Books_boundSum_92 3 rfl ?_
    refine zv_bipush X d_Books_boundSum_94 (by decide +kernel) ?_
    refine zv_iload_n X d_Books_boundSum_96 rfl 1 rfl ?_
    refine zv_cSP1 X (av := [zi v1]) (st := [zi 9, zi v6]) (c_Integer_bitCount Γ.2.1 X.2.2.2.2.2.2.2.1 v1 D4) mk_Books_100 ⟨rfl, rfl, Nat.le_of_ble_eq_true rfl, Nat.le_of_ble_eq_true rfl⟩ rfl (Nat.le_of_ble_eq_true rfl) d_Books_boundSum_97 (fun r5 hr5 => ?_)
    refine zv_imul X d_Books_boundSum_100 ?_
    refine zv_icmp_ge X (tgt := 114) d_Books_boundSum_101 (by decide) (fun h101 => ?_) (fun h101 => ?_)
    · exact zv_vretM X d_Books_boundSum_114
    · refine zv_sub X [0, 1] rfl ?_
      exact v_Books_boundSum_104 X hN v1 D4
set_option maxRecDepth 100000 in
theorem v_Books_boundSum_31 {Γ : Gt} {Z : Zt} (X : Cx Γ Z prog_2_method_4_code R_Books 7 none rm_Books_boundSum) (hN : 143 ≤ Z.2.2.2.1) (v1 v2 v3 v4 v5 : Int)   (D : Mm)  : ∀ (n : Nat) (v6 : Int) , Zv Γ Z 7 (QfM Γ Z 0) (f_Books_boundSum_31 v1 v2 v3 v4 v5 D n v6) D 31 [(0, zr Z 6), (1, zi v1), (2, zi v2), (3, zi v3), (4, zi v4), (5, zi v5), (6, zi v6)] [] := by
  intro n
  induction n with
  | zero =>
    intro v6
    exact zv_none
  | succ n ih =>
    intro v6
    rw [f_Books_boundSum_31]
    refine zv_iload X d_Books_boundSum_31 6 rfl ?_
    refine zv_if_lt X (y := 0) (tgt := 53) d_Books_boundSum_33 (by decide) (fun h33 => ?_) (fun h33 => ?_)
    · refine zv_sub X [0, 1, 5, 6] rfl ?_
      exact v_Books_boundSum_53 X hN v1 v5 v6 D
    · refine zv_iload X d_Books_boundSum_36 6 rfl ?_
      refine zv_iload_n X d_Books_boundSum_38 rfl 2 rfl ?_
      refine zv_imul X d_Books_boundSum_39 ?_
      refine zv_iload_n X d_Books_boundSum_40 rfl 3 rfl ?_
      refine zv_iload X d_Books_boundSum_41 4 rfl ?_
      refine zv_iadd X d_Books_boundSum_43 ?_
      refine zv_icmp_le X (tgt := 53) d_Books_boundSum_44 (by decide) (fun h44 => ?_) (fun h44 => ?_)
      · refine zv_sub X [0, 1, 5, 6] rfl ?_
        exact v_Books_boundSum_53 X hN v1 v5 v6 D
      · refine zv_iinc X (lv2 := [(6, zi (v6 + (-1))), (0, zr Z 6), (1, zi v1), (2, zi v2), (3, zi v3), (4, zi v4), (5, zi v5)]) d_Books_boundSum_47 6 rfl (by decide) rfl ?_
        refine zv_goto X (tgt := 31) d_Books_boundSum_50 (by decide) ?_
        refine zv_sub X [1, 2, 3, 4, 5, 6, 0] rfl ?_
        exact ih (v6 + (-1))
set_option maxRecDepth 100000 in
theorem v_Books_boundSum_27 {Γ : Gt} {Z : Zt} (X : Cx Γ Z prog_2_method_4_code R_Books 7 none rm_Books_boundSum) (hN : 143 ≤ Z.2.2.2.1) (v1 v2 v3 v4 v5 : Int)   (D : Mm)  : Zv Γ Z 7 (QfM Γ Z 0) (f_Books_boundSum_27 v1 v2 v3 v4 v5 D) D 27 [(0, zr Z 6), (1, zi v1), (2, zi v2), (3, zi v3), (4, zi v4), (5, zi v5)] [] := by
  unfold f_Books_boundSum_27
  refine zv_bipush X d_Books_boundSum_27 (by decide +kernel) ?_
  refine zv_istore X (lv2 := [(6, zi 36), (0, zr Z 6), (1, zi v1), (2, zi v2), (3, zi v3), (4, zi v4), (5, zi v5)]) d_Books_boundSum_29 (by decide) rfl ?_
  refine zv_sub X [1, 2, 3, 4, 5, 6, 0] rfl ?_
  exact v_Books_boundSum_31 X hN v1 v2 v3 v4 v5 D zF 36
set_option maxRecDepth 100000 in
theorem v_Books_boundSum_3 {Γ : Gt} {Z : Zt} (X : Cx Γ Z prog_2_method_4_code R_Books 7 none rm_Books_boundSum) (hN : 143 ≤ Z.2.2.2.1) (v1 v2 v3 v4 : Int)   (D : Mm)  : ∀ (n : Nat) (v5 : Int) , Zv Γ Z 7 (QfM Γ Z 0) (f_Books_boundSum_3 v1 v2 v3 v4 D n v5) D 3 [(0, zr Z 6), (1, zi v1), (2, zi v2), (3, zi v3), (4, zi v4), (5, zi v5)] [] := by
  intro n
  induction n with
  | zero =>
    intro v5
    exact zv_none
  | succ n ih =>
    intro v5
    rw [f_Books_boundSum_3]
    refine zv_iload X d_Books_boundSum_3 5 rfl ?_
    refine zv_bipush X d_Books_boundSum_5 (by decide +kernel) ?_
    refine zv_icmp_gt X (tgt := 27) d_Books_boundSum_7 (by decide) (fun h7 => ?_) (fun h7 => ?_)
    · exact v_Books_boundSum_27 X hN v1 v2 v3 v4 v5 D
    · refine zv_iload X d_Books_boundSum_10 5 rfl ?_
      refine zv_iload_n X d_Books_boundSum_12 rfl 2 rfl ?_
      refine zv_imul X d_Books_boundSum_13 ?_
      refine zv_iload_n X d_Books_boundSum_14 rfl 3 rfl ?_
      refine zv_iload X d_Books_boundSum_15 4 rfl ?_
      refine zv_isub X d_Books_boundSum_17 ?_
      refine zv_icmp_ge X (tgt := 27) d_Books_boundSum_18 (by decide) (fun h18 => ?_) (fun h18 => ?_)
      · exact v_Books_boundSum_27 X hN v1 v2 v3 v4 v5 D
      · refine zv_iinc X (lv2 := [(5, zi (v5 + 1)), (0, zr Z 6), (1, zi v1), (2, zi v2), (3, zi v3), (4, zi v4)]) d_Books_boundSum_21 5 rfl (by decide) rfl ?_
        refine zv_goto X (tgt := 3) d_Books_boundSum_24 (by decide) ?_
        refine zv_sub X [1, 2, 3, 4, 5, 0] rfl ?_
        exact ih (v5 + 1)
set_option maxRecDepth 100000 in
theorem c_Books_boundSum (l : Launch) {Z : Zt} (hZ : Zok Z) (hN : 143 ≤ Z.2.2.2.1) (v1 v2 v3 v4 : Int)  (D : Mm) : CtM l Z y_Books_boundSum prog_2_method_4_code 7 none rm_Books_boundSum 0 [zr Z 6, zi v1, zi v2, zi v3, zi v4] D (f_Books_boundSum v1 v2 v3 v4 D) := by
  refine zm_M (lv := [(0, zr Z 6), (1, zi v1), (2, zi v2), (3, zi v3), (4, zi v4)]) hZ (by decide +kernel) rfl (Nat.le_of_ble_eq_true rfl) rfl (fun Γ hl X => ?_)
  subst hl
  unfold f_Books_boundSum
  refine zv_iconst X d_Books_boundSum_0 ?_
  refine zv_istore X (lv2 := [(5, zi 0), (0, zr Z 6), (1, zi v1), (2, zi v2), (3, zi v3), (4, zi v4)]) d_Books_boundSum_1 (by decide) rfl ?_
  refine zv_sub X [1, 2, 3, 4, 5, 0] rfl ?_
  exact v_Books_boundSum_3 X hN v1 v2 v3 v4 D zF 0
set_option maxRecDepth 100000 in
theorem v_Books_boundSums_83 {Γ : Gt} {Z : Zt} (X : Cx Γ Z prog_2_method_3_code R_Books 6 none rm_Books_boundSums) (hN : 143 ≤ Z.2.2.2.1) (v1 v2 v3 v4 v5 : Int) (hv1 : isQ v1) (hv2 : isF v2) (K13 : Int → Mm → Option (Int × Mm)) (D : Mm) (hK13 : ∀ (v5 : Int) (D : Mm), Zv Γ Z 6 (QfM Γ Z 0) (K13 v5 D) D 25 [(0, zr Z 6), (1, zr Z v1), (2, zr Z v2), (3, zi v3), (4, zi v4), (5, zi v5)] []) : Zv Γ Z 6 (QfM Γ Z 0) (f_Books_boundSums_83 v1 v2 v3 v4 v5 K13 D) D 83 [(0, zr Z 6), (1, zr Z v1), (2, zr Z v2), (3, zi v3), (4, zi v4), (5, zi v5)] [] := by
  unfold f_Books_boundSums_83
  refine zv_iinc X (lv2 := [(5, zi (v5 + 1)), (0, zr Z 6), (1, zr Z v1), (2, zr Z v2), (3, zi v3), (4, zi v4)]) d_Books_boundSums_83 5 rfl (by decide) rfl ?_
  refine zv_goto X (tgt := 25) d_Books_boundSums_86 (by decide) ?_
  refine zv_sub X [1, 2, 3, 4, 5, 0] rfl ?_
  exact hK13 (v5 + 1) D
set_option maxRecDepth 100000 in
theorem v_Books_boundSums_25 {Γ : Gt} {Z : Zt} (X : Cx Γ Z prog_2_method_3_code R_Books 6 none rm_Books_boundSums) (hN : 143 ≤ Z.2.2.2.1) (v1 v2 v3 v4 : Int) (hv1 : isQ v1) (hv2 : isF v2)   : ∀ (n : Nat) (v5 : Int) (D : Mm), Zv Γ Z 6 (QfM Γ Z 0) (f_Books_boundSums_25 v1 v2 v3 v4 n v5 D) D 25 [(0, zr Z 6), (1, zr Z v1), (2, zr Z v2), (3, zi v3), (4, zi v4), (5, zi v5)] [] := by
  intro n
  induction n with
  | zero =>
    intro v5 D
    exact zv_none
  | succ n ih =>
    intro v5 D
    rw [f_Books_boundSums_25]
    refine zv_iload X d_Books_boundSums_25 5 rfl ?_
    refine zv_aload_n X d_Books_boundSums_27 rfl 1 rfl ?_
    refine zv_get X (ci := 5) rfl i_Quern (zq_0 hN hv1) 1 (by decide) lk_Books_63 rfl rfl d_Books_boundSums_28 ?_
    refine zv_icmp_ge X (tgt := 89) d_Books_boundSums_31 (by decide) (fun h31 => ?_) (fun h31 => ?_)
    · exact zv_vretM X d_Books_boundSums_89
    · refine zv_aload_n X d_Books_boundSums_34 rfl 1 rfl ?_
      refine zv_get X (ci := 5) rfl i_Quern (zq_0 hN hv1) 4 (by decide) lk_Books_68 rfl rfl d_Books_boundSums_35 ?_
      refine zv_iload X d_Books_boundSums_38 5 rfl ?_
      refine zv_iald X (zq_9 hN hv1) d_Books_boundSums_40 (fun ha40 hb40 => ?_)
      refine zv_iconst X d_Books_boundSums_41 ?_
      refine zv_icmp_ne X (tgt := 83) d_Books_boundSums_42 (by decide) (fun h42 => ?_) (fun h42 => ?_)
      · exact v_Books_boundSums_83 X hN v1 v2 v3 v4 v5 hv1 hv2 (f_Books_boundSums_25 v1 v2 v3 v4 n) D ih
      · refine zv_aload_n X d_Books_boundSums_45 rfl 2 rfl ?_
        refine zv_iload X d_Books_boundSums_46 5 rfl ?_
        refine zv_cVP1 X (av := [zi v5]) (st := []) (ci := 4) (c_Finds_isRead Γ.2.1 X.2.2.2.2.2.2.2.1 hN v2 v5 hv2 D) mk_Books_71 rfl (zf_0 hN hv2) ⟨rfl, rfl, Nat.le_of_ble_eq_true rfl, Nat.le_of_ble_eq_true rfl⟩ rfl (Nat.le_of_ble_eq_true rfl) d_Books_boundSums_48 (fun r1 hr1 => ?_)
        refine zv_if_eq X (y := 0) (tgt := 83) d_Books_boundSums_51 (by decide) (fun h51 => ?_) (fun h51 => ?_)
        · exact v_Books_boundSums_83 X hN v1 v2 v3 v4 v5 hv1 hv2 (f_Books_boundSums_25 v1 v2 v3 v4 n) D ih
        · refine zv_aload_n X d_Books_boundSums_54 rfl 0 rfl ?_
          refine zv_aload_n X d_Books_boundSums_55 rfl 1 rfl ?_
          refine zv_get X (ci := 5) rfl i_Quern (zq_0 hN hv1) 6 (by decide) lk_Books_77 rfl rfl d_Books_boundSums_56 ?_
          refine zv_iload X d_Books_boundSums_59 5 rfl ?_
          refine zv_iald X (zq_11 hN hv1) d_Books_boundSums_61 (fun ha61 hb61 => ?_)
          refine zv_aload_n X d_Books_boundSums_62 rfl 1 rfl ?_
          refine zv_get X (ci := 5) rfl i_Quern (zq_0 hN hv1) 5 (by decide) lk_Books_80 rfl rfl d_Books_boundSums_63 ?_
          refine zv_iload X d_Books_boundSums_66 5 rfl ?_
          refine zv_iald X (zq_10 hN hv1) d_Books_boundSums_68 (fun ha68 hb68 => ?_)
          refine zv_aload_n X d_Books_boundSums_69 rfl 2 rfl ?_
          refine zv_get X (ci := 4) rfl i_Finds (zf_0 hN hv2) 0 (by decide) lk_Books_83 rfl rfl d_Books_boundSums_70 ?_
          refine zv_iload X d_Books_boundSums_73 5 rfl ?_
          refine zv_aald X (v2 + 2 + v5) (zf_1 hN hv2) d_Books_boundSums_75 (by omega) (fun ha75 hb75 => ?_)
          refine zv_iload_n X d_Books_boundSums_76 rfl 3 rfl ?_
          refine zv_iald X (zf_1r hN hv2 ha75 hb75) d_Books_boundSums_77 (fun ha77 hb77 => ?_)
          refine zv_iload X d_Books_boundSums_78 4 rfl ?_
          refine zv_cVM0 X (av := [zi (D (v1 + 11) v5), zi (D (v1 + 10) v5), zi (D (v2 + 2 + v5) v3), zi v4]) (st := []) (ci := 2) (c_Books_boundSum Γ.2.1 X.2.2.2.2.2.2.2.1 hN (D (v1 + 11) v5) (D (v1 + 10) v5) (D (v2 + 2 + v5) v3) v4 D) mk_Books_87 rfl (za_6 hN) ⟨rfl, rfl, Nat.le_of_ble_eq_true rfl, Nat.le_of_ble_eq_true rfl⟩ rfl (Nat.le_of_ble_eq_true rfl) d_Books_boundSums_80 (fun _ D3 hr2 => ?_)
          exact v_Books_boundSums_83 X hN v1 v2 v3 v4 v5 hv1 hv2 (f_Books_boundSums_25 v1 v2 v3 v4 n) D3 ih
set_option maxRecDepth 100000 in
theorem c_Books_boundSums (l : Launch) {Z : Zt} (hZ : Zok Z) (hN : 143 ≤ Z.2.2.2.1) (v1 v2 v3 v4 : Int) (hv1 : isQ v1) (hv2 : isF v2) (D : Mm) : CtM l Z y_Books_boundSums prog_2_method_3_code 6 none rm_Books_boundSums 0 [zr Z 6, zr Z v1, zr Z v2, zi v3, zi v4] D (f_Books_boundSums v1 v2 v3 v4 D) := by
  refine zm_M (lv := [(0, zr Z 6), (1, zr Z v1), (2, zr Z v2), (3, zi v3), (4, zi v4)]) hZ (by decide +kernel) rfl (Nat.le_of_ble_eq_true rfl) rfl (fun Γ hl X => ?_)
  subst hl
  unfold f_Books_boundSums
  refine zv_aload_n X d_Books_boundSums_0 rfl 0 rfl ?_
  refine zv_get X (ci := 2) rfl i_Books (za_6 hN) 0 (by decide) lk_Books_11 rfl rfl d_Books_boundSums_1 ?_
  refine zv_iconst X d_Books_boundSums_4 ?_
  refine zv_cSM0 X (av := [zr Z 7, zi 0]) (st := []) (c_Arrays_fill Γ.2.1 X.2.2.2.2.2.2.2.1 7 16 0 (za_7 hN) (by decide) D) mk_Books_54 ⟨rfl, rfl, Nat.le_of_ble_eq_true rfl, Nat.le_of_ble_eq_true rfl⟩ rfl (Nat.le_of_ble_eq_true rfl) d_Books_boundSums_5 (fun _ D2 hr1 => ?_)
  refine zv_aload_n X d_Books_boundSums_8 rfl 0 rfl ?_
  refine zv_get X (ci := 2) rfl i_Books (za_6 hN) 1 (by decide) lk_Books_15 rfl rfl d_Books_boundSums_9 ?_
  refine zv_bipush X d_Books_boundSums_12 (by decide +kernel) ?_
  refine zv_cSM0 X (av := [zr Z 8, zi 36]) (st := []) (c_Arrays_fill Γ.2.1 X.2.2.2.2.2.2.2.1 8 16 36 (za_8 hN) (by decide) D2) mk_Books_54 ⟨rfl, rfl, Nat.le_of_ble_eq_true rfl, Nat.le_of_ble_eq_true rfl⟩ rfl (Nat.le_of_ble_eq_true rfl) d_Books_boundSums_14 (fun _ D4 hr3 => ?_)
  refine zv_aload_n X d_Books_boundSums_17 rfl 0 rfl ?_
  refine zv_iconst X d_Books_boundSums_18 ?_
  refine zv_putC X (ci := 2) rfl i_Books t_Books t_Books_ok n_Books (za_6 hN) 3 rfl (by decide) lk_Books_60 rfl rfl (ps_2_3 ..) (Nat.le_of_ble_eq_true rfl) rfl rfl d_Books_boundSums_19 (fun D5 => ?_)
  refine zv_iconst X d_Books_boundSums_22 ?_
  refine zv_istore X (lv2 := [(5, zi 0), (0, zr Z 6), (1, zr Z v1), (2, zr Z v2), (3, zi v3), (4, zi v4)]) d_Books_boundSums_23 (by decide) rfl ?_
  refine zv_sub X [1, 2, 3, 4, 5, 0] rfl ?_
  exact v_Books_boundSums_25 X hN v1 v2 v3 v4 hv1 hv2 zF 0 D5
set_option maxRecDepth 100000 in
theorem c_Books_isFree (l : Launch) {Z : Zt} (hZ : Zok Z) (hN : 143 ≤ Z.2.2.2.1) (v1 : Int)  (D : Mm) : CtP l Z y_Books_isFree prog_2_method_5_code 2 (some .boolean) rm_Books_isFree 1 [zr Z 6, zi v1] D (f_Books_isFree v1 D) := by
  refine zm_P (lv := [(0, zr Z 6), (1, zi v1)]) hZ (by decide +kernel) rfl (Nat.le_of_ble_eq_true rfl) rfl (fun Γ hl X => ?_)
  subst hl
  unfold f_Books_isFree
  refine zv_aload_n X d_Books_isFree_0 rfl 0 rfl ?_
  refine zv_get X (ci := 2) rfl i_Books (za_6 hN) 3 (by decide) lk_Books_60 rfl rfl d_Books_isFree_1 ?_
  refine zv_iload_n X d_Books_isFree_4 rfl 1 rfl ?_
  refine zv_ishr X d_Books_isFree_5 ?_
  refine zv_iconst X d_Books_isFree_6 ?_
  refine zv_iand X d_Books_isFree_7 ?_
  refine zv_if_ne X (y := 0) (tgt := 15) d_Books_isFree_8 (by decide) (fun h8 => ?_) (fun h8 => ?_)
  · refine zv_iconst X d_Books_isFree_15 ?_
    exact zv_zretPK X (Or.inl rfl) d_Books_isFree_16
  · refine zv_iconst X d_Books_isFree_11 ?_
    refine zv_goto X (tgt := 16) d_Books_isFree_12 (by decide) ?_
    exact zv_zretPK X (Or.inr rfl) d_Books_isFree_16
set_option maxRecDepth 100000 in
theorem v_Books_greatestOf_20 {Γ : Gt} {Z : Zt} (X : Cx Γ Z prog_2_method_7_code R_Books 5 (some .int) rm_Books_greatestOf) (hN : 143 ≤ Z.2.2.2.1) (v2 : Int)   (D : Mm)  : ∀ (n : Nat) (v3 v4 : Int) , Zv Γ Z 5 (QfP Γ Z 1 D) (f_Books_greatestOf_20 v2 D n v3 v4) D 20 [(0, zr Z 6), (2, zi v2), (3, zi v3), (4, zi v4)] [] := by
  intro n
  induction n with
  | zero =>
    intro v3 v4
    exact zv_none
  | succ n ih =>
    intro v3 v4
    rw [f_Books_greatestOf_20]
    refine zv_iload X d_Books_greatestOf_20 3 rfl ?_
    refine zv_iload_n X d_Books_greatestOf_22 rfl 1 rfl ?_
    refine zv_icmp_ge X (tgt := 54) d_Books_greatestOf_23 (by decide) (fun h23 => ?_) (fun h23 => ?_)
    · refine zv_iload_n X d_Books_greatestOf_54 rfl 2 rfl ?_
      exact zv_iretP X d_Books_greatestOf_55
    · refine zv_iload_n X d_Books_greatestOf_26 rfl 2 rfl ?_
      refine zv_aload_n X d_Books_greatestOf_27 rfl 0 rfl ?_
      refine zv_get X (ci := 2) rfl i_Books (za_6 hN) 1 (by decide) lk_Books_15 rfl rfl d_Books_greatestOf_28 ?_
      refine zv_iload X d_Books_greatestOf_31 3 rfl ?_
      refine zv_iload_n X d_Books_greatestOf_33 rfl 1 rfl ?_
      refine zv_ior X d_Books_greatestOf_34 ?_
      refine zv_iald X (za_8 hN) d_Books_greatestOf_35 (fun ha35 hb35 => ?_)
      refine zv_aload_n X d_Books_greatestOf_36 rfl 0 rfl ?_
      refine zv_get X (ci := 2) rfl i_Books (za_6 hN) 2 (by decide) lk_Books_18 rfl rfl d_Books_greatestOf_37 ?_
      refine zv_iload X d_Books_greatestOf_40 3 rfl ?_
      refine zv_iald X (za_9 hN) d_Books_greatestOf_42 (fun ha42 hb42 => ?_)
      refine zv_isub X d_Books_greatestOf_43 ?_
      refine zv_cSP1 X (av := [zi v3, zi ((D 8 (jor v4 v2)) - (D 9 v4))]) (st := []) (c_Math_min Γ.2.1 X.2.2.2.2.2.2.2.1 v3 ((D 8 (jor v4 v2)) - (D 9 v4)) D) mk_Books_97 ⟨rfl, rfl, Nat.le_of_ble_eq_true rfl, Nat.le_of_ble_eq_true rfl⟩ rfl (Nat.le_of_ble_eq_true rfl) d_Books_greatestOf_44 (fun r1 hr1 => ?_)
      refine zv_istore_n X (lv2 := [(3, zi r1), (0, zr Z 6), (2, zi v2), (4, zi v4)]) d_Books_greatestOf_47 rfl (by decide) rfl ?_
      refine zv_iinc X (lv2 := [(4, zi (v4 + 1)), (3, zi r1), (0, zr Z 6), (2, zi v2)]) d_Books_greatestOf_48 3 rfl (by decide) rfl ?_
      refine zv_goto X (tgt := 20) d_Books_greatestOf_51 (by decide) ?_
      refine zv_sub X [2, 3, 1, 0] rfl ?_
      exact ih r1 (v4 + 1)
set_option maxRecDepth 100000 in
theorem c_Books_greatestOf (l : Launch) {Z : Zt} (hZ : Zok Z) (hN : 143 ≤ Z.2.2.2.1) (v1 : Int)  (D : Mm) : CtP l Z y_Books_greatestOf prog_2_method_7_code 5 (some .int) rm_Books_greatestOf 1 [zr Z 6, zi v1] D (f_Books_greatestOf v1 D) := by
  refine zm_P (lv := [(0, zr Z 6), (1, zi v1)]) hZ (by decide +kernel) rfl (Nat.le_of_ble_eq_true rfl) rfl (fun Γ hl X => ?_)
  subst hl
  unfold f_Books_greatestOf
  refine zv_aload_n X d_Books_greatestOf_0 rfl 0 rfl ?_
  refine zv_iload_n X d_Books_greatestOf_1 rfl 1 rfl ?_
  refine zv_cVP1 X (av := [zi v1]) (st := []) (ci := 2) (c_Books_isFree Γ.2.1 X.2.2.2.2.2.2.2.1 hN v1 D) mk_Books_105 rfl (za_6 hN) ⟨rfl, rfl, Nat.le_of_ble_eq_true rfl, Nat.le_of_ble_eq_true rfl⟩ rfl (Nat.le_of_ble_eq_true rfl) d_Books_greatestOf_2 (fun r1 hr1 => ?_)
  refine zv_if_eq X (y := 0) (tgt := 10) d_Books_greatestOf_5 (by decide) (fun h5 => ?_) (fun h5 => ?_)
  · refine zv_iconst X d_Books_greatestOf_10 ?_
    refine zv_iload_n X d_Books_greatestOf_11 rfl 1 rfl ?_
    refine zv_ishl X d_Books_greatestOf_12 ?_
    refine zv_istore_n X (lv2 := [(2, zi (jshl 1 v1)), (0, zr Z 6), (1, zi v1)]) d_Books_greatestOf_13 rfl (by decide) rfl ?_
    refine zv_bipush X d_Books_greatestOf_14 (by decide +kernel) ?_
    refine zv_istore_n X (lv2 := [(3, zi 9), (2, zi (jshl 1 v1)), (0, zr Z 6), (1, zi v1)]) d_Books_greatestOf_16 rfl (by decide) rfl ?_
    refine zv_iconst X d_Books_greatestOf_17 ?_
    refine zv_istore X (lv2 := [(4, zi 0), (3, zi 9), (2, zi (jshl 1 v1)), (0, zr Z 6), (1, zi v1)]) d_Books_greatestOf_18 (by decide) rfl ?_
    refine zv_sub X [3, 2, 1, 0] rfl ?_
    exact v_Books_greatestOf_20 X hN (jshl 1 v1) D zF 9 0
  · refine zv_iconst X d_Books_greatestOf_8 ?_
    exact zv_iretP X d_Books_greatestOf_9
set_option maxRecDepth 100000 in
theorem v_Books_leastOf_9 {Γ : Gt} {Z : Zt} (X : Cx Γ Z prog_2_method_6_code R_Books 5 (some .int) rm_Books_leastOf) (hN : 143 ≤ Z.2.2.2.1) (v2 : Int)   (D : Mm)  : ∀ (n : Nat) (v3 v4 : Int) , Zv Γ Z 5 (QfP Γ Z 1 D) (f_Books_leastOf_9 v2 D n v3 v4) D 9 [(0, zr Z 6), (2, zi v2), (3, zi v3), (4, zi v4)] [] := by
  intro n
  induction n with
  | zero =>
    intro v3 v4
    exact zv_none
  | succ n ih =>
    intro v3 v4
    rw [f_Books_leastOf_9]
    refine zv_iload X d_Books_leastOf_9 3 rfl ?_
    refine zv_iload_n X d_Books_leastOf_11 rfl 1 rfl ?_
    refine zv_icmp_ge X (tgt := 43) d_Books_leastOf_12 (by decide) (fun h12 => ?_) (fun h12 => ?_)
    · refine zv_iload_n X d_Books_leastOf_43 rfl 2 rfl ?_
      exact zv_iretP X d_Books_leastOf_44
    · refine zv_iload_n X d_Books_leastOf_15 rfl 2 rfl ?_
      refine zv_aload_n X d_Books_leastOf_16 rfl 0 rfl ?_
      refine zv_get X (ci := 2) rfl i_Books (za_6 hN) 0 (by decide) lk_Books_11 rfl rfl d_Books_leastOf_17 ?_
      refine zv_iload X d_Books_leastOf_20 3 rfl ?_
      refine zv_iload_n X d_Books_leastOf_22 rfl 1 rfl ?_
      refine zv_ior X d_Books_leastOf_23 ?_
      refine zv_iald X (za_7 hN) d_Books_leastOf_24 (fun ha24 hb24 => ?_)
      refine zv_aload_n X d_Books_leastOf_25 rfl 0 rfl ?_
      refine zv_get X (ci := 2) rfl i_Books (za_6 hN) 2 (by decide) lk_Books_18 rfl rfl d_Books_leastOf_26 ?_
      refine zv_iload X d_Books_leastOf_29 3 rfl ?_
      refine zv_iald X (za_9 hN) d_Books_leastOf_31 (fun ha31 hb31 => ?_)
      refine zv_isub X d_Books_leastOf_32 ?_
      refine zv_cSP1 X (av := [zi v3, zi ((D 7 (jor v4 v2)) - (D 9 v4))]) (st := []) (c_Math_max Γ.2.1 X.2.2.2.2.2.2.2.1 v3 ((D 7 (jor v4 v2)) - (D 9 v4)) D) mk_Books_91 ⟨rfl, rfl, Nat.le_of_ble_eq_true rfl, Nat.le_of_ble_eq_true rfl⟩ rfl (Nat.le_of_ble_eq_true rfl) d_Books_leastOf_33 (fun r1 hr1 => ?_)
      refine zv_istore_n X (lv2 := [(3, zi r1), (0, zr Z 6), (2, zi v2), (4, zi v4)]) d_Books_leastOf_36 rfl (by decide) rfl ?_
      refine zv_iinc X (lv2 := [(4, zi (v4 + 1)), (3, zi r1), (0, zr Z 6), (2, zi v2)]) d_Books_leastOf_37 3 rfl (by decide) rfl ?_
      refine zv_goto X (tgt := 9) d_Books_leastOf_40 (by decide) ?_
      refine zv_sub X [2, 3, 1, 0] rfl ?_
      exact ih r1 (v4 + 1)
set_option maxRecDepth 100000 in
theorem c_Books_leastOf (l : Launch) {Z : Zt} (hZ : Zok Z) (hN : 143 ≤ Z.2.2.2.1) (v1 : Int)  (D : Mm) : CtP l Z y_Books_leastOf prog_2_method_6_code 5 (some .int) rm_Books_leastOf 1 [zr Z 6, zi v1] D (f_Books_leastOf v1 D) := by
  refine zm_P (lv := [(0, zr Z 6), (1, zi v1)]) hZ (by decide +kernel) rfl (Nat.le_of_ble_eq_true rfl) rfl (fun Γ hl X => ?_)
  subst hl
  unfold f_Books_leastOf
  refine zv_iconst X d_Books_leastOf_0 ?_
  refine zv_iload_n X d_Books_leastOf_1 rfl 1 rfl ?_
  refine zv_ishl X d_Books_leastOf_2 ?_
  refine zv_istore_n X (lv2 := [(2, zi (jshl 1 v1)), (0, zr Z 6), (1, zi v1)]) d_Books_leastOf_3 rfl (by decide) rfl ?_
  refine zv_iconst X d_Books_leastOf_4 ?_
  refine zv_istore_n X (lv2 := [(3, zi 0), (2, zi (jshl 1 v1)), (0, zr Z 6), (1, zi v1)]) d_Books_leastOf_5 rfl (by decide) rfl ?_
  refine zv_iconst X d_Books_leastOf_6 ?_
  refine zv_istore X (lv2 := [(4, zi 0), (3, zi 0), (2, zi (jshl 1 v1)), (0, zr Z 6), (1, zi v1)]) d_Books_leastOf_7 (by decide) rfl ?_
  refine zv_sub X [3, 2, 1, 0] rfl ?_
  exact v_Books_leastOf_9 X hN (jshl 1 v1) D zF 0 0
set_option maxRecDepth 100000 in
theorem v_Books_addStep_7 {Γ : Gt} {Z : Zt} (X : Cx Γ Z prog_2_method_8_code R_Books 5 none rm_Books_addStep) (hN : 143 ≤ Z.2.2.2.1) (v2 v3 : Int)    : ∀ (n : Nat) (v4 : Int) (D : Mm), Zv Γ Z 5 (QfM Γ Z 0) (f_Books_addStep_7 v2 v3 n v4 D) D 7 [(0, zr Z 6), (2, zi v2), (3, zi v3), (4, zi v4)] [] := by
  intro n
  induction n with
  | zero =>
    intro v4 D
    exact zv_none
  | succ n ih =>
    intro v4 D
    rw [f_Books_addStep_7]
    refine zv_iload X d_Books_addStep_7 3 rfl ?_
    refine zv_iload_n X d_Books_addStep_9 rfl 2 rfl ?_
    refine zv_icmp_ge X (tgt := 37) d_Books_addStep_10 (by decide) (fun h10 => ?_) (fun h10 => ?_)
    · exact zv_vretM X d_Books_addStep_37
    · refine zv_aload_n X d_Books_addStep_13 rfl 0 rfl ?_
      refine zv_get X (ci := 2) rfl i_Books (za_6 hN) 2 (by decide) lk_Books_18 rfl rfl d_Books_addStep_14 ?_
      refine zv_iload X d_Books_addStep_17 3 rfl ?_
      refine zv_iload_n X d_Books_addStep_19 rfl 2 rfl ?_
      refine zv_ior X d_Books_addStep_20 ?_
      refine zv_aload_n X d_Books_addStep_21 rfl 0 rfl ?_
      refine zv_get X (ci := 2) rfl i_Books (za_6 hN) 2 (by decide) lk_Books_18 rfl rfl d_Books_addStep_22 ?_
      refine zv_iload X d_Books_addStep_25 3 rfl ?_
      refine zv_iald X (za_9 hN) d_Books_addStep_27 (fun ha27 hb27 => ?_)
      refine zv_iload_n X d_Books_addStep_28 rfl 1 rfl ?_
      refine zv_iadd X d_Books_addStep_29 ?_
      refine zv_iastC X (za_9 hN) d_Books_addStep_30 (fun ha30 hb30 D1 => ?_)
      refine zv_iinc X (lv2 := [(4, zi (v4 + 1)), (0, zr Z 6), (2, zi v2), (3, zi v3)]) d_Books_addStep_31 3 rfl (by decide) rfl ?_
      refine zv_goto X (tgt := 7) d_Books_addStep_34 (by decide) ?_
      refine zv_sub X [1, 2, 3, 0] rfl ?_
      exact ih (v4 + 1) D1
set_option maxRecDepth 100000 in
theorem c_Books_addStep (l : Launch) {Z : Zt} (hZ : Zok Z) (hN : 143 ≤ Z.2.2.2.1) (v1 v2 : Int)  (D : Mm) : CtM l Z y_Books_addStep prog_2_method_8_code 5 none rm_Books_addStep 0 [zr Z 6, zi v1, zi v2] D (f_Books_addStep v1 v2 D) := by
  refine zm_M (lv := [(0, zr Z 6), (1, zi v1), (2, zi v2)]) hZ (by decide +kernel) rfl (Nat.le_of_ble_eq_true rfl) rfl (fun Γ hl X => ?_)
  subst hl
  unfold f_Books_addStep
  refine zv_iconst X d_Books_addStep_0 ?_
  refine zv_iload_n X d_Books_addStep_1 rfl 1 rfl ?_
  refine zv_ishl X d_Books_addStep_2 ?_
  refine zv_istore_n X (lv2 := [(3, zi (jshl 1 v1)), (0, zr Z 6), (1, zi v1), (2, zi v2)]) d_Books_addStep_3 rfl (by decide) rfl ?_
  refine zv_iconst X d_Books_addStep_4 ?_
  refine zv_istore X (lv2 := [(4, zi 0), (3, zi (jshl 1 v1)), (0, zr Z 6), (1, zi v1), (2, zi v2)]) d_Books_addStep_5 (by decide) rfl ?_
  refine zv_sub X [2, 4, 1, 0] rfl ?_
  exact v_Books_addStep_7 X hN v2 (jshl 1 v1) zF 0 D
set_option maxRecDepth 100000 in
theorem v_Books_noteRange_95 {Γ : Gt} {Z : Zt} (X : Cx Γ Z prog_2_method_9_code R_Books 7 none rm_Books_noteRange) (hN : 143 ≤ Z.2.2.2.1) (s0 s1 : Int)   (D : Mm)  : Zv Γ Z 7 (QfM Γ Z 0) (f_Books_noteRange_95 s0 s1 D) D 95 [] [zi s0, zi s1, zr Z 6] := by
  unfold f_Books_noteRange_95
  refine zv_cSP1 X (av := [zi s1, zi s0]) (st := [zr Z 6]) (c_Math_max Γ.2.1 X.2.2.2.2.2.2.2.1 s1 s0 D) mk_Books_91 ⟨rfl, rfl, Nat.le_of_ble_eq_true rfl, Nat.le_of_ble_eq_true rfl⟩ rfl (Nat.le_of_ble_eq_true rfl) d_Books_noteRange_95 (fun r1 hr1 => ?_)
  refine zv_putC X (ci := 2) rfl i_Books t_Books t_Books_ok n_Books (za_6 hN) 6 rfl (by decide) lk_Books_28 rfl rfl (ps_2_6 ..) (Nat.le_of_ble_eq_true rfl) rfl rfl d_Books_noteRange_98 (fun D2 => ?_)
  exact zv_vretM X d_Books_noteRange_101
set_option maxRecDepth 100000 in
theorem v_Books_noteRange_70 {Γ : Gt} {Z : Zt} (X : Cx Γ Z prog_2_method_9_code R_Books 7 none rm_Books_noteRange) (hN : 143 ≤ Z.2.2.2.1) (v2 v5 v6 s0 s1 : Int)   (D : Mm)  : Zv Γ Z 7 (QfM Γ Z 0) (f_Books_noteRange_70 v2 v5 v6 s0 s1 D) D 70 [(0, zr Z 6), (2, zi v2), (5, zi v5), (6, zi v6)] [zi s0, zi s1, zr Z 6] := by
  unfold f_Books_noteRange_70
  refine zv_cSP1 X (av := [zi s1, zi s0]) (st := [zr Z 6]) (c_Math_min Γ.2.1 X.2.2.2.2.2.2.2.1 s1 s0 D) mk_Books_97 ⟨rfl, rfl, Nat.le_of_ble_eq_true rfl, Nat.le_of_ble_eq_true rfl⟩ rfl (Nat.le_of_ble_eq_true rfl) d_Books_noteRange_70 (fun r1 hr1 => ?_)
  refine zv_putC X (ci := 2) rfl i_Books t_Books t_Books_ok n_Books (za_6 hN) 5 rfl (by decide) lk_Books_25 rfl rfl (ps_2_5 ..) (Nat.le_of_ble_eq_true rfl) rfl rfl d_Books_noteRange_73 (fun D2 => ?_)
  refine zv_aload_n X d_Books_noteRange_76 rfl 0 rfl ?_
  refine zv_aload_n X d_Books_noteRange_77 rfl 0 rfl ?_
  refine zv_get X (ci := 2) rfl i_Books (za_6 hN) 6 (by decide) lk_Books_28 rfl rfl d_Books_noteRange_78 ?_
  refine zv_iload X d_Books_noteRange_81 2 rfl ?_
  refine zv_if_eq X (y := 0) (tgt := 93) d_Books_noteRange_83 (by decide) (fun h83 => ?_) (fun h83 => ?_)
  · refine zv_iload X d_Books_noteRange_93 3 rfl ?_
    refine zv_sub X [] rfl ?_
    exact v_Books_noteRange_95 X hN v6 (D2 6 6) D2
  · refine zv_iload X d_Books_noteRange_86 3 rfl ?_
    refine zv_iload_n X d_Books_noteRange_88 rfl 1 rfl ?_
    refine zv_iadd X d_Books_noteRange_89 ?_
    refine zv_goto X (tgt := 95) d_Books_noteRange_90 (by decide) ?_
    refine zv_sub X [] rfl ?_
    exact v_Books_noteRange_95 X hN (v6 + v2) (D2 6 6) D2
set_option maxRecDepth 100000 in
theorem v_Books_noteRange_36 {Γ : Gt} {Z : Zt} (X : Cx Γ Z prog_2_method_9_code R_Books 7 none rm_Books_noteRange) (hN : 143 ≤ Z.2.2.2.1) (v1 v2 v3 v4 s0 : Int)   (D : Mm)  : Zv Γ Z 7 (QfM Γ Z 0) (f_Books_noteRange_36 v1 v2 v3 v4 s0 D) D 36 [(0, zr Z 6), (1, zi v1), (2, zi v2), (3, zi v3), (4, zi v4)] [zi s0] := by
  unfold f_Books_noteRange_36
  refine zv_istore X (lv2 := [(5, zi s0), (0, zr Z 6), (1, zi v1), (2, zi v2), (3, zi v3), (4, zi v4)]) d_Books_noteRange_36 (by decide) rfl ?_
  refine zv_aload_n X d_Books_noteRange_38 rfl 1 rfl ?_
  refine zv_get X (ci := 2) rfl i_Books (za_6 hN) 2 (by decide) lk_Books_18 rfl rfl d_Books_noteRange_39 ?_
  refine zv_iload_n X d_Books_noteRange_42 rfl 4 rfl ?_
  refine zv_iload X d_Books_noteRange_43 5 rfl ?_
  refine zv_iconst X d_Books_noteRange_45 ?_
  refine zv_ixor X d_Books_noteRange_46 ?_
  refine zv_iand X d_Books_noteRange_47 ?_
  refine zv_iald X (za_9 hN) d_Books_noteRange_48 (fun ha48 hb48 => ?_)
  refine zv_istore X (lv2 := [(6, zi (D 9 (jand v3 (jxor v4 (-1))))), (5, zi s0), (0, zr Z 6), (1, zi v1), (2, zi v2), (3, zi v3), (4, zi v4)]) d_Books_noteRange_49 (by decide) rfl ?_
  refine zv_aload_n X d_Books_noteRange_51 rfl 2 rfl ?_
  refine zv_aload_n X d_Books_noteRange_52 rfl 2 rfl ?_
  refine zv_get X (ci := 2) rfl i_Books (za_6 hN) 5 (by decide) lk_Books_25 rfl rfl d_Books_noteRange_53 ?_
  refine zv_iload X d_Books_noteRange_56 1 rfl ?_
  refine zv_if_eq X (y := 0) (tgt := 68) d_Books_noteRange_58 (by decide) (fun h58 => ?_) (fun h58 => ?_)
  · refine zv_iload X d_Books_noteRange_68 0 rfl ?_
    refine zv_sub X [2, 4, 1, 0] rfl ?_
    exact v_Books_noteRange_70 X hN v2 s0 (D 9 (jand v3 (jxor v4 (-1)))) (D 9 (jand v3 (jxor v4 (-1)))) (D 6 5) D
  · refine zv_iload X d_Books_noteRange_61 0 rfl ?_
    refine zv_iload_n X d_Books_noteRange_63 rfl 3 rfl ?_
    refine zv_iadd X d_Books_noteRange_64 ?_
    refine zv_goto X (tgt := 70) d_Books_noteRange_65 (by decide) ?_
    refine zv_sub X [2, 4, 1, 0] rfl ?_
    exact v_Books_noteRange_70 X hN v2 s0 (D 9 (jand v3 (jxor v4 (-1)))) ((D 9 (jand v3 (jxor v4 (-1)))) + v1) (D 6 5) D
set_option maxRecDepth 100000 in
theorem c_Books_noteRange (l : Launch) {Z : Zt} (hZ : Zok Z) (hN : 143 ≤ Z.2.2.2.1) (v1 v2 v3 : Int)  (D : Mm) : CtM l Z y_Books_noteRange prog_2_method_9_code 7 none rm_Books_noteRange 0 [zr Z 6, zi v1, zi v2, zi v3] D (f_Books_noteRange v1 v2 v3 D) := by
  refine zm_M (lv := [(0, zr Z 6), (1, zi v1), (2, zi v2), (3, zi v3)]) hZ (by decide +kernel) rfl (Nat.le_of_ble_eq_true rfl) rfl (fun Γ hl X => ?_)
  subst hl
  unfold f_Books_noteRange
  refine zv_iload_n X d_Books_noteRange_0 rfl 1 rfl ?_
  refine zv_iload_n X d_Books_noteRange_1 rfl 2 rfl ?_
  refine zv_icmp_le X (tgt := 6) d_Books_noteRange_2 (by decide) (fun h2 => ?_) (fun h2 => ?_)
  · refine zv_aload_n X d_Books_noteRange_6 rfl 0 rfl ?_
    refine zv_dup X d_Books_noteRange_7 rfl ?_
    refine zv_get X (ci := 2) rfl i_Books (za_6 hN) 4 (by decide) lk_Books_21 rfl rfl d_Books_noteRange_8 ?_
    refine zv_iload_n X d_Books_noteRange_11 rfl 2 rfl ?_
    refine zv_iload_n X d_Books_noteRange_12 rfl 1 rfl ?_
    refine zv_isub X d_Books_noteRange_13 ?_
    refine zv_iconst X d_Books_noteRange_14 ?_
    refine zv_iadd X d_Books_noteRange_15 ?_
    refine zv_iadd X d_Books_noteRange_16 ?_
    refine zv_putC X (ci := 2) rfl i_Books t_Books t_Books_ok n_Books (za_6 hN) 4 rfl (by decide) lk_Books_21 rfl rfl (ps_2_4 ..) (Nat.le_of_ble_eq_true rfl) rfl rfl d_Books_noteRange_17 (fun D1 => ?_)
    refine zv_bipush X d_Books_noteRange_20 (by decide +kernel) ?_
    refine zv_istore X (lv2 := [(4, zi 8), (0, zr Z 6), (1, zi v1), (2, zi v2), (3, zi v3)]) d_Books_noteRange_22 (by decide) rfl ?_
    refine zv_iload_n X d_Books_noteRange_24 rfl 4 rfl ?_
    refine zv_iload X d_Books_noteRange_25 0 rfl ?_
    refine zv_iand X d_Books_noteRange_27 ?_
    refine zv_if_eq X (y := 0) (tgt := 35) d_Books_noteRange_28 (by decide) (fun h28 => ?_) (fun h28 => ?_)
    · refine zv_iconst X d_Books_noteRange_35 ?_
      refine zv_sub X [1, 2, 3, 4, 0] rfl ?_
      exact v_Books_noteRange_36 X hN v1 v2 v3 8 0 D1
    · refine zv_iconst X d_Books_noteRange_31 ?_
      refine zv_goto X (tgt := 36) d_Books_noteRange_32 (by decide) ?_
      refine zv_sub X [1, 2, 3, 4, 0] rfl ?_
      exact v_Books_noteRange_36 X hN v1 v2 v3 8 1 D1
  · exact zv_vretM X d_Books_noteRange_5
set_option maxRecDepth 100000 in
theorem v_Books_noteFreeSteps_43 {Γ : Gt} {Z : Zt} (X : Cx Γ Z prog_2_method_10_code R_Books 3 none rm_Books_noteFreeSteps) (hN : 143 ≤ Z.2.2.2.1) (v1 v2 : Int)  (K2 : Int → Mm → Option (Int × Mm)) (D : Mm) (hK2 : ∀ (v2 : Int) (D : Mm), Zv Γ Z 3 (QfM Γ Z 0) (K2 v2 D) D 2 [(0, zr Z 6), (1, zi v1), (2, zi v2)] []) : Zv Γ Z 3 (QfM Γ Z 0) (f_Books_noteFreeSteps_43 v1 v2 K2 D) D 43 [(0, zr Z 6), (1, zi v1), (2, zi v2)] [] := by
  unfold f_Books_noteFreeSteps_43
  refine zv_iinc X (lv2 := [(2, zi (v2 + 1)), (0, zr Z 6), (1, zi v1)]) d_Books_noteFreeSteps_43 2 rfl (by decide) rfl ?_
  refine zv_goto X (tgt := 2) d_Books_noteFreeSteps_46 (by decide) ?_
  refine zv_sub X [1, 2, 0] rfl ?_
  exact hK2 (v2 + 1) D
set_option maxRecDepth 100000 in
theorem v_Books_noteFreeSteps_2 {Γ : Gt} {Z : Zt} (X : Cx Γ Z prog_2_method_10_code R_Books 3 none rm_Books_noteFreeSteps) (hN : 143 ≤ Z.2.2.2.1) (v1 : Int)    : ∀ (n : Nat) (v2 : Int) (D : Mm), Zv Γ Z 3 (QfM Γ Z 0) (f_Books_noteFreeSteps_2 v1 n v2 D) D 2 [(0, zr Z 6), (1, zi v1), (2, zi v2)] [] := by
  intro n
  induction n with
  | zero =>
    intro v2 D
    exact zv_none
  | succ n ih =>
    intro v2 D
    rw [f_Books_noteFreeSteps_2]
    refine zv_iload_n X d_Books_noteFreeSteps_2 rfl 2 rfl ?_
    refine zv_iconst X d_Books_noteFreeSteps_3 ?_
    refine zv_icmp_ge X (tgt := 49) d_Books_noteFreeSteps_4 (by decide) (fun h4 => ?_) (fun h4 => ?_)
    · exact zv_vretM X d_Books_noteFreeSteps_49
    · refine zv_aload_n X d_Books_noteFreeSteps_7 rfl 0 rfl ?_
      refine zv_iload_n X d_Books_noteFreeSteps_8 rfl 2 rfl ?_
      refine zv_cVP1 X (av := [zi v2]) (st := []) (ci := 2) (c_Books_isFree Γ.2.1 X.2.2.2.2.2.2.2.1 hN v2 D) mk_Books_105 rfl (za_6 hN) ⟨rfl, rfl, Nat.le_of_ble_eq_true rfl, Nat.le_of_ble_eq_true rfl⟩ rfl (Nat.le_of_ble_eq_true rfl) d_Books_noteFreeSteps_9 (fun r1 hr1 => ?_)
      refine zv_if_eq X (y := 0) (tgt := 43) d_Books_noteFreeSteps_12 (by decide) (fun h12 => ?_) (fun h12 => ?_)
      · exact v_Books_noteFreeSteps_43 X hN v1 v2 (f_Books_noteFreeSteps_2 v1 n) D ih
      · refine zv_aload_n X d_Books_noteFreeSteps_15 rfl 0 rfl ?_
        refine zv_dup X d_Books_noteFreeSteps_16 rfl ?_
        refine zv_get X (ci := 2) rfl i_Books (za_6 hN) 4 (by decide) lk_Books_21 rfl rfl d_Books_noteFreeSteps_17 ?_
        refine zv_bipush X d_Books_noteFreeSteps_20 (by decide +kernel) ?_
        refine zv_imul X d_Books_noteFreeSteps_22 ?_
        refine zv_putC X (ci := 2) rfl i_Books t_Books t_Books_ok n_Books (za_6 hN) 4 rfl (by decide) lk_Books_21 rfl rfl (ps_2_4 ..) (Nat.le_of_ble_eq_true rfl) rfl rfl d_Books_noteFreeSteps_23 (fun D2 => ?_)
        refine zv_aload_n X d_Books_noteFreeSteps_26 rfl 0 rfl ?_
        refine zv_dup X d_Books_noteFreeSteps_27 rfl ?_
        refine zv_get X (ci := 2) rfl i_Books (za_6 hN) 6 (by decide) lk_Books_28 rfl rfl d_Books_noteFreeSteps_28 ?_
        refine zv_iload_n X d_Books_noteFreeSteps_31 rfl 1 rfl ?_
        refine zv_iload_n X d_Books_noteFreeSteps_32 rfl 2 rfl ?_
        refine zv_ishr X d_Books_noteFreeSteps_33 ?_
        refine zv_iconst X d_Books_noteFreeSteps_34 ?_
        refine zv_iand X d_Books_noteFreeSteps_35 ?_
        refine zv_bipush X d_Books_noteFreeSteps_36 (by decide +kernel) ?_
        refine zv_imul X d_Books_noteFreeSteps_38 ?_
        refine zv_iadd X d_Books_noteFreeSteps_39 ?_
        refine zv_putC X (ci := 2) rfl i_Books t_Books t_Books_ok n_Books (za_6 hN) 6 rfl (by decide) lk_Books_28 rfl rfl (ps_2_6 ..) (Nat.le_of_ble_eq_true rfl) rfl rfl d_Books_noteFreeSteps_40 (fun D3 => ?_)
        exact v_Books_noteFreeSteps_43 X hN v1 v2 (f_Books_noteFreeSteps_2 v1 n) D3 ih
set_option maxRecDepth 100000 in
theorem c_Books_noteFreeSteps (l : Launch) {Z : Zt} (hZ : Zok Z) (hN : 143 ≤ Z.2.2.2.1) (v1 : Int)  (D : Mm) : CtM l Z y_Books_noteFreeSteps prog_2_method_10_code 3 none rm_Books_noteFreeSteps 0 [zr Z 6, zi v1] D (f_Books_noteFreeSteps v1 D) := by
  refine zm_M (lv := [(0, zr Z 6), (1, zi v1)]) hZ (by decide +kernel) rfl (Nat.le_of_ble_eq_true rfl) rfl (fun Γ hl X => ?_)
  subst hl
  unfold f_Books_noteFreeSteps
  refine zv_iconst X d_Books_noteFreeSteps_0 ?_
  refine zv_istore_n X (lv2 := [(2, zi 0), (0, zr Z 6), (1, zi v1)]) d_Books_noteFreeSteps_1 rfl (by decide) rfl ?_
  refine zv_sub X [1, 2, 0] rfl ?_
  exact v_Books_noteFreeSteps_2 X hN v1 zF 0 D
set_option maxRecDepth 100000 in
theorem v_Books_search_105 {Γ : Gt} {Z : Zt} (X : Cx Γ Z prog_2_method_2_code R_Books 12 none rm_Books_search) (hN : 143 ≤ Z.2.2.2.1) (v5 v6 v7 v8 v9 v10 : Int)  (K44 : Int → Mm → Option (Int × Mm))  (hK44 : ∀ (v9 : Int) (D : Mm), Zv Γ Z 12 (QfM Γ Z 0) (K44 v9 D) D 77 [(0, zr Z 6), (5, zi v5), (6, zi v6), (7, zi v7), (8, zi v8), (9, zi v9)] []): ∀ (n : Nat) (v11 : Int) (D : Mm), Zv Γ Z 12 (QfM Γ Z 0) (f_Books_search_105 v5 v6 v7 v8 v9 v10 K44 n v11 D) D 105 [(0, zr Z 6), (5, zi v5), (6, zi v6), (7, zi v7), (8, zi v8), (9, zi v9), (10, zi v10), (11, zi v11)] [] := by
  intro n
  induction n with
  | zero =>
    intro v11 D
    exact zv_none
  | succ n ih =>
    intro v11 D
    rw [f_Books_search_105]
    refine zv_iload X d_Books_search_105 7 rfl ?_
    refine zv_iload X d_Books_search_107 6 rfl ?_
    refine zv_icmp_gt X (tgt := 141) d_Books_search_109 (by decide) (fun h109 => ?_) (fun h109 => ?_)
    · refine zv_iinc X (lv2 := [(9, zi (v9 + 1)), (0, zr Z 6), (5, zi v5), (6, zi v6), (7, zi v7), (8, zi v8), (10, zi v10), (11, zi v11)]) d_Books_search_141 5 rfl (by decide) rfl ?_
      refine zv_goto X (tgt := 77) d_Books_search_144 (by decide) ?_
      refine zv_sub X [1, 2, 3, 4, 5, 0] rfl ?_
      exact hK44 (v9 + 1) D
    · refine zv_aload_n X d_Books_search_112 rfl 0 rfl ?_
      refine zv_iconst X d_Books_search_113 ?_
      refine zv_iload X d_Books_search_114 7 rfl ?_
      refine zv_cVM0 X (av := [zi 2, zi v11]) (st := []) (ci := 2) (c_Books_addStep Γ.2.1 X.2.2.2.2.2.2.2.1 hN 2 v11 D) mk_Books_42 rfl (za_6 hN) ⟨rfl, rfl, Nat.le_of_ble_eq_true rfl, Nat.le_of_ble_eq_true rfl⟩ rfl (Nat.le_of_ble_eq_true rfl) d_Books_search_116 (fun _ D2 hr1 => ?_)
      refine zv_aload_n X d_Books_search_119 rfl 0 rfl ?_
      refine zv_aload_n X d_Books_search_120 rfl 0 rfl ?_
      refine zv_iconst X d_Books_search_121 ?_
      refine zv_cVP1 X (av := [zi 3]) (st := [zr Z 6]) (ci := 2) (c_Books_leastOf Γ.2.1 X.2.2.2.2.2.2.2.1 hN 3 D2) mk_Books_39 rfl (za_6 hN) ⟨rfl, rfl, Nat.le_of_ble_eq_true rfl, Nat.le_of_ble_eq_true rfl⟩ rfl (Nat.le_of_ble_eq_true rfl) d_Books_search_122 (fun r3 hr3 => ?_)
      refine zv_aload_n X d_Books_search_125 rfl 0 rfl ?_
      refine zv_iconst X d_Books_search_126 ?_
      refine zv_cVP1 X (av := [zi 3]) (st := [zi r3, zr Z 6]) (ci := 2) (c_Books_greatestOf Γ.2.1 X.2.2.2.2.2.2.2.1 hN 3 D2) mk_Books_35 rfl (za_6 hN) ⟨rfl, rfl, Nat.le_of_ble_eq_true rfl, Nat.le_of_ble_eq_true rfl⟩ rfl (Nat.le_of_ble_eq_true rfl) d_Books_search_127 (fun r4 hr4 => ?_)
      refine zv_iload X d_Books_search_130 1 rfl ?_
      refine zv_cVM0 X (av := [zi r3, zi r4, zi v5]) (st := []) (ci := 2) (c_Books_noteRange Γ.2.1 X.2.2.2.2.2.2.2.1 hN r3 r4 v5 D2) mk_Books_46 rfl (za_6 hN) ⟨rfl, rfl, Nat.le_of_ble_eq_true rfl, Nat.le_of_ble_eq_true rfl⟩ rfl (Nat.le_of_ble_eq_true rfl) d_Books_search_132 (fun _ D6 hr5 => ?_)
      refine zv_iinc X (lv2 := [(11, zi (v11 + 1)), (0, zr Z 6), (5, zi v5), (6, zi v6), (7, zi v7), (8, zi v8), (9, zi v9), (10, zi v10)]) d_Books_search_135 7 rfl (by decide) rfl ?_
      refine zv_goto X (tgt := 105) d_Books_search_138 (by decide) ?_
      refine zv_sub X [1, 2, 3, 4, 5, 6, 7, 0] rfl ?_
      exact ih (v11 + 1) D6
set_option maxRecDepth 100000 in
theorem v_Books_search_77 {Γ : Gt} {Z : Zt} (X : Cx Γ Z prog_2_method_2_code R_Books 12 none rm_Books_search) (hN : 143 ≤ Z.2.2.2.1) (v5 v6 v7 v8 : Int)  (K29 : Int → Mm → Option (Int × Mm))  (hK29 : ∀ (v7 : Int) (D : Mm), Zv Γ Z 12 (QfM Γ Z 0) (K29 v7 D) D 49 [(0, zr Z 6), (5, zi v5), (6, zi v6), (7, zi v7)] []): ∀ (n : Nat) (v9 : Int) (D : Mm), Zv Γ Z 12 (QfM Γ Z 0) (f_Books_search_77 v5 v6 v7 v8 K29 n v9 D) D 77 [(0, zr Z 6), (5, zi v5), (6, zi v6), (7, zi v7), (8, zi v8), (9, zi v9)] [] := by
  intro n
  induction n with
  | zero =>
    intro v9 D
    exact zv_none
  | succ n ih =>
    intro v9 D
    rw [f_Books_search_77]
    refine zv_iload X d_Books_search_77 5 rfl ?_
    refine zv_iload X d_Books_search_79 4 rfl ?_
    refine zv_icmp_gt X (tgt := 147) d_Books_search_81 (by decide) (fun h81 => ?_) (fun h81 => ?_)
    · refine zv_iinc X (lv2 := [(7, zi (v7 + 1)), (0, zr Z 6), (5, zi v5), (6, zi v6), (8, zi v8), (9, zi v9)]) d_Books_search_147 3 rfl (by decide) rfl ?_
      refine zv_goto X (tgt := 49) d_Books_search_150 (by decide) ?_
      refine zv_sub X [1, 2, 3, 0] rfl ?_
      exact hK29 (v7 + 1) D
    · refine zv_aload_n X d_Books_search_84 rfl 0 rfl ?_
      refine zv_iconst X d_Books_search_85 ?_
      refine zv_iload X d_Books_search_86 5 rfl ?_
      refine zv_cVM0 X (av := [zi 1, zi v9]) (st := []) (ci := 2) (c_Books_addStep Γ.2.1 X.2.2.2.2.2.2.2.1 hN 1 v9 D) mk_Books_42 rfl (za_6 hN) ⟨rfl, rfl, Nat.le_of_ble_eq_true rfl, Nat.le_of_ble_eq_true rfl⟩ rfl (Nat.le_of_ble_eq_true rfl) d_Books_search_88 (fun _ D2 hr1 => ?_)
      refine zv_aload_n X d_Books_search_91 rfl 0 rfl ?_
      refine zv_iconst X d_Books_search_92 ?_
      refine zv_cVP1 X (av := [zi 2]) (st := []) (ci := 2) (c_Books_greatestOf Γ.2.1 X.2.2.2.2.2.2.2.1 hN 2 D2) mk_Books_35 rfl (za_6 hN) ⟨rfl, rfl, Nat.le_of_ble_eq_true rfl, Nat.le_of_ble_eq_true rfl⟩ rfl (Nat.le_of_ble_eq_true rfl) d_Books_search_93 (fun r3 hr3 => ?_)
      refine zv_istore X (lv2 := [(10, zi r3), (0, zr Z 6), (5, zi v5), (6, zi v6), (7, zi v7), (8, zi v8), (9, zi v9)]) d_Books_search_96 (by decide) rfl ?_
      refine zv_aload_n X d_Books_search_98 rfl 1 rfl ?_
      refine zv_iconst X d_Books_search_99 ?_
      refine zv_cVP1 X (av := [zi 2]) (st := []) (ci := 2) (c_Books_leastOf Γ.2.1 X.2.2.2.2.2.2.2.1 hN 2 D2) mk_Books_39 rfl (za_6 hN) ⟨rfl, rfl, Nat.le_of_ble_eq_true rfl, Nat.le_of_ble_eq_true rfl⟩ rfl (Nat.le_of_ble_eq_true rfl) d_Books_search_100 (fun r4 hr4 => ?_)
      refine zv_istore X (lv2 := [(11, zi r4), (10, zi r3), (0, zr Z 6), (5, zi v5), (6, zi v6), (7, zi v7), (8, zi v8), (9, zi v9)]) d_Books_search_103 (by decide) rfl ?_
      refine zv_sub X [2, 3, 4, 5, 6, 7, 1, 0] rfl ?_
      exact v_Books_search_105 X hN v5 v6 v7 v8 v9 r3 (f_Books_search_77 v5 v6 v7 v8 K29 n) ih zF r4 D2
set_option maxRecDepth 100000 in
theorem v_Books_search_49 {Γ : Gt} {Z : Zt} (X : Cx Γ Z prog_2_method_2_code R_Books 12 none rm_Books_search) (hN : 143 ≤ Z.2.2.2.1) (v5 v6 : Int)    : ∀ (n : Nat) (v7 : Int) (D : Mm), Zv Γ Z 12 (QfM Γ Z 0) (f_Books_search_49 v5 v6 n v7 D) D 49 [(0, zr Z 6), (5, zi v5), (6, zi v6), (7, zi v7)] [] := by
  intro n
  induction n with
  | zero =>
    intro v7 D
    exact zv_none
  | succ n ih =>
    intro v7 D
    rw [f_Books_search_49]
    refine zv_iload X d_Books_search_49 3 rfl ?_
    refine zv_iload X d_Books_search_51 2 rfl ?_
    refine zv_icmp_gt X (tgt := 153) d_Books_search_53 (by decide) (fun h53 => ?_) (fun h53 => ?_)
    · refine zv_aload_n X d_Books_search_153 rfl 0 rfl ?_
      refine zv_iload X d_Books_search_154 1 rfl ?_
      refine zv_cVM0 X (av := [zi v5]) (st := []) (ci := 2) (c_Books_noteFreeSteps Γ.2.1 X.2.2.2.2.2.2.2.1 hN v5 D) mk_Books_50 rfl (za_6 hN) ⟨rfl, rfl, Nat.le_of_ble_eq_true rfl, Nat.le_of_ble_eq_true rfl⟩ rfl (Nat.le_of_ble_eq_true rfl) d_Books_search_156 (fun _ D2 hr1 => ?_)
      exact zv_vretM X d_Books_search_159
    · refine zv_aload_n X d_Books_search_56 rfl 0 rfl ?_
      refine zv_iconst X d_Books_search_57 ?_
      refine zv_iload X d_Books_search_58 3 rfl ?_
      refine zv_cVM0 X (av := [zi 0, zi v7]) (st := []) (ci := 2) (c_Books_addStep Γ.2.1 X.2.2.2.2.2.2.2.1 hN 0 v7 D) mk_Books_42 rfl (za_6 hN) ⟨rfl, rfl, Nat.le_of_ble_eq_true rfl, Nat.le_of_ble_eq_true rfl⟩ rfl (Nat.le_of_ble_eq_true rfl) d_Books_search_60 (fun _ D4 hr3 => ?_)
      refine zv_aload_n X d_Books_search_63 rfl 0 rfl ?_
      refine zv_iconst X d_Books_search_64 ?_
      refine zv_cVP1 X (av := [zi 1]) (st := []) (ci := 2) (c_Books_greatestOf Γ.2.1 X.2.2.2.2.2.2.2.1 hN 1 D4) mk_Books_35 rfl (za_6 hN) ⟨rfl, rfl, Nat.le_of_ble_eq_true rfl, Nat.le_of_ble_eq_true rfl⟩ rfl (Nat.le_of_ble_eq_true rfl) d_Books_search_65 (fun r5 hr5 => ?_)
      refine zv_istore X (lv2 := [(8, zi r5), (0, zr Z 6), (5, zi v5), (6, zi v6), (7, zi v7)]) d_Books_search_68 (by decide) rfl ?_
      refine zv_aload_n X d_Books_search_70 rfl 1 rfl ?_
      refine zv_iconst X d_Books_search_71 ?_
      refine zv_cVP1 X (av := [zi 1]) (st := []) (ci := 2) (c_Books_leastOf Γ.2.1 X.2.2.2.2.2.2.2.1 hN 1 D4) mk_Books_39 rfl (za_6 hN) ⟨rfl, rfl, Nat.le_of_ble_eq_true rfl, Nat.le_of_ble_eq_true rfl⟩ rfl (Nat.le_of_ble_eq_true rfl) d_Books_search_72 (fun r6 hr6 => ?_)
      refine zv_istore X (lv2 := [(9, zi r6), (8, zi r5), (0, zr Z 6), (5, zi v5), (6, zi v6), (7, zi v7)]) d_Books_search_75 (by decide) rfl ?_
      refine zv_sub X [2, 3, 4, 5, 1, 0] rfl ?_
      exact v_Books_search_77 X hN v5 v6 v7 r5 (f_Books_search_49 v5 v6 n) ih zF r6 D4
set_option maxRecDepth 100000 in
theorem c_Books_search (l : Launch) {Z : Zt} (hZ : Zok Z) (hN : 143 ≤ Z.2.2.2.1) (v1 v2 v3 v4 v5 : Int) (hv1 : isQ v1) (hv2 : isF v2) (D : Mm) : CtM l Z y_Books_search prog_2_method_2_code 12 none rm_Books_search 0 [zr Z 6, zr Z v1, zr Z v2, zi v3, zi v4, zi v5] D (f_Books_search v1 v2 v3 v4 v5 D) := by
  refine zm_M (lv := [(0, zr Z 6), (1, zr Z v1), (2, zr Z v2), (3, zi v3), (4, zi v4), (5, zi v5)]) hZ (by decide +kernel) rfl (Nat.le_of_ble_eq_true rfl) rfl (fun Γ hl X => ?_)
  subst hl
  unfold f_Books_search
  refine zv_aload_n X d_Books_search_0 rfl 0 rfl ?_
  refine zv_iconst X d_Books_search_1 ?_
  refine zv_putC X (ci := 2) rfl i_Books t_Books t_Books_ok n_Books (za_6 hN) 4 rfl (by decide) lk_Books_21 rfl rfl (ps_2_4 ..) (Nat.le_of_ble_eq_true rfl) rfl rfl d_Books_search_2 (fun D1 => ?_)
  refine zv_aload_n X d_Books_search_5 rfl 0 rfl ?_
  refine zv_bipush X d_Books_search_6 (by decide +kernel) ?_
  refine zv_putC X (ci := 2) rfl i_Books t_Books t_Books_ok n_Books (za_6 hN) 5 rfl (by decide) lk_Books_25 rfl rfl (ps_2_5 ..) (Nat.le_of_ble_eq_true rfl) rfl rfl d_Books_search_8 (fun D2 => ?_)
  refine zv_aload_n X d_Books_search_11 rfl 0 rfl ?_
  refine zv_iconst X d_Books_search_12 ?_
  refine zv_putC X (ci := 2) rfl i_Books t_Books t_Books_ok n_Books (za_6 hN) 6 rfl (by decide) lk_Books_28 rfl rfl (ps_2_6 ..) (Nat.le_of_ble_eq_true rfl) rfl rfl d_Books_search_13 (fun D3 => ?_)
  refine zv_aload_n X d_Books_search_16 rfl 0 rfl ?_
  refine zv_aload_n X d_Books_search_17 rfl 1 rfl ?_
  refine zv_aload_n X d_Books_search_18 rfl 2 rfl ?_
  refine zv_iload_n X d_Books_search_19 rfl 3 rfl ?_
  refine zv_iload X d_Books_search_20 4 rfl ?_
  refine zv_cVM0 X (av := [zr Z v1, zr Z v2, zi v3, zi v4]) (st := []) (ci := 2) (c_Books_boundSums Γ.2.1 X.2.2.2.2.2.2.2.1 hN v1 v2 v3 v4 hv1 hv2 D3) mk_Books_31 rfl (za_6 hN) ⟨rfl, rfl, Nat.le_of_ble_eq_true rfl, Nat.le_of_ble_eq_true rfl⟩ rfl (Nat.le_of_ble_eq_true rfl) d_Books_search_22 (fun _ D5 hr4 => ?_)
  refine zv_aload_n X d_Books_search_25 rfl 0 rfl ?_
  refine zv_get X (ci := 2) rfl i_Books (za_6 hN) 0 (by decide) lk_Books_11 rfl rfl d_Books_search_26 ?_
  refine zv_iconst X d_Books_search_29 ?_
  refine zv_ialdK X (za_7 hN) (by decide) (by decide) d_Books_search_30 ?_
  refine zv_if_le X (y := 0) (tgt := 35) d_Books_search_31 (by decide) (fun h31 => ?_) (fun h31 => ?_)
  · refine zv_aload_n X d_Books_search_35 rfl 0 rfl ?_
    refine zv_iconst X d_Books_search_36 ?_
    refine zv_cVP1 X (av := [zi 0]) (st := []) (ci := 2) (c_Books_greatestOf Γ.2.1 X.2.2.2.2.2.2.2.1 hN 0 D5) mk_Books_35 rfl (za_6 hN) ⟨rfl, rfl, Nat.le_of_ble_eq_true rfl, Nat.le_of_ble_eq_true rfl⟩ rfl (Nat.le_of_ble_eq_true rfl) d_Books_search_37 (fun r6 hr6 => ?_)
    refine zv_istore X (lv2 := [(6, zi r6), (0, zr Z 6), (1, zr Z v1), (2, zr Z v2), (3, zi v3), (4, zi v4), (5, zi v5)]) d_Books_search_40 (by decide) rfl ?_
    refine zv_aload_n X d_Books_search_42 rfl 1 rfl ?_
    refine zv_iconst X d_Books_search_43 ?_
    refine zv_cVP1 X (av := [zi 0]) (st := []) (ci := 2) (c_Books_leastOf Γ.2.1 X.2.2.2.2.2.2.2.1 hN 0 D5) mk_Books_39 rfl (za_6 hN) ⟨rfl, rfl, Nat.le_of_ble_eq_true rfl, Nat.le_of_ble_eq_true rfl⟩ rfl (Nat.le_of_ble_eq_true rfl) d_Books_search_44 (fun r7 hr7 => ?_)
    refine zv_istore X (lv2 := [(7, zi r7), (6, zi r6), (0, zr Z 6), (1, zr Z v1), (2, zr Z v2), (3, zi v3), (4, zi v4), (5, zi v5)]) d_Books_search_47 (by decide) rfl ?_
    refine zv_sub X [2, 7, 1, 0] rfl ?_
    exact v_Books_search_49 X hN v5 r6 zF r7 D5
  · exact zv_vretM X d_Books_search_34

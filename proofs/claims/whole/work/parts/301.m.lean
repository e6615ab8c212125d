set_option maxRecDepth 100000 in
theorem c_Quern_isStep (l : Launch) {Z : Zt} (hZ : Zok Z) (hN : 143 ≤ Z.2.2.2.1) (v0 : Int)  (D : Mm) : CtP l Z y_Quern_isStep prog_6_method_14_code 1 (some .boolean) rm_Quern_isStep 1 [zi v0] D (f_Quern_isStep v0 D) := by
  refine zm_P (lv := [(0, zi v0)]) hZ (by decide +kernel) rfl (Nat.le_of_ble_eq_true rfl) rfl (fun Γ hl X => ?_)
  subst hl
  unfold f_Quern_isStep
  refine zv_iload_n X d_Quern_isStep_0 rfl 0 rfl ?_
  refine zv_if_lt X (y := 0) (tgt := 13) d_Quern_isStep_1 (by decide) (fun h1 => ?_) (fun h1 => ?_)
  · refine zv_iconst X d_Quern_isStep_13 ?_
    exact zv_zretPK X (Or.inl rfl) d_Quern_isStep_14
  · refine zv_iload_n X d_Quern_isStep_4 rfl 0 rfl ?_
    refine zv_iconst X d_Quern_isStep_5 ?_
    refine zv_icmp_ge X (tgt := 13) d_Quern_isStep_6 (by decide) (fun h6 => ?_) (fun h6 => ?_)
    · refine zv_iconst X d_Quern_isStep_13 ?_
      exact zv_zretPK X (Or.inl rfl) d_Quern_isStep_14
    · refine zv_iconst X d_Quern_isStep_9 ?_
      refine zv_goto X (tgt := 14) d_Quern_isStep_10 (by decide) ?_
      exact zv_zretPK X (Or.inr rfl) d_Quern_isStep_14
set_option maxRecDepth 100000 in
theorem c_Quern_takeBook (l : Launch) {Z : Zt} (hZ : Zok Z) (hN : 143 ≤ Z.2.2.2.1) (v0 v1 v2 v3 : Int) (hv0 : isQ v0) (D : Mm) : CtM l Z y_Quern_takeBook prog_6_method_10_code 4 (some .boolean) rm_Quern_takeBook 1 [zr Z v0, zi v1, zi v2, zi v3] D (f_Quern_takeBook v0 v1 v2 v3 D) := by
  refine zm_M (lv := [(0, zr Z v0), (1, zi v1), (2, zi v2), (3, zi v3)]) hZ (by decide +kernel) rfl (Nat.le_of_ble_eq_true rfl) rfl (fun Γ hl X => ?_)
  subst hl
  unfold f_Quern_takeBook
  refine zv_iload_n X d_Quern_takeBook_0 rfl 1 rfl ?_
  refine zv_cSP1 X (av := [zi v1]) (st := []) (c_Quern_isStep Γ.2.1 X.2.2.2.2.2.2.2.1 hN v1 D) mk_Quern_100 ⟨rfl, rfl, Nat.le_of_ble_eq_true rfl, Nat.le_of_ble_eq_true rfl⟩ rfl (Nat.le_of_ble_eq_true rfl) d_Quern_takeBook_1 (fun r1 hr1 => ?_)
  refine zv_if_eq X (y := 0) (tgt := 25) d_Quern_takeBook_4 (by decide) (fun h4 => ?_) (fun h4 => ?_)
  · refine zv_iconst X d_Quern_takeBook_25 ?_
    exact zv_zretMK X (Or.inl rfl) d_Quern_takeBook_26
  · refine zv_aload_n X d_Quern_takeBook_7 rfl 0 rfl ?_
    refine zv_iload_n X d_Quern_takeBook_8 rfl 2 rfl ?_
    refine zv_cVP1 X (av := [zi v2]) (st := []) (ci := 5) (c_Quern_hasSort Γ.2.1 X.2.2.2.2.2.2.2.1 hN v0 v2 hv0 D) mk_Quern_97 rfl (zq_0 hN hv0) ⟨rfl, rfl, Nat.le_of_ble_eq_true rfl, Nat.le_of_ble_eq_true rfl⟩ rfl (Nat.le_of_ble_eq_true rfl) d_Quern_takeBook_9 (fun r2 hr2 => ?_)
    refine zv_if_eq X (y := 0) (tgt := 25) d_Quern_takeBook_12 (by decide) (fun h12 => ?_) (fun h12 => ?_)
    · refine zv_iconst X d_Quern_takeBook_25 ?_
      exact zv_zretMK X (Or.inl rfl) d_Quern_takeBook_26
    · refine zv_iload_n X d_Quern_takeBook_15 rfl 3 rfl ?_
      refine zv_iconst X d_Quern_takeBook_16 ?_
      refine zv_bipush X d_Quern_takeBook_17 (by decide +kernel) ?_
      refine zv_cNP1 X (av := [zi v3, zi 0, zi 9]) (st := []) (c_Main_within Γ.2.1 X.2.2.2.2.2.2.2.1 hN v3 0 9 D) mk_Quern_90 ⟨rfl, rfl, Nat.le_of_ble_eq_true rfl, Nat.le_of_ble_eq_true rfl⟩ rfl (Nat.le_of_ble_eq_true rfl) d_Quern_takeBook_19 (fun r3 hr3 => ?_)
      refine zv_if_ne X (y := 0) (tgt := 27) d_Quern_takeBook_22 (by decide) (fun h22 => ?_) (fun h22 => ?_)
      · refine zv_aload_n X d_Quern_takeBook_27 rfl 0 rfl ?_
        refine zv_get X (ci := 5) rfl i_Quern (zq_0 hN hv0) 8 (by decide) lk_Quern_32 rfl rfl d_Quern_takeBook_28 ?_
        refine zv_iload_n X d_Quern_takeBook_31 rfl 1 rfl ?_
        refine zv_aald X (v0 + 24 + v1) (zq_23 hN hv0) d_Quern_takeBook_32 (by omega) (fun ha32 hb32 => ?_)
        refine zv_iload_n X d_Quern_takeBook_33 rfl 2 rfl ?_
        refine zv_iload_n X d_Quern_takeBook_34 rfl 3 rfl ?_
        refine zv_iastC X (zq_23r hN hv0 ha32 hb32) d_Quern_takeBook_35 (fun ha35 hb35 D4 => ?_)
        refine zv_iconst X d_Quern_takeBook_36 ?_
        exact zv_zretMK X (Or.inr rfl) d_Quern_takeBook_37
      · refine zv_iconst X d_Quern_takeBook_25 ?_
        exact zv_zretMK X (Or.inl rfl) d_Quern_takeBook_26
set_option maxRecDepth 100000 in
theorem c_Quern_takeWash (l : Launch) {Z : Zt} (hZ : Zok Z) (hN : 143 ≤ Z.2.2.2.1) (v0 v1 v2 : Int) (hv0 : isQ v0) (D : Mm) : CtM l Z y_Quern_takeWash prog_6_method_11_code 3 (some .boolean) rm_Quern_takeWash 1 [zr Z v0, zi v1, zi v2] D (f_Quern_takeWash v0 v1 v2 D) := by
  refine zm_M (lv := [(0, zr Z v0), (1, zi v1), (2, zi v2)]) hZ (by decide +kernel) rfl (Nat.le_of_ble_eq_true rfl) rfl (fun Γ hl X => ?_)
  subst hl
  unfold f_Quern_takeWash
  refine zv_iload_n X d_Quern_takeWash_0 rfl 1 rfl ?_
  refine zv_cSP1 X (av := [zi v1]) (st := []) (c_Quern_isStep Γ.2.1 X.2.2.2.2.2.2.2.1 hN v1 D) mk_Quern_100 ⟨rfl, rfl, Nat.le_of_ble_eq_true rfl, Nat.le_of_ble_eq_true rfl⟩ rfl (Nat.le_of_ble_eq_true rfl) d_Quern_takeWash_1 (fun r1 hr1 => ?_)
  refine zv_if_eq X (y := 0) (tgt := 17) d_Quern_takeWash_4 (by decide) (fun h4 => ?_) (fun h4 => ?_)
  · refine zv_iconst X d_Quern_takeWash_17 ?_
    exact zv_zretMK X (Or.inl rfl) d_Quern_takeWash_18
  · refine zv_iload_n X d_Quern_takeWash_7 rfl 2 rfl ?_
    refine zv_iconst X d_Quern_takeWash_8 ?_
    refine zv_bipush X d_Quern_takeWash_9 (by decide +kernel) ?_
    refine zv_cNP1 X (av := [zi v2, zi 0, zi 99]) (st := []) (c_Main_within Γ.2.1 X.2.2.2.2.2.2.2.1 hN v2 0 99 D) mk_Quern_90 ⟨rfl, rfl, Nat.le_of_ble_eq_true rfl, Nat.le_of_ble_eq_true rfl⟩ rfl (Nat.le_of_ble_eq_true rfl) d_Quern_takeWash_11 (fun r2 hr2 => ?_)
    refine zv_if_ne X (y := 0) (tgt := 19) d_Quern_takeWash_14 (by decide) (fun h14 => ?_) (fun h14 => ?_)
    · refine zv_aload_n X d_Quern_takeWash_19 rfl 0 rfl ?_
      refine zv_get X (ci := 5) rfl i_Quern (zq_0 hN hv0) 9 (by decide) lk_Quern_35 rfl rfl d_Quern_takeWash_20 ?_
      refine zv_iload_n X d_Quern_takeWash_23 rfl 1 rfl ?_
      refine zv_iload_n X d_Quern_takeWash_24 rfl 2 rfl ?_
      refine zv_iastC X (zq_28 hN hv0) d_Quern_takeWash_25 (fun ha25 hb25 D3 => ?_)
      refine zv_iconst X d_Quern_takeWash_26 ?_
      exact zv_zretMK X (Or.inr rfl) d_Quern_takeWash_27
    · refine zv_iconst X d_Quern_takeWash_17 ?_
      exact zv_zretMK X (Or.inl rfl) d_Quern_takeWash_18
set_option maxRecDepth 100000 in
theorem c_Quern_takeHours (l : Launch) {Z : Zt} (hZ : Zok Z) (hN : 143 ≤ Z.2.2.2.1) (v0 v1 v2 v3 : Int) (hv0 : isQ v0) (D : Mm) : CtM l Z y_Quern_takeHours prog_6_method_12_code 4 (some .boolean) rm_Quern_takeHours 1 [zr Z v0, zi v1, zi v2, zi v3] D (f_Quern_takeHours v0 v1 v2 v3 D) := by
  refine zm_M (lv := [(0, zr Z v0), (1, zi v1), (2, zi v2), (3, zi v3)]) hZ (by decide +kernel) rfl (Nat.le_of_ble_eq_true rfl) rfl (fun Γ hl X => ?_)
  subst hl
  unfold f_Quern_takeHours
  refine zv_iload_n X d_Quern_takeHours_0 rfl 1 rfl ?_
  refine zv_cSP1 X (av := [zi v1]) (st := []) (c_Quern_isStep Γ.2.1 X.2.2.2.2.2.2.2.1 hN v1 D) mk_Quern_100 ⟨rfl, rfl, Nat.le_of_ble_eq_true rfl, Nat.le_of_ble_eq_true rfl⟩ rfl (Nat.le_of_ble_eq_true rfl) d_Quern_takeHours_1 (fun r1 hr1 => ?_)
  refine zv_if_eq X (y := 0) (tgt := 26) d_Quern_takeHours_4 (by decide) (fun h4 => ?_) (fun h4 => ?_)
  · refine zv_iconst X d_Quern_takeHours_26 ?_
    exact zv_zretMK X (Or.inl rfl) d_Quern_takeHours_27
  · refine zv_iload_n X d_Quern_takeHours_7 rfl 2 rfl ?_
    refine zv_iconst X d_Quern_takeHours_8 ?_
    refine zv_bipush X d_Quern_takeHours_9 (by decide +kernel) ?_
    refine zv_cNP1 X (av := [zi v2, zi 0, zi 99]) (st := []) (c_Main_within Γ.2.1 X.2.2.2.2.2.2.2.1 hN v2 0 99 D) mk_Quern_90 ⟨rfl, rfl, Nat.le_of_ble_eq_true rfl, Nat.le_of_ble_eq_true rfl⟩ rfl (Nat.le_of_ble_eq_true rfl) d_Quern_takeHours_11 (fun r2 hr2 => ?_)
    refine zv_if_eq X (y := 0) (tgt := 26) d_Quern_takeHours_14 (by decide) (fun h14 => ?_) (fun h14 => ?_)
    · refine zv_iconst X d_Quern_takeHours_26 ?_
      exact zv_zretMK X (Or.inl rfl) d_Quern_takeHours_27
    · refine zv_iload_n X d_Quern_takeHours_17 rfl 3 rfl ?_
      refine zv_iconst X d_Quern_takeHours_18 ?_
      refine zv_iconst X d_Quern_takeHours_19 ?_
      refine zv_cNP1 X (av := [zi v3, zi 0, zi 1]) (st := []) (c_Main_within Γ.2.1 X.2.2.2.2.2.2.2.1 hN v3 0 1 D) mk_Quern_90 ⟨rfl, rfl, Nat.le_of_ble_eq_true rfl, Nat.le_of_ble_eq_true rfl⟩ rfl (Nat.le_of_ble_eq_true rfl) d_Quern_takeHours_20 (fun r3 hr3 => ?_)
      refine zv_if_ne X (y := 0) (tgt := 28) d_Quern_takeHours_23 (by decide) (fun h23 => ?_) (fun h23 => ?_)
      · refine zv_aload_n X d_Quern_takeHours_28 rfl 0 rfl ?_
        refine zv_get X (ci := 5) rfl i_Quern (zq_0 hN hv0) 10 (by decide) lk_Quern_38 rfl rfl d_Quern_takeHours_29 ?_
        refine zv_iload_n X d_Quern_takeHours_32 rfl 1 rfl ?_
        refine zv_iload_n X d_Quern_takeHours_33 rfl 2 rfl ?_
        refine zv_iastC X (zq_29 hN hv0) d_Quern_takeHours_34 (fun ha34 hb34 D4 => ?_)
        refine zv_aload_n X d_Quern_takeHours_35 rfl 0 rfl ?_
        refine zv_aload_n X d_Quern_takeHours_36 rfl 0 rfl ?_
        refine zv_get X (ci := 5) rfl i_Quern (zq_0 hN hv0) 11 (by decide) lk_Quern_51 rfl rfl d_Quern_takeHours_37 ?_
        refine zv_iconst X d_Quern_takeHours_40 ?_
        refine zv_iload_n X d_Quern_takeHours_41 rfl 1 rfl ?_
        refine zv_ishl X d_Quern_takeHours_42 ?_
        refine zv_iconst X d_Quern_takeHours_43 ?_
        refine zv_ixor X d_Quern_takeHours_44 ?_
        refine zv_iand X d_Quern_takeHours_45 ?_
        refine zv_iload_n X d_Quern_takeHours_46 rfl 3 rfl ?_
        refine zv_iload_n X d_Quern_takeHours_47 rfl 1 rfl ?_
        refine zv_ishl X d_Quern_takeHours_48 ?_
        refine zv_ior X d_Quern_takeHours_49 ?_
        refine zv_putC X (ci := 5) rfl i_Quern t_Quern t_Quern_ok n_Quern (zq_0 hN hv0) 11 rfl (by decide) lk_Quern_51 rfl rfl (ps_5_11 ..) (Nat.le_of_ble_eq_true rfl) rfl rfl d_Quern_takeHours_50 (fun D5 => ?_)
        refine zv_iconst X d_Quern_takeHours_53 ?_
        exact zv_zretMK X (Or.inr rfl) d_Quern_takeHours_54
      · refine zv_iconst X d_Quern_takeHours_26 ?_
        exact zv_zretMK X (Or.inl rfl) d_Quern_takeHours_27
set_option maxRecDepth 100000 in
theorem v_Quern_takeSlip_48 {Γ : Gt} {Z : Zt} (X : Cx Γ Z prog_6_method_13_code R_Quern 6 (some .boolean) rm_Quern_takeSlip) (hN : 143 ≤ Z.2.2.2.1) (v0 v1 v2 v3 : Int) (hv0 : isQ v0)  (D : Mm)  : ∀ (n : Nat) (v4 v5 : Int) , Zv Γ Z 6 (QfM Γ Z 1) (f_Quern_takeSlip_48 v0 v1 v2 v3 D n v4 v5) D 48 [(0, zr Z v0), (1, zi v1), (2, zi v2), (3, zi v3), (4, zi v4), (5, zi v5)] [] := by
  intro n
  induction n with
  | zero =>
    intro v4 v5
    exact zv_none
  | succ n ih =>
    intro v4 v5
    rw [f_Quern_takeSlip_48]
    refine zv_iload X d_Quern_takeSlip_48 5 rfl ?_
    refine zv_aload_n X d_Quern_takeSlip_50 rfl 0 rfl ?_
    refine zv_get X (ci := 5) rfl i_Quern (zq_0 hN hv0) 0 (by decide) lk_Quern_44 rfl rfl d_Quern_takeSlip_51 ?_
    refine zv_icmp_ge X (tgt := 77) d_Quern_takeSlip_54 (by decide) (fun h54 => ?_) (fun h54 => ?_)
    · refine zv_iload X d_Quern_takeSlip_77 4 rfl ?_
      refine zv_bipush X d_Quern_takeSlip_79 (by decide +kernel) ?_
      refine zv_icmp_le X (tgt := 86) d_Quern_takeSlip_81 (by decide) (fun h81 => ?_) (fun h81 => ?_)
      · refine zv_aload_n X d_Quern_takeSlip_86 rfl 0 rfl ?_
        refine zv_get X (ci := 5) rfl i_Quern (zq_0 hN hv0) 12 (by decide) lk_Quern_41 rfl rfl d_Quern_takeSlip_87 ?_
        refine zv_iload_n X d_Quern_takeSlip_90 rfl 1 rfl ?_
        refine zv_aald X (v0 + 31 + v1) (zq_30 hN hv0) d_Quern_takeSlip_91 (by omega) (fun ha91 hb91 => ?_)
        refine zv_iload_n X d_Quern_takeSlip_92 rfl 2 rfl ?_
        refine zv_iload_n X d_Quern_takeSlip_93 rfl 3 rfl ?_
        refine zv_iastC X (zq_30r hN hv0 ha91 hb91) d_Quern_takeSlip_94 (fun ha94 hb94 D1 => ?_)
        refine zv_iconst X d_Quern_takeSlip_95 ?_
        exact zv_zretMK X (Or.inr rfl) d_Quern_takeSlip_96
      · refine zv_iconst X d_Quern_takeSlip_84 ?_
        exact zv_zretMK X (Or.inl rfl) d_Quern_takeSlip_85
    · refine zv_iload X d_Quern_takeSlip_57 4 rfl ?_
      refine zv_aload_n X d_Quern_takeSlip_59 rfl 0 rfl ?_
      refine zv_get X (ci := 5) rfl i_Quern (zq_0 hN hv0) 12 (by decide) lk_Quern_41 rfl rfl d_Quern_takeSlip_60 ?_
      refine zv_iload_n X d_Quern_takeSlip_63 rfl 1 rfl ?_
      refine zv_aald X (v0 + 31 + v1) (zq_30 hN hv0) d_Quern_takeSlip_64 (by omega) (fun ha64 hb64 => ?_)
      refine zv_iload X d_Quern_takeSlip_65 5 rfl ?_
      refine zv_iald X (zq_30r hN hv0 ha64 hb64) d_Quern_takeSlip_67 (fun ha67 hb67 => ?_)
      refine zv_iadd X d_Quern_takeSlip_68 ?_
      refine zv_istore X (lv2 := [(4, zi (v4 + (D (v0 + 31 + v1) v5))), (0, zr Z v0), (1, zi v1), (2, zi v2), (3, zi v3), (5, zi v5)]) d_Quern_takeSlip_69 (by decide) rfl ?_
      refine zv_iinc X (lv2 := [(5, zi (v5 + 1)), (4, zi (v4 + (D (v0 + 31 + v1) v5))), (0, zr Z v0), (1, zi v1), (2, zi v2), (3, zi v3)]) d_Quern_takeSlip_71 5 rfl (by decide) rfl ?_
      refine zv_goto X (tgt := 48) d_Quern_takeSlip_74 (by decide) ?_
      refine zv_sub X [2, 3, 4, 5, 1, 0] rfl ?_
      exact ih (v4 + (D (v0 + 31 + v1) v5)) (v5 + 1)
set_option maxRecDepth 100000 in
theorem c_Quern_takeSlip (l : Launch) {Z : Zt} (hZ : Zok Z) (hN : 143 ≤ Z.2.2.2.1) (v0 v1 v2 v3 : Int) (hv0 : isQ v0) (D : Mm) : CtM l Z y_Quern_takeSlip prog_6_method_13_code 6 (some .boolean) rm_Quern_takeSlip 1 [zr Z v0, zi v1, zi v2, zi v3] D (f_Quern_takeSlip v0 v1 v2 v3 D) := by
  refine zm_M (lv := [(0, zr Z v0), (1, zi v1), (2, zi v2), (3, zi v3)]) hZ (by decide +kernel) rfl (Nat.le_of_ble_eq_true rfl) rfl (fun Γ hl X => ?_)
  subst hl
  unfold f_Quern_takeSlip
  refine zv_aload_n X d_Quern_takeSlip_0 rfl 0 rfl ?_
  refine zv_iload_n X d_Quern_takeSlip_1 rfl 1 rfl ?_
  refine zv_cVP1 X (av := [zi v1]) (st := []) (ci := 5) (c_Quern_hasSort Γ.2.1 X.2.2.2.2.2.2.2.1 hN v0 v1 hv0 D) mk_Quern_97 rfl (zq_0 hN hv0) ⟨rfl, rfl, Nat.le_of_ble_eq_true rfl, Nat.le_of_ble_eq_true rfl⟩ rfl (Nat.le_of_ble_eq_true rfl) d_Quern_takeSlip_2 (fun r1 hr1 => ?_)
  refine zv_if_eq X (y := 0) (tgt := 31) d_Quern_takeSlip_5 (by decide) (fun h5 => ?_) (fun h5 => ?_)
  · refine zv_iconst X d_Quern_takeSlip_31 ?_
    exact zv_zretMK X (Or.inl rfl) d_Quern_takeSlip_32
  · refine zv_aload_n X d_Quern_takeSlip_8 rfl 0 rfl ?_
    refine zv_iload_n X d_Quern_takeSlip_9 rfl 2 rfl ?_
    refine zv_cVP1 X (av := [zi v2]) (st := []) (ci := 5) (c_Quern_hasSort Γ.2.1 X.2.2.2.2.2.2.2.1 hN v0 v2 hv0 D) mk_Quern_97 rfl (zq_0 hN hv0) ⟨rfl, rfl, Nat.le_of_ble_eq_true rfl, Nat.le_of_ble_eq_true rfl⟩ rfl (Nat.le_of_ble_eq_true rfl) d_Quern_takeSlip_10 (fun r2 hr2 => ?_)
    refine zv_if_eq X (y := 0) (tgt := 31) d_Quern_takeSlip_13 (by decide) (fun h13 => ?_) (fun h13 => ?_)
    · refine zv_iconst X d_Quern_takeSlip_31 ?_
      exact zv_zretMK X (Or.inl rfl) d_Quern_takeSlip_32
    · refine zv_iload_n X d_Quern_takeSlip_16 rfl 1 rfl ?_
      refine zv_iload_n X d_Quern_takeSlip_17 rfl 2 rfl ?_
      refine zv_icmp_eq X (tgt := 31) d_Quern_takeSlip_18 (by decide) (fun h18 => ?_) (fun h18 => ?_)
      · refine zv_iconst X d_Quern_takeSlip_31 ?_
        exact zv_zretMK X (Or.inl rfl) d_Quern_takeSlip_32
      · refine zv_iload_n X d_Quern_takeSlip_21 rfl 3 rfl ?_
        refine zv_iconst X d_Quern_takeSlip_22 ?_
        refine zv_bipush X d_Quern_takeSlip_23 (by decide +kernel) ?_
        refine zv_cNP1 X (av := [zi v3, zi 0, zi 99]) (st := []) (c_Main_within Γ.2.1 X.2.2.2.2.2.2.2.1 hN v3 0 99 D) mk_Quern_90 ⟨rfl, rfl, Nat.le_of_ble_eq_true rfl, Nat.le_of_ble_eq_true rfl⟩ rfl (Nat.le_of_ble_eq_true rfl) d_Quern_takeSlip_25 (fun r3 hr3 => ?_)
        refine zv_if_ne X (y := 0) (tgt := 33) d_Quern_takeSlip_28 (by decide) (fun h28 => ?_) (fun h28 => ?_)
        · refine zv_iload_n X d_Quern_takeSlip_33 rfl 3 rfl ?_
          refine zv_aload_n X d_Quern_takeSlip_34 rfl 0 rfl ?_
          refine zv_get X (ci := 5) rfl i_Quern (zq_0 hN hv0) 12 (by decide) lk_Quern_41 rfl rfl d_Quern_takeSlip_35 ?_
          refine zv_iload_n X d_Quern_takeSlip_38 rfl 1 rfl ?_
          refine zv_aald X (v0 + 31 + v1) (zq_30 hN hv0) d_Quern_takeSlip_39 (by omega) (fun ha39 hb39 => ?_)
          refine zv_iload_n X d_Quern_takeSlip_40 rfl 2 rfl ?_
          refine zv_iald X (zq_30r hN hv0 ha39 hb39) d_Quern_takeSlip_41 (fun ha41 hb41 => ?_)
          refine zv_isub X d_Quern_takeSlip_42 ?_
          refine zv_istore X (lv2 := [(4, zi (v3 - (D (v0 + 31 + v1) v2))), (0, zr Z v0), (1, zi v1), (2, zi v2), (3, zi v3)]) d_Quern_takeSlip_43 (by decide) rfl ?_
          refine zv_iconst X d_Quern_takeSlip_45 ?_
          refine zv_istore X (lv2 := [(5, zi 0), (4, zi (v3 - (D (v0 + 31 + v1) v2))), (0, zr Z v0), (1, zi v1), (2, zi v2), (3, zi v3)]) d_Quern_takeSlip_46 (by decide) rfl ?_
          refine zv_sub X [2, 3, 4, 5, 1, 0] rfl ?_
          exact v_Quern_takeSlip_48 X hN v0 v1 v2 v3 hv0 D zF (v3 - (D (v0 + 31 + v1) v2)) 0
        · refine zv_iconst X d_Quern_takeSlip_31 ?_
          exact zv_zretMK X (Or.inl rfl) d_Quern_takeSlip_32
set_option maxRecDepth 100000 in
theorem c_Quern_take (l : Launch) {Z : Zt} (hZ : Zok Z) (hN : 143 ≤ Z.2.2.2.1) (v0 v1 v2 : Int) (hv0 : isQ v0) (hv2 : Zin Z v2 0 4) (D : Mm) : CtM l Z y_Quern_take prog_6_method_6_code 3 (some .boolean) rm_Quern_take 1 [zr Z v0, zi v1, zr Z v2] D (f_Quern_take v0 v1 v2 D) := by
  refine zm_M (lv := [(0, zr Z v0), (1, zi v1), (2, zr Z v2)]) hZ (by decide +kernel) rfl (Nat.le_of_ble_eq_true rfl) rfl (fun Γ hl X => ?_)
  subst hl
  unfold f_Quern_take
  refine zv_iload_n X d_Quern_take_0 rfl 1 rfl ?_
  refine zv_split (fun h1_98 => ?_) (fun h1_98 => ?_)
  · refine zv_tin X (tgt := 134) (off := 133) d_Quern_take_1 h1_98 (by decide +kernel) (by decide) ?_
    refine zv_aload_n X d_Quern_take_134 rfl 0 rfl ?_
    refine zv_aload_n X d_Quern_take_135 rfl 2 rfl ?_
    refine zv_iconst X d_Quern_take_136 ?_
    refine zv_ialdK X hv2 (by decide) (by decide) d_Quern_take_137 ?_
    refine zv_aload_n X d_Quern_take_138 rfl 2 rfl ?_
    refine zv_iconst X d_Quern_take_139 ?_
    refine zv_ialdK X hv2 (by decide) (by decide) d_Quern_take_140 ?_
    refine zv_aload_n X d_Quern_take_141 rfl 2 rfl ?_
    refine zv_iconst X d_Quern_take_142 ?_
    refine zv_ialdK X hv2 (by decide) (by decide) d_Quern_take_143 ?_
    refine zv_cVM1 X (av := [zi (D v2 0), zi (D v2 1), zi (D v2 2)]) (st := []) (ci := 5) (c_Quern_takeBook Γ.2.1 X.2.2.2.2.2.2.2.1 hN v0 (D v2 0) (D v2 1) (D v2 2) hv0 D) mk_Quern_71 rfl (zq_0 hN hv0) ⟨rfl, rfl, Nat.le_of_ble_eq_true rfl, Nat.le_of_ble_eq_true rfl⟩ rfl (Nat.le_of_ble_eq_true rfl) d_Quern_take_144 (fun r1 D2 hr1 => ?_)
    exact zv_zretM X d_Quern_take_147
  refine zv_split (fun h1_102 => ?_) (fun h1_102 => ?_)
  · refine zv_tin X (tgt := 114) (off := 113) d_Quern_take_1 h1_102 (by decide +kernel) (by decide) ?_
    refine zv_aload_n X d_Quern_take_114 rfl 0 rfl ?_
    refine zv_aload_n X d_Quern_take_115 rfl 2 rfl ?_
    refine zv_cVM1 X (av := [zr Z v2]) (st := []) (ci := 5) (c_Quern_takePatch Γ.2.1 X.2.2.2.2.2.2.2.1 hN v0 v2 hv0 hv2 D) mk_Quern_64 rfl (zq_0 hN hv0) ⟨rfl, rfl, Nat.le_of_ble_eq_true rfl, Nat.le_of_ble_eq_true rfl⟩ rfl (Nat.le_of_ble_eq_true rfl) d_Quern_take_116 (fun r3 D4 hr3 => ?_)
    exact zv_zretM X d_Quern_take_119
  refine zv_split (fun h1_103 => ?_) (fun h1_103 => ?_)
  · refine zv_tin X (tgt := 108) (off := 107) d_Quern_take_1 h1_103 (by decide +kernel) (by decide) ?_
    refine zv_aload_n X d_Quern_take_108 rfl 0 rfl ?_
    refine zv_aload_n X d_Quern_take_109 rfl 2 rfl ?_
    refine zv_cVM1 X (av := [zr Z v2]) (st := []) (ci := 5) (c_Quern_takeSort Γ.2.1 X.2.2.2.2.2.2.2.1 hN v0 v2 hv0 hv2 D) mk_Quern_60 rfl (zq_0 hN hv0) ⟨rfl, rfl, Nat.le_of_ble_eq_true rfl, Nat.le_of_ble_eq_true rfl⟩ rfl (Nat.le_of_ble_eq_true rfl) d_Quern_take_110 (fun r5 D6 hr5 => ?_)
    exact zv_zretM X d_Quern_take_113
  refine zv_split (fun h1_116 => ?_) (fun h1_116 => ?_)
  · refine zv_tin X (tgt := 159) (off := 158) d_Quern_take_1 h1_116 (by decide +kernel) (by decide) ?_
    refine zv_aload_n X d_Quern_take_159 rfl 0 rfl ?_
    refine zv_aload_n X d_Quern_take_160 rfl 2 rfl ?_
    refine zv_iconst X d_Quern_take_161 ?_
    refine zv_ialdK X hv2 (by decide) (by decide) d_Quern_take_162 ?_
    refine zv_aload_n X d_Quern_take_163 rfl 2 rfl ?_
    refine zv_iconst X d_Quern_take_164 ?_
    refine zv_ialdK X hv2 (by decide) (by decide) d_Quern_take_165 ?_
    refine zv_aload_n X d_Quern_take_166 rfl 2 rfl ?_
    refine zv_iconst X d_Quern_take_167 ?_
    refine zv_ialdK X hv2 (by decide) (by decide) d_Quern_take_168 ?_
    refine zv_cVM1 X (av := [zi (D v2 0), zi (D v2 1), zi (D v2 2)]) (st := []) (ci := 5) (c_Quern_takeHours Γ.2.1 X.2.2.2.2.2.2.2.1 hN v0 (D v2 0) (D v2 1) (D v2 2) hv0 D) mk_Quern_78 rfl (zq_0 hN hv0) ⟨rfl, rfl, Nat.le_of_ble_eq_true rfl, Nat.le_of_ble_eq_true rfl⟩ rfl (Nat.le_of_ble_eq_true rfl) d_Quern_take_169 (fun r7 D8 hr7 => ?_)
    exact zv_zretM X d_Quern_take_172
  refine zv_split (fun h1_117 => ?_) (fun h1_117 => ?_)
  · refine zv_tin X (tgt := 120) (off := 119) d_Quern_take_1 h1_117 (by decide +kernel) (by decide) ?_
    refine zv_aload_n X d_Quern_take_120 rfl 0 rfl ?_
    refine zv_aload_n X d_Quern_take_121 rfl 2 rfl ?_
    refine zv_iconst X d_Quern_take_122 ?_
    refine zv_ialdK X hv2 (by decide) (by decide) d_Quern_take_123 ?_
    refine zv_aload_n X d_Quern_take_124 rfl 2 rfl ?_
    refine zv_iconst X d_Quern_take_125 ?_
    refine zv_ialdK X hv2 (by decide) (by decide) d_Quern_take_126 ?_
    refine zv_aload_n X d_Quern_take_127 rfl 2 rfl ?_
    refine zv_iconst X d_Quern_take_128 ?_
    refine zv_ialdK X hv2 (by decide) (by decide) d_Quern_take_129 ?_
    refine zv_cVM1 X (av := [zi (D v2 0), zi (D v2 1), zi (D v2 2)]) (st := []) (ci := 5) (c_Quern_takeUse Γ.2.1 X.2.2.2.2.2.2.2.1 hN v0 (D v2 0) (D v2 1) (D v2 2) hv0 D) mk_Quern_67 rfl (zq_0 hN hv0) ⟨rfl, rfl, Nat.le_of_ble_eq_true rfl, Nat.le_of_ble_eq_true rfl⟩ rfl (Nat.le_of_ble_eq_true rfl) d_Quern_take_130 (fun r9 D10 hr9 => ?_)
    exact zv_zretM X d_Quern_take_133
  refine zv_split (fun h1_119 => ?_) (fun h1_119 => ?_)
  · refine zv_tin X (tgt := 148) (off := 147) d_Quern_take_1 h1_119 (by decide +kernel) (by decide) ?_
    refine zv_aload_n X d_Quern_take_148 rfl 0 rfl ?_
    refine zv_aload_n X d_Quern_take_149 rfl 2 rfl ?_
    refine zv_iconst X d_Quern_take_150 ?_
    refine zv_ialdK X hv2 (by decide) (by decide) d_Quern_take_151 ?_
    refine zv_aload_n X d_Quern_take_152 rfl 2 rfl ?_
    refine zv_iconst X d_Quern_take_153 ?_
    refine zv_ialdK X hv2 (by decide) (by decide) d_Quern_take_154 ?_
    refine zv_cVM1 X (av := [zi (D v2 0), zi (D v2 1)]) (st := []) (ci := 5) (c_Quern_takeWash Γ.2.1 X.2.2.2.2.2.2.2.1 hN v0 (D v2 0) (D v2 1) hv0 D) mk_Quern_74 rfl (zq_0 hN hv0) ⟨rfl, rfl, Nat.le_of_ble_eq_true rfl, Nat.le_of_ble_eq_true rfl⟩ rfl (Nat.le_of_ble_eq_true rfl) d_Quern_take_155 (fun r11 D12 hr11 => ?_)
    exact zv_zretM X d_Quern_take_158
  refine zv_split (fun h1_120 => ?_) (fun h1_120 => ?_)
  · refine zv_tin X (tgt := 173) (off := 172) d_Quern_take_1 h1_120 (by decide +kernel) (by decide) ?_
    refine zv_aload_n X d_Quern_take_173 rfl 0 rfl ?_
    refine zv_aload_n X d_Quern_take_174 rfl 2 rfl ?_
    refine zv_iconst X d_Quern_take_175 ?_
    refine zv_ialdK X hv2 (by decide) (by decide) d_Quern_take_176 ?_
    refine zv_aload_n X d_Quern_take_177 rfl 2 rfl ?_
    refine zv_iconst X d_Quern_take_178 ?_
    refine zv_ialdK X hv2 (by decide) (by decide) d_Quern_take_179 ?_
    refine zv_aload_n X d_Quern_take_180 rfl 2 rfl ?_
    refine zv_iconst X d_Quern_take_181 ?_
    refine zv_ialdK X hv2 (by decide) (by decide) d_Quern_take_182 ?_
    refine zv_cVM1 X (av := [zi (D v2 0), zi (D v2 1), zi (D v2 2)]) (st := []) (ci := 5) (c_Quern_takeSlip Γ.2.1 X.2.2.2.2.2.2.2.1 hN v0 (D v2 0) (D v2 1) (D v2 2) hv0 D) mk_Quern_81 rfl (zq_0 hN hv0) ⟨rfl, rfl, Nat.le_of_ble_eq_true rfl, Nat.le_of_ble_eq_true rfl⟩ rfl (Nat.le_of_ble_eq_true rfl) d_Quern_take_183 (fun r13 D14 hr13 => ?_)
    exact zv_zretM X d_Quern_take_186
  refine zv_tdef X (tgt := 187) d_Quern_take_1 (zt_def (cs := [98, 102, 103, 116, 117, 119, 120]) (by decide +kernel) (by decide) (List.forall_mem_cons.mpr ⟨zI_nek h1_98 (by decide +kernel), List.forall_mem_cons.mpr ⟨zI_nek h1_102 (by decide +kernel), List.forall_mem_cons.mpr ⟨zI_nek h1_103 (by decide +kernel), List.forall_mem_cons.mpr ⟨zI_nek h1_116 (by decide +kernel), List.forall_mem_cons.mpr ⟨zI_nek h1_117 (by decide +kernel), List.forall_mem_cons.mpr ⟨zI_nek h1_119 (by decide +kernel), List.forall_mem_cons.mpr ⟨zI_nek h1_120 (by decide +kernel), List.forall_mem_nil _⟩⟩⟩⟩⟩⟩⟩)) (by decide) ?_
  refine zv_iconst X d_Quern_take_187 ?_
  exact zv_zretMK X (Or.inl rfl) d_Quern_take_188
set_option maxRecDepth 100000 in
theorem v_Scribe_placeOfFault_9 {Γ : Gt} {Z : Zt} (X : Cx Γ Z prog_7_method_2_code R_Scribe 6 (some .int) rm_Scribe_placeOfFault) (hN : 143 ≤ Z.2.2.2.1) (v2 : Int) (hv2 : isQ v2)   : ∀ (n : Nat) (v3 v4 : Int) (D : Mm), Zv Γ Z 6 (QfM Γ Z 1) (f_Scribe_placeOfFault_9 v2 n v3 v4 D) D 9 [(0, zr Z 4), (1, zr Z 2), (2, zr Z v2), (3, zi v3), (4, zi v4)] [] := by
  intro n
  induction n with
  | zero =>
    intro v3 v4 D
    exact zv_none
  | succ n ih =>
    intro v3 v4 D
    rw [f_Scribe_placeOfFault_9]
    refine zv_iload X d_Scribe_placeOfFault_9 4 rfl ?_
    refine zv_sipush X d_Scribe_placeOfFault_11 (by decide +kernel) ?_
    refine zv_icmp_ge X (tgt := 66) d_Scribe_placeOfFault_14 (by decide) (fun h14 => ?_) (fun h14 => ?_)
    · refine zv_bipush X d_Scribe_placeOfFault_66 (by decide +kernel) ?_
      exact zv_iretM X d_Scribe_placeOfFault_68
    · refine zv_iload_n X d_Scribe_placeOfFault_17 rfl 3 rfl ?_
      refine zv_aload_n X d_Scribe_placeOfFault_18 rfl 1 rfl ?_
      refine zv_get X (ci := 0) rfl i_Text (za_2 hN) 1 (by decide) lk_Scribe_20 rfl rfl d_Scribe_placeOfFault_19 ?_
      refine zv_icmp_ge X (tgt := 66) d_Scribe_placeOfFault_22 (by decide) (fun h22 => ?_) (fun h22 => ?_)
      · refine zv_bipush X d_Scribe_placeOfFault_66 (by decide +kernel) ?_
        exact zv_iretM X d_Scribe_placeOfFault_68
      · refine zv_aload_n X d_Scribe_placeOfFault_25 rfl 0 rfl ?_
        refine zv_aload_n X d_Scribe_placeOfFault_26 rfl 1 rfl ?_
        refine zv_iload_n X d_Scribe_placeOfFault_27 rfl 3 rfl ?_
        refine zv_cVM1 X (av := [zr Z 2, zi v3]) (st := []) (ci := 1) (c_Scribe_placeBehindItem Γ.2.1 X.2.2.2.2.2.2.2.1 hN v3 D) mk_Scribe_26 rfl (za_4 hN) ⟨rfl, rfl, Nat.le_of_ble_eq_true rfl, Nat.le_of_ble_eq_true rfl⟩ rfl (Nat.le_of_ble_eq_true rfl) d_Scribe_placeOfFault_28 (fun r1 D2 hr1 => ?_)
        refine zv_istore X (lv2 := [(5, zi r1), (0, zr Z 4), (1, zr Z 2), (2, zr Z v2), (3, zi v3), (4, zi v4)]) d_Scribe_placeOfFault_31 (by decide) rfl ?_
        refine zv_iload X d_Scribe_placeOfFault_33 0 rfl ?_
        refine zv_iconst X d_Scribe_placeOfFault_35 ?_
        refine zv_icmp_eq X (tgt := 55) d_Scribe_placeOfFault_36 (by decide) (fun h36 => ?_) (fun h36 => ?_)
        · refine zv_iload_n X d_Scribe_placeOfFault_55 rfl 4 rfl ?_
          exact zv_iretM X d_Scribe_placeOfFault_56
        · refine zv_aload_n X d_Scribe_placeOfFault_39 rfl 3 rfl ?_
          refine zv_aload_n X d_Scribe_placeOfFault_40 rfl 2 rfl ?_
          refine zv_iload_n X d_Scribe_placeOfFault_41 rfl 4 rfl ?_
          refine zv_cVP1 X (av := [zi v3]) (st := [zr Z v2]) (ci := 0) (c_Text_at Γ.2.1 X.2.2.2.2.2.2.2.1 hN v3 D2) mk_Scribe_30 rfl (za_2 hN) ⟨rfl, rfl, Nat.le_of_ble_eq_true rfl, Nat.le_of_ble_eq_true rfl⟩ rfl (Nat.le_of_ble_eq_true rfl) d_Scribe_placeOfFault_42 (fun r3 hr3 => ?_)
          refine zv_aload_n X d_Scribe_placeOfFault_45 rfl 1 rfl ?_
          refine zv_get X (ci := 1) rfl i_Scribe (za_4 hN) 0 (by decide) lk_Scribe_9 rfl rfl d_Scribe_placeOfFault_46 ?_
          refine zv_cVM1 X (av := [zi r3, zr Z 5]) (st := []) (ci := 5) (c_Quern_take Γ.2.1 X.2.2.2.2.2.2.2.1 hN v2 r3 5 hv2 (za_5 hN) D2) mk_Scribe_34 rfl (zq_0 hN hv2) ⟨rfl, rfl, Nat.le_of_ble_eq_true rfl, Nat.le_of_ble_eq_true rfl⟩ rfl (Nat.le_of_ble_eq_true rfl) d_Scribe_placeOfFault_49 (fun r4 D5 hr4 => ?_)
          refine zv_if_ne X (y := 0) (tgt := 57) d_Scribe_placeOfFault_52 (by decide) (fun h52 => ?_) (fun h52 => ?_)
          · refine zv_iload X d_Scribe_placeOfFault_57 0 rfl ?_
            refine zv_istore_n X (lv2 := [(3, zi r1), (5, zi r1), (0, zr Z 4), (1, zr Z 2), (2, zr Z v2), (4, zi v4)]) d_Scribe_placeOfFault_59 rfl (by decide) rfl ?_
            refine zv_iinc X (lv2 := [(4, zi (v4 + 1)), (3, zi r1), (5, zi r1), (0, zr Z 4), (1, zr Z 2), (2, zr Z v2)]) d_Scribe_placeOfFault_60 5 rfl (by decide) rfl ?_
            refine zv_goto X (tgt := 9) d_Scribe_placeOfFault_63 (by decide) ?_
            refine zv_sub X [3, 4, 5, 1, 0] rfl ?_
            exact ih r1 (v4 + 1) D5
          · refine zv_iload_n X d_Scribe_placeOfFault_55 rfl 4 rfl ?_
            exact zv_iretM X d_Scribe_placeOfFault_56
set_option maxRecDepth 100000 in
theorem c_Scribe_placeOfFault (l : Launch) {Z : Zt} (hZ : Zok Z) (hN : 143 ≤ Z.2.2.2.1) (v2 : Int) (hv2 : isQ v2) (D : Mm) : CtM l Z y_Scribe_placeOfFault prog_7_method_2_code 6 (some .int) rm_Scribe_placeOfFault 1 [zr Z 4, zr Z 2, zr Z v2] D (f_Scribe_placeOfFault v2 D) := by
  refine zm_M (lv := [(0, zr Z 4), (1, zr Z 2), (2, zr Z v2)]) hZ (by decide +kernel) rfl (Nat.le_of_ble_eq_true rfl) rfl (fun Γ hl X => ?_)
  subst hl
  unfold f_Scribe_placeOfFault
  refine zv_aload_n X d_Scribe_placeOfFault_0 rfl 2 rfl ?_
  refine zv_cVM0 X (av := []) (st := []) (ci := 5) (c_Quern_clear Γ.2.1 X.2.2.2.2.2.2.2.1 hN v2 hv2 D) mk_Scribe_15 rfl (zq_0 hN hv2) ⟨rfl, rfl, Nat.le_of_ble_eq_true rfl, Nat.le_of_ble_eq_true rfl⟩ rfl (Nat.le_of_ble_eq_true rfl) d_Scribe_placeOfFault_1 (fun _ D2 hr1 => ?_)
  refine zv_iconst X d_Scribe_placeOfFault_4 ?_
  refine zv_istore_n X (lv2 := [(3, zi 0), (0, zr Z 4), (1, zr Z 2), (2, zr Z v2)]) d_Scribe_placeOfFault_5 rfl (by decide) rfl ?_
  refine zv_iconst X d_Scribe_placeOfFault_6 ?_
  refine zv_istore X (lv2 := [(4, zi 0), (3, zi 0), (0, zr Z 4), (1, zr Z 2), (2, zr Z v2)]) d_Scribe_placeOfFault_7 (by decide) rfl ?_
  refine zv_sub X [2, 3, 4, 1, 0] rfl ?_
  exact v_Scribe_placeOfFault_9 X hN v2 hv2 zF 0 0 D2
set_option maxRecDepth 100000 in
theorem c_Main_fault (l : Launch) {Z : Zt} (hZ : Zok Z) (hN : 143 ≤ Z.2.2.2.1)  (D : Mm) : CtM l Z y_Main_fault prog_1_method_4_code 1 (some .int) rm_Main_fault 1 [zr Z 1] D (f_Main_fault D) := by
  refine zm_M (lv := [(0, zr Z 1)]) hZ (by decide +kernel) rfl (Nat.le_of_ble_eq_true rfl) rfl (fun Γ hl X => ?_)
  subst hl
  unfold f_Main_fault
  refine zv_aload_n X d_Main_fault_0 rfl 0 rfl ?_
  refine zv_get X (ci := 6) rfl i_Main (za_1 hN) 1 (by decide) lk_Main_19 rfl rfl d_Main_fault_1 ?_
  refine zv_aload_n X d_Main_fault_4 rfl 0 rfl ?_
  refine zv_get X (ci := 6) rfl i_Main (za_1 hN) 0 (by decide) lk_Main_10 rfl rfl d_Main_fault_5 ?_
  refine zv_aload_n X d_Main_fault_8 rfl 0 rfl ?_
  refine zv_guard (fun hq9 => ?_)
  refine zv_get X (ci := 6) rfl i_Main (za_1 hN) 8 (by decide) lk_Main_55 rfl rfl d_Main_fault_9 ?_
  refine zv_cVM1 X (av := [zr Z 2, zr Z (D 1 8)]) (st := []) (ci := 1) (c_Scribe_placeOfFault Γ.2.1 X.2.2.2.2.2.2.2.1 hN (D 1 8) hq9 D) mk_Main_76 rfl (za_4 hN) ⟨rfl, rfl, Nat.le_of_ble_eq_true rfl, Nat.le_of_ble_eq_true rfl⟩ rfl (Nat.le_of_ble_eq_true rfl) d_Main_fault_12 (fun r1 D2 hr1 => ?_)
  exact zv_iretM X d_Main_fault_15
set_option maxRecDepth 100000 in
theorem v_Finds_clear_26 {Γ : Gt} {Z : Zt} (X : Cx Γ Z prog_3_method_2_code R_Finds 2 none rm_Finds_clear) (hN : 143 ≤ Z.2.2.2.1) (v0 : Int) (hv0 : isF v0)   : ∀ (n : Nat) (v1 : Int) (D : Mm), Zv Γ Z 2 (QfM Γ Z 0) (f_Finds_clear_26 v0 n v1 D) D 26 [(0, zr Z v0), (1, zi v1)] [] := by
  intro n
  induction n with
  | zero =>
    intro v1 D
    exact zv_none
  | succ n ih =>
    intro v1 D
    rw [f_Finds_clear_26]
    refine zv_iload_n X d_Finds_clear_26 rfl 1 rfl ?_
    refine zv_bipush X d_Finds_clear_27 (by decide +kernel) ?_
    refine zv_icmp_ge X (tgt := 48) d_Finds_clear_29 (by decide) (fun h29 => ?_) (fun h29 => ?_)
    · refine zv_aload_n X d_Finds_clear_48 rfl 0 rfl ?_
      refine zv_iconst X d_Finds_clear_49 ?_
      refine zv_putC X (ci := 4) rfl i_Finds t_Finds t_Finds_ok n_Finds (zf_0 hN hv0) 2 rfl (by decide) lk_Finds_25 rfl rfl (ps_4_2 ..) (Nat.le_of_ble_eq_true rfl) rfl rfl d_Finds_clear_50 (fun D1 => ?_)
      refine zv_aload_n X d_Finds_clear_53 rfl 0 rfl ?_
      refine zv_iconst X d_Finds_clear_54 ?_
      refine zv_putC X (ci := 4) rfl i_Finds t_Finds t_Finds_ok n_Finds (zf_0 hN hv0) 3 rfl (by decide) lk_Finds_29 rfl rfl (ps_4_3 ..) (Nat.le_of_ble_eq_true rfl) rfl rfl d_Finds_clear_55 (fun D2 => ?_)
      refine zv_aload_n X d_Finds_clear_58 rfl 0 rfl ?_
      refine zv_iconst X d_Finds_clear_59 ?_
      refine zv_putC X (ci := 4) rfl i_Finds t_Finds t_Finds_ok n_Finds (zf_0 hN hv0) 4 rfl (by decide) lk_Finds_32 rfl rfl (ps_4_4 ..) (Nat.le_of_ble_eq_true rfl) rfl rfl d_Finds_clear_60 (fun D3 => ?_)
      exact zv_vretM X d_Finds_clear_63
    · refine zv_aload_n X d_Finds_clear_32 rfl 0 rfl ?_
      refine zv_get X (ci := 4) rfl i_Finds (zf_0 hN hv0) 1 (by decide) lk_Finds_16 rfl rfl d_Finds_clear_33 ?_
      refine zv_iload_n X d_Finds_clear_36 rfl 1 rfl ?_
      refine zv_aald X (v0 + 13 + v1) (zf_12 hN hv0) d_Finds_clear_37 (by omega) (fun ha37 hb37 => ?_)
      refine zv_iconst X d_Finds_clear_38 ?_
      refine zv_cSM0 X (av := [zr Z (v0 + 13 + v1), zi 0]) (st := []) (c_Arrays_fill Γ.2.1 X.2.2.2.2.2.2.2.1 (v0 + 13 + v1) 6 0 (zf_12r hN hv0 ha37 hb37) (by decide) D) mk_Finds_19 ⟨rfl, rfl, Nat.le_of_ble_eq_true rfl, Nat.le_of_ble_eq_true rfl⟩ rfl (Nat.le_of_ble_eq_true rfl) d_Finds_clear_39 (fun _ D5 hr4 => ?_)
      refine zv_iinc X (lv2 := [(1, zi (v1 + 1)), (0, zr Z v0)]) d_Finds_clear_42 1 rfl (by decide) rfl ?_
      refine zv_goto X (tgt := 26) d_Finds_clear_45 (by decide) ?_
      refine zv_sub X [1, 0] rfl ?_
      exact ih (v1 + 1) D5
set_option maxRecDepth 100000 in
theorem v_Finds_clear_2 {Γ : Gt} {Z : Zt} (X : Cx Γ Z prog_3_method_2_code R_Finds 2 none rm_Finds_clear) (hN : 143 ≤ Z.2.2.2.1) (v0 : Int) (hv0 : isF v0)   : ∀ (n : Nat) (v1 : Int) (D : Mm), Zv Γ Z 2 (QfM Γ Z 0) (f_Finds_clear_2 v0 n v1 D) D 2 [(0, zr Z v0), (1, zi v1)] [] := by
  intro n
  induction n with
  | zero =>
    intro v1 D
    exact zv_none
  | succ n ih =>
    intro v1 D
    rw [f_Finds_clear_2]
    refine zv_iload_n X d_Finds_clear_2 rfl 1 rfl ?_
    refine zv_bipush X d_Finds_clear_3 (by decide +kernel) ?_
    refine zv_icmp_ge X (tgt := 24) d_Finds_clear_5 (by decide) (fun h5 => ?_) (fun h5 => ?_)
    · refine zv_iconst X d_Finds_clear_24 ?_
      refine zv_istore_n X (lv2 := [(1, zi 0), (0, zr Z v0)]) d_Finds_clear_25 rfl (by decide) rfl ?_
      refine zv_sub X [1, 0] rfl ?_
      exact v_Finds_clear_26 X hN v0 hv0 zF 0 D
    · refine zv_aload_n X d_Finds_clear_8 rfl 0 rfl ?_
      refine zv_get X (ci := 4) rfl i_Finds (zf_0 hN hv0) 0 (by decide) lk_Finds_11 rfl rfl d_Finds_clear_9 ?_
      refine zv_iload_n X d_Finds_clear_12 rfl 1 rfl ?_
      refine zv_aald X (v0 + 2 + v1) (zf_1 hN hv0) d_Finds_clear_13 (by omega) (fun ha13 hb13 => ?_)
      refine zv_iconst X d_Finds_clear_14 ?_
      refine zv_cSM0 X (av := [zr Z (v0 + 2 + v1), zi 0]) (st := []) (c_Arrays_fill Γ.2.1 X.2.2.2.2.2.2.2.1 (v0 + 2 + v1) 6 0 (zf_1r hN hv0 ha13 hb13) (by decide) D) mk_Finds_19 ⟨rfl, rfl, Nat.le_of_ble_eq_true rfl, Nat.le_of_ble_eq_true rfl⟩ rfl (Nat.le_of_ble_eq_true rfl) d_Finds_clear_15 (fun _ D2 hr1 => ?_)
      refine zv_iinc X (lv2 := [(1, zi (v1 + 1)), (0, zr Z v0)]) d_Finds_clear_18 1 rfl (by decide) rfl ?_
      refine zv_goto X (tgt := 2) d_Finds_clear_21 (by decide) ?_
      refine zv_sub X [1, 0] rfl ?_
      exact ih (v1 + 1) D2
set_option maxRecDepth 100000 in
theorem c_Finds_clear (l : Launch) {Z : Zt} (hZ : Zok Z) (hN : 143 ≤ Z.2.2.2.1) (v0 : Int) (hv0 : isF v0) (D : Mm) : CtM l Z y_Finds_clear prog_3_method_2_code 2 none rm_Finds_clear 0 [zr Z v0] D (f_Finds_clear v0 D) := by
  refine zm_M (lv := [(0, zr Z v0)]) hZ (by decide +kernel) rfl (Nat.le_of_ble_eq_true rfl) rfl (fun Γ hl X => ?_)
  subst hl
  unfold f_Finds_clear
  refine zv_iconst X d_Finds_clear_0 ?_
  refine zv_istore_n X (lv2 := [(1, zi 0), (0, zr Z v0)]) d_Finds_clear_1 rfl (by decide) rfl ?_
  refine zv_sub X [1, 0] rfl ?_
  exact v_Finds_clear_2 X hN v0 hv0 zF 0 D
set_option maxRecDepth 100000 in
theorem c_Main_lay (l : Launch) {Z : Zt} (hZ : Zok Z) (hN : 143 ≤ Z.2.2.2.1)  (D : Mm) : CtM l Z y_Main_lay prog_1_method_5_code 2 (some .int) rm_Main_lay 1 [zr Z 1] D (f_Main_lay D) := by
  refine zm_M (lv := [(0, zr Z 1)]) hZ (by decide +kernel) rfl (Nat.le_of_ble_eq_true rfl) rfl (fun Γ hl X => ?_)
  subst hl
  unfold f_Main_lay
  refine zv_aload_n X d_Main_lay_0 rfl 0 rfl ?_
  refine zv_get X (ci := 6) rfl i_Main (za_1 hN) 1 (by decide) lk_Main_19 rfl rfl d_Main_lay_1 ?_
  refine zv_aload_n X d_Main_lay_4 rfl 0 rfl ?_
  refine zv_get X (ci := 6) rfl i_Main (za_1 hN) 0 (by decide) lk_Main_10 rfl rfl d_Main_lay_5 ?_
  refine zv_aload_n X d_Main_lay_8 rfl 0 rfl ?_
  refine zv_guard (fun hq9 => ?_)
  refine zv_get X (ci := 6) rfl i_Main (za_1 hN) 8 (by decide) lk_Main_55 rfl rfl d_Main_lay_9 ?_
  refine zv_cVM1 X (av := [zr Z 2, zr Z (D 1 8)]) (st := []) (ci := 1) (c_Scribe_placeOfFault Γ.2.1 X.2.2.2.2.2.2.2.1 hN (D 1 8) hq9 D) mk_Main_76 rfl (za_4 hN) ⟨rfl, rfl, Nat.le_of_ble_eq_true rfl, Nat.le_of_ble_eq_true rfl⟩ rfl (Nat.le_of_ble_eq_true rfl) d_Main_lay_12 (fun r1 D2 hr1 => ?_)
  refine zv_bipush X d_Main_lay_15 (by decide +kernel) ?_
  refine zv_icmp_ne X (tgt := 40) d_Main_lay_17 (by decide) (fun h17 => ?_) (fun h17 => ?_)
  · refine zv_bipush X d_Main_lay_40 (by decide +kernel) ?_
    exact zv_iretM X d_Main_lay_42
  · refine zv_aload_n X d_Main_lay_20 rfl 0 rfl ?_
    refine zv_guard (fun hq21 => ?_)
    refine zv_get X (ci := 6) rfl i_Main (za_1 hN) 8 (by decide) lk_Main_55 rfl rfl d_Main_lay_21 ?_
    refine zv_get X (ci := 5) rfl i_Quern (zq_0 hN hq21) 0 (by decide) lk_Main_80 rfl rfl d_Main_lay_24 ?_
    refine zv_if_eq X (y := 0) (tgt := 40) d_Main_lay_27 (by decide) (fun h27 => ?_) (fun h27 => ?_)
    · refine zv_bipush X d_Main_lay_40 (by decide +kernel) ?_
      exact zv_iretM X d_Main_lay_42
    · refine zv_aload_n X d_Main_lay_30 rfl 0 rfl ?_
      refine zv_guard (fun hq31 => ?_)
      refine zv_get X (ci := 6) rfl i_Main (za_1 hN) 8 (by decide) lk_Main_55 rfl rfl d_Main_lay_31 ?_
      refine zv_get X (ci := 5) rfl i_Quern (zq_0 hN hq31) 1 (by decide) lk_Main_83 rfl rfl d_Main_lay_34 ?_
      refine zv_if_ne X (y := 0) (tgt := 43) d_Main_lay_37 (by decide) (fun h37 => ?_) (fun h37 => ?_)
      · refine zv_aload_n X d_Main_lay_43 rfl 0 rfl ?_
        refine zv_guard (fun hq44 => ?_)
        refine zv_get X (ci := 6) rfl i_Main (za_1 hN) 7 (by decide) lk_Main_51 rfl rfl d_Main_lay_44 ?_
        refine zv_astore_n X (lv2 := [(1, zr Z (D2 1 7)), (0, zr Z 1)]) d_Main_lay_47 rfl (by decide) rfl ?_
        refine zv_aload_n X d_Main_lay_48 rfl 1 rfl ?_
        refine zv_aload_n X d_Main_lay_49 rfl 1 rfl ?_
        refine zv_guard (fun hq50 => ?_)
        refine zv_get X (ci := 6) rfl i_Main (za_1 hN) 8 (by decide) lk_Main_55 rfl rfl d_Main_lay_50 ?_
        refine zv_putC X (ci := 6) rfl i_Main t_Main t_Main_ok n_Main (za_1 hN) 7 rfl (by decide) lk_Main_51 rfl rfl (ps_6_7 ..) (Nat.le_of_ble_eq_true rfl) rfl rfl d_Main_lay_53 (fun D3 => ?_)
        refine zv_aload_n X d_Main_lay_56 rfl 1 rfl ?_
        refine zv_aload_n X d_Main_lay_57 rfl 0 rfl ?_
        refine zv_putC X (ci := 6) rfl i_Main t_Main t_Main_ok n_Main (za_1 hN) 8 rfl (by decide) lk_Main_55 rfl rfl (ps_6_8 ..) (Nat.le_of_ble_eq_true rfl) rfl rfl d_Main_lay_58 (fun D4 => ?_)
        refine zv_aload_n X d_Main_lay_61 rfl 1 rfl ?_
        refine zv_get X (ci := 6) rfl i_Main (za_1 hN) 4 (by decide) lk_Main_40 rfl rfl d_Main_lay_62 ?_
        refine zv_cVM0 X (av := []) (st := []) (ci := 4) (c_Finds_clear Γ.2.1 X.2.2.2.2.2.2.2.1 hN 12 (Or.inl rfl) D4) mk_Main_86 rfl (zf_0 hN (Or.inl rfl)) ⟨rfl, rfl, Nat.le_of_ble_eq_true rfl, Nat.le_of_ble_eq_true rfl⟩ rfl (Nat.le_of_ble_eq_true rfl) d_Main_lay_65 (fun _ D6 hr5 => ?_)
        refine zv_aload_n X d_Main_lay_68 rfl 1 rfl ?_
        refine zv_iconst X d_Main_lay_69 ?_
        refine zv_putC X (ci := 6) rfl i_Main t_Main t_Main_ok n_Main (za_1 hN) 6 rfl (by decide) lk_Main_87 rfl rfl (ps_6_6 ..) (Nat.le_of_ble_eq_true rfl) rfl rfl d_Main_lay_70 (fun D7 => ?_)
        refine zv_aload_n X d_Main_lay_73 rfl 1 rfl ?_
        refine zv_guard (fun hq74 => ?_)
        refine zv_get X (ci := 6) rfl i_Main (za_1 hN) 7 (by decide) lk_Main_51 rfl rfl d_Main_lay_74 ?_
        refine zv_get X (ci := 5) rfl i_Quern (zq_0 hN hq74) 1 (by decide) lk_Main_83 rfl rfl d_Main_lay_77 ?_
        exact zv_iretM X d_Main_lay_80
      · refine zv_bipush X d_Main_lay_40 (by decide +kernel) ?_
        exact zv_iretM X d_Main_lay_42
set_option maxRecDepth 100000 in
theorem c_Finds_isRead (l : Launch) {Z : Zt} (hZ : Zok Z) (hN : 143 ≤ Z.2.2.2.1) (v0 v1 : Int) (hv0 : isF v0) (D : Mm) : CtP l Z y_Finds_isRead prog_3_method_4_code 2 (some .boolean) rm_Finds_isRead 1 [zr Z v0, zi v1] D (f_Finds_isRead v0 v1 D) := by
  refine zm_P (lv := [(0, zr Z v0), (1, zi v1)]) hZ (by decide +kernel) rfl (Nat.le_of_ble_eq_true rfl) rfl (fun Γ hl X => ?_)
  subst hl
  unfold f_Finds_isRead
  refine zv_aload_n X d_Finds_isRead_0 rfl 0 rfl ?_
  refine zv_get X (ci := 4) rfl i_Finds (zf_0 hN hv0) 2 (by decide) lk_Finds_25 rfl rfl d_Finds_isRead_1 ?_
  refine zv_iload_n X d_Finds_isRead_4 rfl 1 rfl ?_
  refine zv_ishr X d_Finds_isRead_5 ?_
  refine zv_iconst X d_Finds_isRead_6 ?_
  refine zv_iand X d_Finds_isRead_7 ?_
  refine zv_if_eq X (y := 0) (tgt := 15) d_Finds_isRead_8 (by decide) (fun h8 => ?_) (fun h8 => ?_)
  · refine zv_iconst X d_Finds_isRead_15 ?_
    exact zv_zretPK X (Or.inl rfl) d_Finds_isRead_16
  · refine zv_iconst X d_Finds_isRead_11 ?_
    refine zv_goto X (tgt := 16) d_Finds_isRead_12 (by decide) ?_
    exact zv_zretPK X (Or.inr rfl) d_Finds_isRead_16
set_option maxRecDepth 100000 in
theorem c_Main_face (l : Launch) {Z : Zt} (hZ : Zok Z) (hN : 143 ≤ Z.2.2.2.1) (v1 v2 : Int)  (D : Mm) : CtP l Z y_Main_face prog_1_method_6_code 3 (some .int) rm_Main_face 1 [zr Z 1, zi v1, zi v2] D (f_Main_face v1 v2 D) := by
  refine zm_P (lv := [(0, zr Z 1), (1, zi v1), (2, zi v2)]) hZ (by decide +kernel) rfl (Nat.le_of_ble_eq_true rfl) rfl (fun Γ hl X => ?_)
  subst hl
  unfold f_Main_face
  refine zv_aload_n X d_Main_face_0 rfl 0 rfl ?_
  refine zv_guard (fun hq1 => ?_)
  refine zv_get X (ci := 6) rfl i_Main (za_1 hN) 7 (by decide) lk_Main_51 rfl rfl d_Main_face_1 ?_
  refine zv_iload_n X d_Main_face_4 rfl 1 rfl ?_
  refine zv_cVP1 X (av := [zi v1]) (st := []) (ci := 5) (c_Quern_hasPatch Γ.2.1 X.2.2.2.2.2.2.2.1 hN (D 1 7) v1 hq1 D) mk_Main_90 rfl (zq_0 hN hq1) ⟨rfl, rfl, Nat.le_of_ble_eq_true rfl, Nat.le_of_ble_eq_true rfl⟩ rfl (Nat.le_of_ble_eq_true rfl) d_Main_face_5 (fun r1 hr1 => ?_)
  refine zv_if_ne X (y := 0) (tgt := 13) d_Main_face_8 (by decide) (fun h8 => ?_) (fun h8 => ?_)
  · refine zv_iload_n X d_Main_face_13 rfl 2 rfl ?_
    refine zv_split (fun h14_0 => ?_) (fun h14_0 => ?_)
    · refine zv_tin X (tgt := 48) (off := 34) d_Main_face_14 h14_0 (by decide +kernel) (by decide) ?_
      refine zv_aload_n X d_Main_face_48 rfl 0 rfl ?_
      refine zv_guard (fun hq49 => ?_)
      refine zv_get X (ci := 6) rfl i_Main (za_1 hN) 7 (by decide) lk_Main_51 rfl rfl d_Main_face_49 ?_
      refine zv_get X (ci := 5) rfl i_Quern (zq_0 hN hq49) 3 (by decide) lk_Main_94 rfl rfl d_Main_face_52 ?_
      refine zv_iload_n X d_Main_face_55 rfl 1 rfl ?_
      refine zv_iald X (zq_8 hN hq49) d_Main_face_56 (fun ha56 hb56 => ?_)
      exact zv_iretP X d_Main_face_57
    refine zv_split (fun h14_1 => ?_) (fun h14_1 => ?_)
    · refine zv_tin X (tgt := 58) (off := 44) d_Main_face_14 h14_1 (by decide +kernel) (by decide) ?_
      refine zv_aload_n X d_Main_face_58 rfl 0 rfl ?_
      refine zv_guard (fun hq59 => ?_)
      refine zv_get X (ci := 6) rfl i_Main (za_1 hN) 7 (by decide) lk_Main_51 rfl rfl d_Main_face_59 ?_
      refine zv_get X (ci := 5) rfl i_Quern (zq_0 hN hq59) 4 (by decide) lk_Main_98 rfl rfl d_Main_face_62 ?_
      refine zv_iload_n X d_Main_face_65 rfl 1 rfl ?_
      refine zv_iald X (zq_9 hN hq59) d_Main_face_66 (fun ha66 hb66 => ?_)
      exact zv_iretP X d_Main_face_67
    refine zv_split (fun h14_2 => ?_) (fun h14_2 => ?_)
    · refine zv_tin X (tgt := 68) (off := 54) d_Main_face_14 h14_2 (by decide +kernel) (by decide) ?_
      refine zv_aload_n X d_Main_face_68 rfl 0 rfl ?_
      refine zv_guard (fun hq69 => ?_)
      refine zv_get X (ci := 6) rfl i_Main (za_1 hN) 7 (by decide) lk_Main_51 rfl rfl d_Main_face_69 ?_
      refine zv_get X (ci := 5) rfl i_Quern (zq_0 hN hq69) 5 (by decide) lk_Main_101 rfl rfl d_Main_face_72 ?_
      refine zv_iload_n X d_Main_face_75 rfl 1 rfl ?_
      refine zv_iald X (zq_10 hN hq69) d_Main_face_76 (fun ha76 hb76 => ?_)
      exact zv_iretP X d_Main_face_77
    refine zv_split (fun h14_3 => ?_) (fun h14_3 => ?_)
    · refine zv_tin X (tgt := 78) (off := 64) d_Main_face_14 h14_3 (by decide +kernel) (by decide) ?_
      refine zv_aload_n X d_Main_face_78 rfl 0 rfl ?_
      refine zv_guard (fun hq79 => ?_)
      refine zv_get X (ci := 6) rfl i_Main (za_1 hN) 7 (by decide) lk_Main_51 rfl rfl d_Main_face_79 ?_
      refine zv_get X (ci := 5) rfl i_Quern (zq_0 hN hq79) 6 (by decide) lk_Main_104 rfl rfl d_Main_face_82 ?_
      refine zv_iload_n X d_Main_face_85 rfl 1 rfl ?_
      refine zv_iald X (zq_11 hN hq79) d_Main_face_86 (fun ha86 hb86 => ?_)
      exact zv_iretP X d_Main_face_87
    refine zv_split (fun h14_4 => ?_) (fun h14_4 => ?_)
    · refine zv_tin X (tgt := 88) (off := 74) d_Main_face_14 h14_4 (by decide +kernel) (by decide) ?_
      refine zv_aload_n X d_Main_face_88 rfl 0 rfl ?_
      refine zv_get X (ci := 6) rfl i_Main (za_1 hN) 4 (by decide) lk_Main_40 rfl rfl d_Main_face_89 ?_
      refine zv_iload_n X d_Main_face_92 rfl 1 rfl ?_
      refine zv_cVP1 X (av := [zi v1]) (st := []) (ci := 4) (c_Finds_isRead Γ.2.1 X.2.2.2.2.2.2.2.1 hN 12 v1 (Or.inl rfl) D) mk_Main_107 rfl (zf_0 hN (Or.inl rfl)) ⟨rfl, rfl, Nat.le_of_ble_eq_true rfl, Nat.le_of_ble_eq_true rfl⟩ rfl (Nat.le_of_ble_eq_true rfl) d_Main_face_93 (fun r2 hr2 => ?_)
      refine zv_if_eq X (y := 0) (tgt := 103) d_Main_face_96 (by decide) (fun h96 => ?_) (fun h96 => ?_)
      · refine zv_iconst X d_Main_face_103 ?_
        exact zv_iretP X d_Main_face_104
      · refine zv_iconst X d_Main_face_99 ?_
        refine zv_goto X (tgt := 104) d_Main_face_100 (by decide) ?_
        exact zv_iretP X d_Main_face_104
    refine zv_tdef X (tgt := 105) d_Main_face_14 (zt_def (cs := [0, 1, 2, 3, 4]) (by decide +kernel) (by decide) (List.forall_mem_cons.mpr ⟨zI_nek h14_0 (by decide +kernel), List.forall_mem_cons.mpr ⟨zI_nek h14_1 (by decide +kernel), List.forall_mem_cons.mpr ⟨zI_nek h14_2 (by decide +kernel), List.forall_mem_cons.mpr ⟨zI_nek h14_3 (by decide +kernel), List.forall_mem_cons.mpr ⟨zI_nek h14_4 (by decide +kernel), List.forall_mem_nil _⟩⟩⟩⟩⟩)) (by decide) ?_
    refine zv_iconst X d_Main_face_105 ?_
    exact zv_iretP X d_Main_face_106
  · refine zv_iconst X d_Main_face_11 ?_
    exact zv_iretP X d_Main_face_12
set_option maxRecDepth 100000 in
theorem v_Quern_lying_90 {Γ : Gt} {Z : Zt} (X : Cx Γ Z prog_6_method_15_code R_Quern 6 (some .int) rm_Quern_lying) (hN : 143 ≤ Z.2.2.2.1) (v0 v1 v2 v3 v4 v5 : Int) (hv0 : isQ v0) (K14 : Int → Int → Option (Int)) (D : Mm) (hK14 : ∀ (v4 v5 : Int), Zv Γ Z 6 (QfP Γ Z 1 D) (K14 v4 v5) D 22 [(0, zr Z v0), (1, zi v1), (2, zi v2), (3, zi v3), (4, zi v4), (5, zi v5)] []) : Zv Γ Z 6 (QfP Γ Z 1 D) (f_Quern_lying_90 v0 v1 v2 v3 v4 v5 K14 D) D 90 [(0, zr Z v0), (1, zi v1), (2, zi v2), (3, zi v3), (4, zi v4), (5, zi v5)] [] := by
  unfold f_Quern_lying_90
  refine zv_iinc X (lv2 := [(5, zi (v5 + 1)), (0, zr Z v0), (1, zi v1), (2, zi v2), (3, zi v3), (4, zi v4)]) d_Quern_lying_90 5 rfl (by decide) rfl ?_
  refine zv_goto X (tgt := 22) d_Quern_lying_93 (by decide) ?_
  refine zv_sub X [1, 2, 3, 4, 5, 0] rfl ?_
  exact hK14 v4 (v5 + 1)
set_option maxRecDepth 100000 in
theorem v_Quern_lying_22 {Γ : Gt} {Z : Zt} (X : Cx Γ Z prog_6_method_15_code R_Quern 6 (some .int) rm_Quern_lying) (hN : 143 ≤ Z.2.2.2.1) (v0 v1 v2 v3 : Int) (hv0 : isQ v0)  (D : Mm)  : ∀ (n : Nat) (v4 v5 : Int) , Zv Γ Z 6 (QfP Γ Z 1 D) (f_Quern_lying_22 v0 v1 v2 v3 D n v4 v5) D 22 [(0, zr Z v0), (1, zi v1), (2, zi v2), (3, zi v3), (4, zi v4), (5, zi v5)] [] := by
  intro n
  induction n with
  | zero =>
    intro v4 v5
    exact zv_none
  | succ n ih =>
    intro v4 v5
    rw [f_Quern_lying_22]
    refine zv_iload X d_Quern_lying_22 5 rfl ?_
    refine zv_iconst X d_Quern_lying_24 ?_
    refine zv_icmp_ge X (tgt := 96) d_Quern_lying_25 (by decide) (fun h25 => ?_) (fun h25 => ?_)
    · refine zv_iload X d_Quern_lying_96 4 rfl ?_
      exact zv_iretP X d_Quern_lying_98
    · refine zv_aload_n X d_Quern_lying_28 rfl 0 rfl ?_
      refine zv_get X (ci := 5) rfl i_Quern (zq_0 hN hv0) 6 (by decide) lk_Quern_26 rfl rfl d_Quern_lying_29 ?_
      refine zv_iload_n X d_Quern_lying_32 rfl 1 rfl ?_
      refine zv_iald X (zq_11 hN hv0) d_Quern_lying_33 (fun ha33 hb33 => ?_)
      refine zv_iload X d_Quern_lying_34 5 rfl ?_
      refine zv_ishr X d_Quern_lying_36 ?_
      refine zv_iconst X d_Quern_lying_37 ?_
      refine zv_iand X d_Quern_lying_38 ?_
      refine zv_if_ne X (y := 0) (tgt := 45) d_Quern_lying_39 (by decide) (fun h39 => ?_) (fun h39 => ?_)
      · refine zv_iload X d_Quern_lying_45 4 rfl ?_
        refine zv_iload X d_Quern_lying_47 4 rfl ?_
        refine zv_aload_n X d_Quern_lying_49 rfl 0 rfl ?_
        refine zv_get X (ci := 5) rfl i_Quern (zq_0 hN hv0) 9 (by decide) lk_Quern_35 rfl rfl d_Quern_lying_50 ?_
        refine zv_iload X d_Quern_lying_53 5 rfl ?_
        refine zv_iald X (zq_28 hN hv0) d_Quern_lying_55 (fun ha55 hb55 => ?_)
        refine zv_imul X d_Quern_lying_56 ?_
        refine zv_bipush X d_Quern_lying_57 (by decide +kernel) ?_
        refine zv_idivK X d_Quern_lying_59 (by decide +kernel) ?_
        refine zv_isub X d_Quern_lying_60 ?_
        refine zv_istore X (lv2 := [(4, zi (v4 - (jdiv (v4 * (D (v0 + 28) v5)) 100))), (0, zr Z v0), (1, zi v1), (2, zi v2), (3, zi v3), (5, zi v5)]) d_Quern_lying_61 (by decide) rfl ?_
        refine zv_iload X d_Quern_lying_63 5 rfl ?_
        refine zv_iload_n X d_Quern_lying_65 rfl 4 rfl ?_
        refine zv_icmp_ne X (tgt := 90) d_Quern_lying_66 (by decide) (fun h66 => ?_) (fun h66 => ?_)
        · refine zv_sub X [1, 2, 3, 4, 0, 5] rfl ?_
          exact v_Quern_lying_90 X hN v0 v1 v2 v3 (v4 - (jdiv (v4 * (D (v0 + 28) v5)) 100)) v5 hv0 (f_Quern_lying_22 v0 v1 v2 v3 D n) D ih
        · refine zv_iload X d_Quern_lying_69 0 rfl ?_
          refine zv_aload_n X d_Quern_lying_71 rfl 1 rfl ?_
          refine zv_get X (ci := 5) rfl i_Quern (zq_0 hN hv0) 8 (by decide) lk_Quern_32 rfl rfl d_Quern_lying_72 ?_
          refine zv_iload X d_Quern_lying_75 5 rfl ?_
          refine zv_aald X (v0 + 24 + v5) (zq_23 hN hv0) d_Quern_lying_77 (by omega) (fun ha77 hb77 => ?_)
          refine zv_iload_n X d_Quern_lying_78 rfl 3 rfl ?_
          refine zv_iald X (zq_23r hN hv0 ha77 hb77) d_Quern_lying_79 (fun ha79 hb79 => ?_)
          refine zv_aload_n X d_Quern_lying_80 rfl 1 rfl ?_
          refine zv_get X (ci := 5) rfl i_Quern (zq_0 hN hv0) 5 (by decide) lk_Quern_23 rfl rfl d_Quern_lying_81 ?_
          refine zv_iload_n X d_Quern_lying_84 rfl 2 rfl ?_
          refine zv_iald X (zq_10 hN hv0) d_Quern_lying_85 (fun ha85 hb85 => ?_)
          refine zv_imul X d_Quern_lying_86 ?_
          refine zv_iadd X d_Quern_lying_87 ?_
          refine zv_let (fun x1 => ?_)
          refine zv_istore X (lv2 := [(4, zi x1), (0, zr Z v0), (1, zi v1), (2, zi v2), (3, zi v3), (5, zi v5)]) d_Quern_lying_88 (by decide) rfl ?_
          refine zv_sub X [1, 2, 3, 4, 0, 5] rfl ?_
          exact v_Quern_lying_90 X hN v0 v1 v2 v3 x1 v5 hv0 (f_Quern_lying_22 v0 v1 v2 v3 D n) D ih
      · refine zv_goto X (tgt := 90) d_Quern_lying_42 (by decide) ?_
        exact v_Quern_lying_90 X hN v0 v1 v2 v3 v4 v5 hv0 (f_Quern_lying_22 v0 v1 v2 v3 D n) D ih
set_option maxRecDepth 100000 in
theorem v_Quern_lying_17 {Γ : Gt} {Z : Zt} (X : Cx Γ Z prog_6_method_15_code R_Quern 6 (some .int) rm_Quern_lying) (hN : 143 ≤ Z.2.2.2.1) (v0 v1 v2 v3 s0 : Int) (hv0 : isQ v0)  (D : Mm)  : Zv Γ Z 6 (QfP Γ Z 1 D) (f_Quern_lying_17 v0 v1 v2 v3 s0 D) D 17 [(0, zr Z v0), (1, zi v1), (2, zi v2), (3, zi v3)] [zi s0] := by
  unfold f_Quern_lying_17
  refine zv_istore X (lv2 := [(4, zi s0), (0, zr Z v0), (1, zi v1), (2, zi v2), (3, zi v3)]) d_Quern_lying_17 (by decide) rfl ?_
  refine zv_iconst X d_Quern_lying_19 ?_
  refine zv_istore X (lv2 := [(5, zi 0), (4, zi s0), (0, zr Z v0), (1, zi v1), (2, zi v2), (3, zi v3)]) d_Quern_lying_20 (by decide) rfl ?_
  refine zv_sub X [2, 3, 4, 5, 1, 0] rfl ?_
  exact v_Quern_lying_22 X hN v0 v1 v2 v3 hv0 D zF s0 0
set_option maxRecDepth 100000 in
theorem c_Quern_lying (l : Launch) {Z : Zt} (hZ : Zok Z) (hN : 143 ≤ Z.2.2.2.1) (v0 v1 v2 v3 : Int) (hv0 : isQ v0) (D : Mm) : CtP l Z y_Quern_lying prog_6_method_15_code 6 (some .int) rm_Quern_lying 1 [zr Z v0, zi v1, zi v2, zi v3] D (f_Quern_lying v0 v1 v2 v3 D) := by
  refine zm_P (lv := [(0, zr Z v0), (1, zi v1), (2, zi v2), (3, zi v3)]) hZ (by decide +kernel) rfl (Nat.le_of_ble_eq_true rfl) rfl (fun Γ hl X => ?_)
  subst hl
  unfold f_Quern_lying
  refine zv_iload_n X d_Quern_lying_0 rfl 3 rfl ?_
  refine zv_iconst X d_Quern_lying_1 ?_
  refine zv_icmp_ne X (tgt := 16) d_Quern_lying_2 (by decide) (fun h2 => ?_) (fun h2 => ?_)
  · refine zv_iconst X d_Quern_lying_16 ?_
    exact v_Quern_lying_17 X hN v0 v1 v2 v3 0 hv0 D
  · refine zv_aload_n X d_Quern_lying_5 rfl 0 rfl ?_
    refine zv_get X (ci := 5) rfl i_Quern (zq_0 hN hv0) 7 (by decide) lk_Quern_29 rfl rfl d_Quern_lying_6 ?_
    refine zv_iload_n X d_Quern_lying_9 rfl 1 rfl ?_
    refine zv_aald X (v0 + 13 + v1) (zq_12 hN hv0) d_Quern_lying_10 (by omega) (fun ha10 hb10 => ?_)
    refine zv_iload_n X d_Quern_lying_11 rfl 2 rfl ?_
    refine zv_iald X (zq_12r hN hv0 ha10 hb10) d_Quern_lying_12 (fun ha12 hb12 => ?_)
    refine zv_goto X (tgt := 17) d_Quern_lying_13 (by decide) ?_
    exact v_Quern_lying_17 X hN v0 v1 v2 v3 (D (v0 + 13 + v1) v2) hv0 D
set_option maxRecDepth 100000 in
theorem v_Quern_lyingOfAll_5 {Γ : Gt} {Z : Zt} (X : Cx Γ Z prog_6_method_16_code R_Quern 5 (some .int) rm_Quern_lyingOfAll) (hN : 143 ≤ Z.2.2.2.1) (v0 v1 v2 : Int) (hv0 : isQ v0)  (D : Mm)  : ∀ (n : Nat) (v3 v4 : Int) , Zv Γ Z 5 (QfP Γ Z 1 D) (f_Quern_lyingOfAll_5 v0 v1 v2 D n v3 v4) D 5 [(0, zr Z v0), (1, zi v1), (2, zi v2), (3, zi v3), (4, zi v4)] [] := by
  intro n
  induction n with
  | zero =>
    intro v3 v4
    exact zv_none
  | succ n ih =>
    intro v3 v4
    rw [f_Quern_lyingOfAll_5]
    refine zv_iload X d_Quern_lyingOfAll_5 4 rfl ?_
    refine zv_iconst X d_Quern_lyingOfAll_7 ?_
    refine zv_icmp_ge X (tgt := 28) d_Quern_lyingOfAll_8 (by decide) (fun h8 => ?_) (fun h8 => ?_)
    · refine zv_iload_n X d_Quern_lyingOfAll_28 rfl 3 rfl ?_
      exact zv_iretP X d_Quern_lyingOfAll_29
    · refine zv_iload_n X d_Quern_lyingOfAll_11 rfl 3 rfl ?_
      refine zv_aload_n X d_Quern_lyingOfAll_12 rfl 0 rfl ?_
      refine zv_iload_n X d_Quern_lyingOfAll_13 rfl 1 rfl ?_
      refine zv_iload_n X d_Quern_lyingOfAll_14 rfl 2 rfl ?_
      refine zv_iload X d_Quern_lyingOfAll_15 4 rfl ?_
      refine zv_cVP1 X (av := [zi v1, zi v2, zi v4]) (st := [zi v3]) (ci := 5) (c_Quern_lying Γ.2.1 X.2.2.2.2.2.2.2.1 hN v0 v1 v2 v4 hv0 D) mk_Quern_103 rfl (zq_0 hN hv0) ⟨rfl, rfl, Nat.le_of_ble_eq_true rfl, Nat.le_of_ble_eq_true rfl⟩ rfl (Nat.le_of_ble_eq_true rfl) d_Quern_lyingOfAll_17 (fun r1 hr1 => ?_)
      refine zv_iadd X d_Quern_lyingOfAll_20 ?_
      refine zv_istore_n X (lv2 := [(3, zi (v3 + r1)), (0, zr Z v0), (1, zi v1), (2, zi v2), (4, zi v4)]) d_Quern_lyingOfAll_21 rfl (by decide) rfl ?_
      refine zv_iinc X (lv2 := [(4, zi (v4 + 1)), (3, zi (v3 + r1)), (0, zr Z v0), (1, zi v1), (2, zi v2)]) d_Quern_lyingOfAll_22 4 rfl (by decide) rfl ?_
      refine zv_goto X (tgt := 5) d_Quern_lyingOfAll_25 (by decide) ?_
      refine zv_sub X [2, 3, 4, 1, 0] rfl ?_
      exact ih (v3 + r1) (v4 + 1)
set_option maxRecDepth 100000 in
theorem c_Quern_lyingOfAll (l : Launch) {Z : Zt} (hZ : Zok Z) (hN : 143 ≤ Z.2.2.2.1) (v0 v1 v2 : Int) (hv0 : isQ v0) (D : Mm) : CtP l Z y_Quern_lyingOfAll prog_6_method_16_code 5 (some .int) rm_Quern_lyingOfAll 1 [zr Z v0, zi v1, zi v2] D (f_Quern_lyingOfAll v0 v1 v2 D) := by
  refine zm_P (lv := [(0, zr Z v0), (1, zi v1), (2, zi v2)]) hZ (by decide +kernel) rfl (Nat.le_of_ble_eq_true rfl) rfl (fun Γ hl X => ?_)
  subst hl
  unfold f_Quern_lyingOfAll
  refine zv_iconst X d_Quern_lyingOfAll_0 ?_
  refine zv_istore_n X (lv2 := [(3, zi 0), (0, zr Z v0), (1, zi v1), (2, zi v2)]) d_Quern_lyingOfAll_1 rfl (by decide) rfl ?_
  refine zv_iconst X d_Quern_lyingOfAll_2 ?_
  refine zv_istore X (lv2 := [(4, zi 0), (3, zi 0), (0, zr Z v0), (1, zi v1), (2, zi v2)]) d_Quern_lyingOfAll_3 (by decide) rfl ?_
  refine zv_sub X [2, 3, 4, 1, 0] rfl ?_
  exact v_Quern_lyingOfAll_5 X hN v0 v1 v2 hv0 D zF 0 0
set_option maxRecDepth 100000 in
theorem c_Main_lies (l : Launch) {Z : Zt} (hZ : Zok Z) (hN : 143 ≤ Z.2.2.2.1) (v1 v2 v3 : Int)  (D : Mm) : CtP l Z y_Main_lies prog_1_method_7_code 4 (some .int) rm_Main_lies 1 [zr Z 1, zi v1, zi v2, zi v3] D (f_Main_lies v1 v2 v3 D) := by
  refine zm_P (lv := [(0, zr Z 1), (1, zi v1), (2, zi v2), (3, zi v3)]) hZ (by decide +kernel) rfl (Nat.le_of_ble_eq_true rfl) rfl (fun Γ hl X => ?_)
  subst hl
  unfold f_Main_lies
  refine zv_aload_n X d_Main_lies_0 rfl 0 rfl ?_
  refine zv_guard (fun hq1 => ?_)
  refine zv_get X (ci := 6) rfl i_Main (za_1 hN) 7 (by decide) lk_Main_51 rfl rfl d_Main_lies_1 ?_
  refine zv_iload_n X d_Main_lies_4 rfl 1 rfl ?_
  refine zv_cVP1 X (av := [zi v1]) (st := []) (ci := 5) (c_Quern_hasPatch Γ.2.1 X.2.2.2.2.2.2.2.1 hN (D 1 7) v1 hq1 D) mk_Main_90 rfl (zq_0 hN hq1) ⟨rfl, rfl, Nat.le_of_ble_eq_true rfl, Nat.le_of_ble_eq_true rfl⟩ rfl (Nat.le_of_ble_eq_true rfl) d_Main_lies_5 (fun r1 hr1 => ?_)
  refine zv_if_eq X (y := 0) (tgt := 31) d_Main_lies_8 (by decide) (fun h8 => ?_) (fun h8 => ?_)
  · refine zv_iconst X d_Main_lies_31 ?_
    exact zv_iretP X d_Main_lies_32
  · refine zv_aload_n X d_Main_lies_11 rfl 0 rfl ?_
    refine zv_guard (fun hq12 => ?_)
    refine zv_get X (ci := 6) rfl i_Main (za_1 hN) 7 (by decide) lk_Main_51 rfl rfl d_Main_lies_12 ?_
    refine zv_iload_n X d_Main_lies_15 rfl 2 rfl ?_
    refine zv_cVP1 X (av := [zi v2]) (st := []) (ci := 5) (c_Quern_hasSort Γ.2.1 X.2.2.2.2.2.2.2.1 hN (D 1 7) v2 hq12 D) mk_Main_110 rfl (zq_0 hN hq12) ⟨rfl, rfl, Nat.le_of_ble_eq_true rfl, Nat.le_of_ble_eq_true rfl⟩ rfl (Nat.le_of_ble_eq_true rfl) d_Main_lies_16 (fun r2 hr2 => ?_)
    refine zv_if_eq X (y := 0) (tgt := 31) d_Main_lies_19 (by decide) (fun h19 => ?_) (fun h19 => ?_)
    · refine zv_iconst X d_Main_lies_31 ?_
      exact zv_iretP X d_Main_lies_32
    · refine zv_iload_n X d_Main_lies_22 rfl 3 rfl ?_
      refine zv_iconst X d_Main_lies_23 ?_
      refine zv_iconst X d_Main_lies_24 ?_
      refine zv_cSP1 X (av := [zi v3, zi (-1), zi 4]) (st := []) (c_Main_within Γ.2.1 X.2.2.2.2.2.2.2.1 hN v3 (-1) 4 D) mk_Main_61 ⟨rfl, rfl, Nat.le_of_ble_eq_true rfl, Nat.le_of_ble_eq_true rfl⟩ rfl (Nat.le_of_ble_eq_true rfl) d_Main_lies_25 (fun r3 hr3 => ?_)
      refine zv_if_ne X (y := 0) (tgt := 33) d_Main_lies_28 (by decide) (fun h28 => ?_) (fun h28 => ?_)
      · refine zv_iload_n X d_Main_lies_33 rfl 3 rfl ?_
        refine zv_iconst X d_Main_lies_34 ?_
        refine zv_icmp_ne X (tgt := 50) d_Main_lies_35 (by decide) (fun h35 => ?_) (fun h35 => ?_)
        · refine zv_aload_n X d_Main_lies_50 rfl 0 rfl ?_
          refine zv_guard (fun hq51 => ?_)
          refine zv_get X (ci := 6) rfl i_Main (za_1 hN) 7 (by decide) lk_Main_51 rfl rfl d_Main_lies_51 ?_
          refine zv_iload_n X d_Main_lies_54 rfl 1 rfl ?_
          refine zv_iload_n X d_Main_lies_55 rfl 2 rfl ?_
          refine zv_iload_n X d_Main_lies_56 rfl 3 rfl ?_
          refine zv_cVP1 X (av := [zi v1, zi v2, zi v3]) (st := []) (ci := 5) (c_Quern_lying Γ.2.1 X.2.2.2.2.2.2.2.1 hN (D 1 7) v1 v2 v3 hq51 D) mk_Main_117 rfl (zq_0 hN hq51) ⟨rfl, rfl, Nat.le_of_ble_eq_true rfl, Nat.le_of_ble_eq_true rfl⟩ rfl (Nat.le_of_ble_eq_true rfl) d_Main_lies_57 (fun r4 hr4 => ?_)
          exact zv_iretP X d_Main_lies_60
        · refine zv_aload_n X d_Main_lies_38 rfl 0 rfl ?_
          refine zv_guard (fun hq39 => ?_)
          refine zv_get X (ci := 6) rfl i_Main (za_1 hN) 7 (by decide) lk_Main_51 rfl rfl d_Main_lies_39 ?_
          refine zv_iload_n X d_Main_lies_42 rfl 1 rfl ?_
          refine zv_iload_n X d_Main_lies_43 rfl 2 rfl ?_
          refine zv_cVP1 X (av := [zi v1, zi v2]) (st := []) (ci := 5) (c_Quern_lyingOfAll Γ.2.1 X.2.2.2.2.2.2.2.1 hN (D 1 7) v1 v2 hq39 D) mk_Main_113 rfl (zq_0 hN hq39) ⟨rfl, rfl, Nat.le_of_ble_eq_true rfl, Nat.le_of_ble_eq_true rfl⟩ rfl (Nat.le_of_ble_eq_true rfl) d_Main_lies_44 (fun r5 hr5 => ?_)
          refine zv_goto X (tgt := 60) d_Main_lies_47 (by decide) ?_
          exact zv_iretP X d_Main_lies_60
      · refine zv_iconst X d_Main_lies_31 ?_
        exact zv_iretP X d_Main_lies_32

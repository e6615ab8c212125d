set_option maxRecDepth 100000 in
theorem v_Main_heap_49 {Γ : Gt} {Z : Zt} (X : Cx Γ Z prog_1_method_12_code R_Main 10 (some .long) rm_Main_heap) (hN : 143 ≤ Z.2.2.2.1) (v1 v6 : Int)   (D : Mm)  : ∀ (n : Nat) (v7 v9 : Int) , Zv Γ Z 10 (QfM Γ Z 2) (f_Main_heap_49 v1 v6 D n v7 v9) D 49 [(0, zr Z 1), (1, zi v1), (6, zi v6), (7, zl v7), (9, zi v9)] [] := by
  intro n
  induction n with
  | zero =>
    intro v7 v9
    exact zv_none
  | succ n ih =>
    intro v7 v9
    rw [f_Main_heap_49]
    refine zv_iload X d_Main_heap_49 4 rfl ?_
    refine zv_aload_n X d_Main_heap_51 rfl 0 rfl ?_
    refine zv_guard (fun hq52 => ?_)
    refine zv_get X (ci := 6) rfl i_Main (za_1 hN) 7 (by decide) lk_Main_51 rfl rfl d_Main_heap_52 ?_
    refine zv_get X (ci := 5) rfl i_Quern (zq_0 hN hq52) 0 (by decide) lk_Main_80 rfl rfl d_Main_heap_55 ?_
    refine zv_icmp_ge X (tgt := 89) d_Main_heap_58 (by decide) (fun h58 => ?_) (fun h58 => ?_)
    · refine zv_lload X d_Main_heap_89 3 rfl ?_
      refine zv_lconst X (x := 0) d_Main_heap_91 (by decide +kernel) ?_
      refine zv_lcmp_ne X (tgt := 102) d_Main_heap_92 d_Main_heap_93 (by decide) (fun h92 => ?_) (fun h92 => ?_)
      · refine zv_aload_n X d_Main_heap_102 rfl 0 rfl ?_
        refine zv_get X (ci := 6) rfl i_Main (za_1 hN) 3 (by decide) lk_Main_33 rfl rfl d_Main_heap_103 ?_
        refine zv_aload_n X d_Main_heap_106 rfl 0 rfl ?_
        refine zv_guard (fun hq107 => ?_)
        refine zv_get X (ci := 6) rfl i_Main (za_1 hN) 7 (by decide) lk_Main_51 rfl rfl d_Main_heap_107 ?_
        refine zv_get X (ci := 5) rfl i_Quern (zq_0 hN hq107) 2 (by decide) lk_Main_148 rfl rfl d_Main_heap_110 ?_
        refine zv_iload_n X d_Main_heap_113 rfl 1 rfl ?_
        refine zv_aald X ((D 1 7) + 2 + v1) (zq_1 hN hq107) d_Main_heap_114 (by omega) (fun ha114 hb114 => ?_)
        refine zv_cVP2 X (av := [zr Z ((D 1 7) + 2 + v1)]) (st := []) (ci := 3) (c_Heap_productOf Γ.2.1 X.2.2.2.2.2.2.2.1 hN ((D 1 7) + 2 + v1) (zq_1r hN hq107 ha114 hb114) D) mk_Main_152 rfl (za_10 hN) ⟨rfl, rfl, Nat.le_of_ble_eq_true rfl, Nat.le_of_ble_eq_true rfl⟩ rfl (Nat.le_of_ble_eq_true rfl) d_Main_heap_115 (fun r1 hr1 => ?_)
        refine zv_lload X d_Main_heap_118 3 rfl ?_
        refine zv_iload X d_Main_heap_120 2 rfl ?_
        refine zv_cSP2 X (av := [zl r1, zl v7, zi v6]) (st := []) (c_Odds_inLowestTerms Γ.2.1 X.2.2.2.2.2.2.2.1 r1 v7 v6 D) mk_Main_136 ⟨rfl, rfl, Nat.le_of_ble_eq_true rfl, Nat.le_of_ble_eq_true rfl⟩ rfl (Nat.le_of_ble_eq_true rfl) d_Main_heap_122 (fun r2 hr2 => ?_)
        exact zv_lretM X d_Main_heap_125
      · refine zv_ldc2 X (-4) kc_Main_156 (by decide +kernel) d_Main_heap_96 ?_
        refine zv_goto X (tgt := 125) d_Main_heap_99 (by decide) ?_
        exact zv_lretM X d_Main_heap_125
    · refine zv_lload X d_Main_heap_61 3 rfl ?_
      refine zv_aload_n X d_Main_heap_63 rfl 0 rfl ?_
      refine zv_get X (ci := 6) rfl i_Main (za_1 hN) 3 (by decide) lk_Main_33 rfl rfl d_Main_heap_64 ?_
      refine zv_aload_n X d_Main_heap_67 rfl 0 rfl ?_
      refine zv_guard (fun hq68 => ?_)
      refine zv_get X (ci := 6) rfl i_Main (za_1 hN) 7 (by decide) lk_Main_51 rfl rfl d_Main_heap_68 ?_
      refine zv_get X (ci := 5) rfl i_Quern (zq_0 hN hq68) 2 (by decide) lk_Main_148 rfl rfl d_Main_heap_71 ?_
      refine zv_iload X d_Main_heap_74 4 rfl ?_
      refine zv_aald X ((D 1 7) + 2 + v9) (zq_1 hN hq68) d_Main_heap_76 (by omega) (fun ha76 hb76 => ?_)
      refine zv_cVP2 X (av := [zr Z ((D 1 7) + 2 + v9)]) (st := [zl v7]) (ci := 3) (c_Heap_productOf Γ.2.1 X.2.2.2.2.2.2.2.1 hN ((D 1 7) + 2 + v9) (zq_1r hN hq68 ha76 hb76) D) mk_Main_152 rfl (za_10 hN) ⟨rfl, rfl, Nat.le_of_ble_eq_true rfl, Nat.le_of_ble_eq_true rfl⟩ rfl (Nat.le_of_ble_eq_true rfl) d_Main_heap_77 (fun r3 hr3 => ?_)
      refine zv_ladd X d_Main_heap_80 ?_
      refine zv_lstore X (lv2 := [(7, zl (v7 + r3)), (0, zr Z 1), (1, zi v1), (6, zi v6), (9, zi v9)]) d_Main_heap_81 (by decide) rfl ?_
      refine zv_iinc X (lv2 := [(9, zi (v9 + 1)), (7, zl (v7 + r3)), (0, zr Z 1), (1, zi v1), (6, zi v6)]) d_Main_heap_83 4 rfl (by decide) rfl ?_
      refine zv_goto X (tgt := 49) d_Main_heap_86 (by decide) ?_
      refine zv_sub X [2, 3, 4, 1, 0] rfl ?_
      exact ih (v7 + r3) (v9 + 1)
set_option maxRecDepth 100000 in
theorem v_Main_heap_39 {Γ : Gt} {Z : Zt} (X : Cx Γ Z prog_1_method_12_code R_Main 10 (some .long) rm_Main_heap) (hN : 143 ≤ Z.2.2.2.1)   (D : Mm)  : Zv Γ Z 10 (QfM Γ Z 2) (f_Main_heap_39 D) D 39 [] [] := by
  unfold f_Main_heap_39
  refine zv_ldc2 X (-1) kc_Main_124 (by decide +kernel) d_Main_heap_39 ?_
  exact zv_lretM X d_Main_heap_42
set_option maxRecDepth 100000 in
theorem c_Main_heap (l : Launch) {Z : Zt} (hZ : Zok Z) (hN : 143 ≤ Z.2.2.2.1) (v1 v2 v3 v4 v5 v6 : Int)  (D : Mm) : CtM l Z y_Main_heap prog_1_method_12_code 10 (some .long) rm_Main_heap 2 [zr Z 1, zi v1, zi v2, zi v3, zi v4, zi v5, zi v6] D (f_Main_heap v1 v2 v3 v4 v5 v6 D) := by
  refine zm_M (lv := [(0, zr Z 1), (1, zi v1), (2, zi v2), (3, zi v3), (4, zi v4), (5, zi v5), (6, zi v6)]) hZ (by decide +kernel) rfl (Nat.le_of_ble_eq_true rfl) rfl (fun Γ hl X => ?_)
  subst hl
  unfold f_Main_heap
  refine zv_aload_n X d_Main_heap_0 rfl 0 rfl ?_
  refine zv_guard (fun hq1 => ?_)
  refine zv_get X (ci := 6) rfl i_Main (za_1 hN) 7 (by decide) lk_Main_51 rfl rfl d_Main_heap_1 ?_
  refine zv_iload_n X d_Main_heap_4 rfl 1 rfl ?_
  refine zv_cVP1 X (av := [zi v1]) (st := []) (ci := 5) (c_Quern_hasSort Γ.2.1 X.2.2.2.2.2.2.2.1 hN (D 1 7) v1 hq1 D) mk_Main_110 rfl (zq_0 hN hq1) ⟨rfl, rfl, Nat.le_of_ble_eq_true rfl, Nat.le_of_ble_eq_true rfl⟩ rfl (Nat.le_of_ble_eq_true rfl) d_Main_heap_5 (fun r1 hr1 => ?_)
  refine zv_if_eq X (y := 0) (tgt := 39) d_Main_heap_8 (by decide) (fun h8 => ?_) (fun h8 => ?_)
  · refine zv_sub X [] rfl ?_
    exact v_Main_heap_39 X hN D
  · refine zv_iload X d_Main_heap_11 6 rfl ?_
    refine zv_iconst X d_Main_heap_13 ?_
    refine zv_iconst X d_Main_heap_14 ?_
    refine zv_cSP1 X (av := [zi v6, zi 0, zi 1]) (st := []) (c_Main_within Γ.2.1 X.2.2.2.2.2.2.2.1 hN v6 0 1 D) mk_Main_61 ⟨rfl, rfl, Nat.le_of_ble_eq_true rfl, Nat.le_of_ble_eq_true rfl⟩ rfl (Nat.le_of_ble_eq_true rfl) d_Main_heap_15 (fun r2 hr2 => ?_)
    refine zv_if_eq X (y := 0) (tgt := 39) d_Main_heap_18 (by decide) (fun h18 => ?_) (fun h18 => ?_)
    · refine zv_sub X [] rfl ?_
      exact v_Main_heap_39 X hN D
    · refine zv_aload_n X d_Main_heap_21 rfl 0 rfl ?_
      refine zv_get X (ci := 6) rfl i_Main (za_1 hN) 3 (by decide) lk_Main_33 rfl rfl d_Main_heap_22 ?_
      refine zv_iload_n X d_Main_heap_25 rfl 2 rfl ?_
      refine zv_iload_n X d_Main_heap_26 rfl 3 rfl ?_
      refine zv_iload X d_Main_heap_27 4 rfl ?_
      refine zv_iload X d_Main_heap_29 5 rfl ?_
      refine zv_bipush X d_Main_heap_31 (by decide +kernel) ?_
      refine zv_cVM1 X (av := [zi v2, zi v3, zi v4, zi v5, zi 8]) (st := []) (ci := 3) (c_Heap_pile Γ.2.1 X.2.2.2.2.2.2.2.1 hN v2 v3 v4 v5 8 D) mk_Main_144 rfl (za_10 hN) ⟨rfl, rfl, Nat.le_of_ble_eq_true rfl, Nat.le_of_ble_eq_true rfl⟩ rfl (Nat.le_of_ble_eq_true rfl) d_Main_heap_33 (fun r3 D4 hr3 => ?_)
      refine zv_if_ne X (y := 0) (tgt := 43) d_Main_heap_36 (by decide) (fun h36 => ?_) (fun h36 => ?_)
      · refine zv_lconst X (x := 0) d_Main_heap_43 (by decide +kernel) ?_
        refine zv_lstore X (lv2 := [(7, zl 0), (0, zr Z 1), (1, zi v1), (2, zi v2), (3, zi v3), (4, zi v4), (5, zi v5), (6, zi v6)]) d_Main_heap_44 (by decide) rfl ?_
        refine zv_iconst X d_Main_heap_46 ?_
        refine zv_istore X (lv2 := [(9, zi 0), (7, zl 0), (0, zr Z 1), (1, zi v1), (2, zi v2), (3, zi v3), (4, zi v4), (5, zi v5), (6, zi v6)]) d_Main_heap_47 (by decide) rfl ?_
        refine zv_sub X [2, 3, 8, 1, 0] rfl ?_
        exact v_Main_heap_49 X hN v1 v6 D4 zF 0 0
      · refine zv_sub X [] rfl ?_
        exact v_Main_heap_39 X hN D4
set_option maxRecDepth 100000 in
theorem v_Main_most_76 {Γ : Gt} {Z : Zt} (X : Cx Γ Z prog_1_method_13_code R_Main 11 (some .int) rm_Main_most) (hN : 143 ≤ Z.2.2.2.1) (v5 v6 v8 : Int)  (K17 : Int → Int → Int → Option (Int × Mm)) (D : Mm) (hK17 : ∀ (v5 v6 v8 : Int), Zv Γ Z 11 (QfM Γ Z 1) (K17 v5 v6 v8) D 29 [(0, zr Z 1), (5, zi v5), (6, zl v6), (8, zi v8)] []) : Zv Γ Z 11 (QfM Γ Z 1) (f_Main_most_76 v5 v6 v8 K17 D) D 76 [(0, zr Z 1), (5, zi v5), (6, zl v6), (8, zi v8)] [] := by
  unfold f_Main_most_76
  refine zv_iinc X (lv2 := [(8, zi (v8 + 1)), (0, zr Z 1), (5, zi v5), (6, zl v6)]) d_Main_most_76 3 rfl (by decide) rfl ?_
  refine zv_goto X (tgt := 29) d_Main_most_79 (by decide) ?_
  refine zv_sub X [1, 2, 3, 0] rfl ?_
  exact hK17 v5 v6 (v8 + 1)
set_option maxRecDepth 100000 in
theorem v_Main_most_29 {Γ : Gt} {Z : Zt} (X : Cx Γ Z prog_1_method_13_code R_Main 11 (some .int) rm_Main_most) (hN : 143 ≤ Z.2.2.2.1)   (D : Mm)  : ∀ (n : Nat) (v5 v6 v8 : Int) , Zv Γ Z 11 (QfM Γ Z 1) (f_Main_most_29 D n v5 v6 v8) D 29 [(0, zr Z 1), (5, zi v5), (6, zl v6), (8, zi v8)] [] := by
  intro n
  induction n with
  | zero =>
    intro v5 v6 v8
    exact zv_none
  | succ n ih =>
    intro v5 v6 v8
    rw [f_Main_most_29]
    refine zv_iload X d_Main_most_29 3 rfl ?_
    refine zv_aload_n X d_Main_most_31 rfl 0 rfl ?_
    refine zv_guard (fun hq32 => ?_)
    refine zv_get X (ci := 6) rfl i_Main (za_1 hN) 7 (by decide) lk_Main_51 rfl rfl d_Main_most_32 ?_
    refine zv_get X (ci := 5) rfl i_Quern (zq_0 hN hq32) 0 (by decide) lk_Main_80 rfl rfl d_Main_most_35 ?_
    refine zv_icmp_ge X (tgt := 82) d_Main_most_38 (by decide) (fun h38 => ?_) (fun h38 => ?_)
    · refine zv_iload X d_Main_most_82 1 rfl ?_
      exact zv_iretM X d_Main_most_84
    · refine zv_aload_n X d_Main_most_41 rfl 0 rfl ?_
      refine zv_get X (ci := 6) rfl i_Main (za_1 hN) 3 (by decide) lk_Main_33 rfl rfl d_Main_most_42 ?_
      refine zv_aload_n X d_Main_most_45 rfl 0 rfl ?_
      refine zv_guard (fun hq46 => ?_)
      refine zv_get X (ci := 6) rfl i_Main (za_1 hN) 7 (by decide) lk_Main_51 rfl rfl d_Main_most_46 ?_
      refine zv_get X (ci := 5) rfl i_Quern (zq_0 hN hq46) 2 (by decide) lk_Main_148 rfl rfl d_Main_most_49 ?_
      refine zv_iload X d_Main_most_52 3 rfl ?_
      refine zv_aald X ((D 1 7) + 2 + v8) (zq_1 hN hq46) d_Main_most_54 (by omega) (fun ha54 hb54 => ?_)
      refine zv_cVP2 X (av := [zr Z ((D 1 7) + 2 + v8)]) (st := []) (ci := 3) (c_Heap_productOf Γ.2.1 X.2.2.2.2.2.2.2.1 hN ((D 1 7) + 2 + v8) (zq_1r hN hq46 ha54 hb54) D) mk_Main_152 rfl (za_10 hN) ⟨rfl, rfl, Nat.le_of_ble_eq_true rfl, Nat.le_of_ble_eq_true rfl⟩ rfl (Nat.le_of_ble_eq_true rfl) d_Main_most_55 (fun r1 hr1 => ?_)
      refine zv_lstore X (lv2 := [(9, zl r1), (0, zr Z 1), (5, zi v5), (6, zl v6), (8, zi v8)]) d_Main_most_58 (by decide) rfl ?_
      refine zv_lload X d_Main_most_60 0 rfl ?_
      refine zv_lload X d_Main_most_62 3 rfl ?_
      refine zv_lcmp_le X (tgt := 76) d_Main_most_64 d_Main_most_65 (by decide) (fun h64 => ?_) (fun h64 => ?_)
      · refine zv_sub X [1, 2, 3, 4] rfl ?_
        exact v_Main_most_76 X hN v5 v6 v8 (f_Main_most_29 D n) D ih
      · refine zv_lload X d_Main_most_68 0 rfl ?_
        refine zv_lstore X (lv2 := [(6, zl r1), (9, zl r1), (0, zr Z 1), (5, zi v5), (8, zi v8)]) d_Main_most_70 (by decide) rfl ?_
        refine zv_iload X d_Main_most_72 4 rfl ?_
        refine zv_istore X (lv2 := [(5, zi v8), (6, zl r1), (9, zl r1), (0, zr Z 1), (8, zi v8)]) d_Main_most_74 (by decide) rfl ?_
        refine zv_sub X [3, 0, 1, 4] rfl ?_
        exact v_Main_most_76 X hN v8 r1 v8 (f_Main_most_29 D n) D ih
set_option maxRecDepth 100000 in
theorem c_Main_most (l : Launch) {Z : Zt} (hZ : Zok Z) (hN : 143 ≤ Z.2.2.2.1) (v1 v2 v3 v4 : Int)  (D : Mm) : CtM l Z y_Main_most prog_1_method_13_code 11 (some .int) rm_Main_most 1 [zr Z 1, zi v1, zi v2, zi v3, zi v4] D (f_Main_most v1 v2 v3 v4 D) := by
  refine zm_M (lv := [(0, zr Z 1), (1, zi v1), (2, zi v2), (3, zi v3), (4, zi v4)]) hZ (by decide +kernel) rfl (Nat.le_of_ble_eq_true rfl) rfl (fun Γ hl X => ?_)
  subst hl
  unfold f_Main_most
  refine zv_aload_n X d_Main_most_0 rfl 0 rfl ?_
  refine zv_get X (ci := 6) rfl i_Main (za_1 hN) 3 (by decide) lk_Main_33 rfl rfl d_Main_most_1 ?_
  refine zv_iload_n X d_Main_most_4 rfl 1 rfl ?_
  refine zv_iload_n X d_Main_most_5 rfl 2 rfl ?_
  refine zv_iload_n X d_Main_most_6 rfl 3 rfl ?_
  refine zv_iload X d_Main_most_7 4 rfl ?_
  refine zv_bipush X d_Main_most_9 (by decide +kernel) ?_
  refine zv_cVM1 X (av := [zi v1, zi v2, zi v3, zi v4, zi 8]) (st := []) (ci := 3) (c_Heap_pile Γ.2.1 X.2.2.2.2.2.2.2.1 hN v1 v2 v3 v4 8 D) mk_Main_144 rfl (za_10 hN) ⟨rfl, rfl, Nat.le_of_ble_eq_true rfl, Nat.le_of_ble_eq_true rfl⟩ rfl (Nat.le_of_ble_eq_true rfl) d_Main_most_11 (fun r1 D2 hr1 => ?_)
  refine zv_if_ne X (y := 0) (tgt := 19) d_Main_most_14 (by decide) (fun h14 => ?_) (fun h14 => ?_)
  · refine zv_bipush X d_Main_most_19 (by decide +kernel) ?_
    refine zv_istore X (lv2 := [(5, zi (-4)), (0, zr Z 1), (1, zi v1), (2, zi v2), (3, zi v3), (4, zi v4)]) d_Main_most_21 (by decide) rfl ?_
    refine zv_lconst X (x := 0) d_Main_most_23 (by decide +kernel) ?_
    refine zv_lstore X (lv2 := [(6, zl 0), (5, zi (-4)), (0, zr Z 1), (1, zi v1), (2, zi v2), (3, zi v3), (4, zi v4)]) d_Main_most_24 (by decide) rfl ?_
    refine zv_iconst X d_Main_most_26 ?_
    refine zv_istore X (lv2 := [(8, zi 0), (6, zl 0), (5, zi (-4)), (0, zr Z 1), (1, zi v1), (2, zi v2), (3, zi v3), (4, zi v4)]) d_Main_most_27 (by decide) rfl ?_
    refine zv_sub X [3, 2, 1, 0] rfl ?_
    exact v_Main_most_29 X hN D2 zF (-4) 0 0
  · refine zv_iconst X d_Main_most_17 ?_
    exact zv_iretM X d_Main_most_18
set_option maxRecDepth 100000 in
theorem v_Heap_bestShare_47 {Γ : Gt} {Z : Zt} (X : Cx Γ Z prog_4_method_4_code R_Heap 9 (some .int) rm_Heap_bestShare) (hN : 143 ≤ Z.2.2.2.1) (v1 v2 v3 v4 v6 : Int) (hv1 : Zin Z v1 0 4) (hv2 : Zin Z v2 0 4) (K6 : Int → Int → Int → Option (Int)) (D : Mm) (hK6 : ∀ (v3 v4 v6 : Int), Zv Γ Z 9 (QfP Γ Z 1 D) (K6 v3 v4 v6) D 10 [(0, zr Z 10), (1, zr Z v1), (2, zr Z v2), (3, zi v3), (4, zl v4), (6, zi v6)] []) : Zv Γ Z 9 (QfP Γ Z 1 D) (f_Heap_bestShare_47 v1 v2 v3 v4 v6 K6 D) D 47 [(0, zr Z 10), (1, zr Z v1), (2, zr Z v2), (3, zi v3), (4, zl v4), (6, zi v6)] [] := by
  unfold f_Heap_bestShare_47
  refine zv_iinc X (lv2 := [(6, zi (v6 + 1)), (0, zr Z 10), (1, zr Z v1), (2, zr Z v2), (3, zi v3), (4, zl v4)]) d_Heap_bestShare_47 5 rfl (by decide) rfl ?_
  refine zv_goto X (tgt := 10) d_Heap_bestShare_50 (by decide) ?_
  refine zv_sub X [1, 2, 3, 4, 5, 0] rfl ?_
  exact hK6 v3 v4 (v6 + 1)
set_option maxRecDepth 100000 in
theorem v_Heap_bestShare_10 {Γ : Gt} {Z : Zt} (X : Cx Γ Z prog_4_method_4_code R_Heap 9 (some .int) rm_Heap_bestShare) (hN : 143 ≤ Z.2.2.2.1) (v1 v2 : Int) (hv1 : Zin Z v1 0 4) (hv2 : Zin Z v2 0 4)  (D : Mm)  : ∀ (n : Nat) (v3 v4 v6 : Int) , Zv Γ Z 9 (QfP Γ Z 1 D) (f_Heap_bestShare_10 v1 v2 D n v3 v4 v6) D 10 [(0, zr Z 10), (1, zr Z v1), (2, zr Z v2), (3, zi v3), (4, zl v4), (6, zi v6)] [] := by
  intro n
  induction n with
  | zero =>
    intro v3 v4 v6
    exact zv_none
  | succ n ih =>
    intro v3 v4 v6
    rw [f_Heap_bestShare_10]
    refine zv_iload X d_Heap_bestShare_10 5 rfl ?_
    refine zv_bipush X d_Heap_bestShare_12 (by decide +kernel) ?_
    refine zv_icmp_gt X (tgt := 53) d_Heap_bestShare_14 (by decide) (fun h14 => ?_) (fun h14 => ?_)
    · refine zv_iload_n X d_Heap_bestShare_53 rfl 3 rfl ?_
      exact zv_iretP X d_Heap_bestShare_54
    · refine zv_aload_n X d_Heap_bestShare_17 rfl 0 rfl ?_
      refine zv_iload X d_Heap_bestShare_18 5 rfl ?_
      refine zv_aload_n X d_Heap_bestShare_20 rfl 1 rfl ?_
      refine zv_bipush X d_Heap_bestShare_21 (by decide +kernel) ?_
      refine zv_iload X d_Heap_bestShare_23 5 rfl ?_
      refine zv_isub X d_Heap_bestShare_25 ?_
      refine zv_aload_n X d_Heap_bestShare_26 rfl 2 rfl ?_
      refine zv_cVP2 X (av := [zi v6, zr Z v1, zi (10 - v6), zr Z v2]) (st := []) (ci := 3) (c_Heap_productOfMix Γ.2.1 X.2.2.2.2.2.2.2.1 hN v6 v1 (10 - v6) v2 hv1 hv2 D) mk_Heap_19 rfl (za_10 hN) ⟨rfl, rfl, Nat.le_of_ble_eq_true rfl, Nat.le_of_ble_eq_true rfl⟩ rfl (Nat.le_of_ble_eq_true rfl) d_Heap_bestShare_27 (fun r1 hr1 => ?_)
      refine zv_lstore X (lv2 := [(7, zl r1), (0, zr Z 10), (1, zr Z v1), (2, zr Z v2), (3, zi v3), (4, zl v4), (6, zi v6)]) d_Heap_bestShare_30 (by decide) rfl ?_
      refine zv_lload X d_Heap_bestShare_32 0 rfl ?_
      refine zv_lload X d_Heap_bestShare_34 5 rfl ?_
      refine zv_lcmp_le X (tgt := 47) d_Heap_bestShare_36 d_Heap_bestShare_37 (by decide) (fun h36 => ?_) (fun h36 => ?_)
      · refine zv_sub X [1, 2, 3, 4, 5, 6] rfl ?_
        exact v_Heap_bestShare_47 X hN v1 v2 v3 v4 v6 hv1 hv2 (f_Heap_bestShare_10 v1 v2 D n) D ih
      · refine zv_lload X d_Heap_bestShare_40 0 rfl ?_
        refine zv_lstore X (lv2 := [(4, zl r1), (7, zl r1), (0, zr Z 10), (1, zr Z v1), (2, zr Z v2), (3, zi v3), (6, zi v6)]) d_Heap_bestShare_42 (by decide) rfl ?_
        refine zv_iload X d_Heap_bestShare_44 6 rfl ?_
        refine zv_istore_n X (lv2 := [(3, zi v6), (4, zl r1), (7, zl r1), (0, zr Z 10), (1, zr Z v1), (2, zr Z v2), (6, zi v6)]) d_Heap_bestShare_46 rfl (by decide) rfl ?_
        refine zv_sub X [3, 4, 5, 0, 1, 6] rfl ?_
        exact v_Heap_bestShare_47 X hN v1 v2 v6 r1 v6 hv1 hv2 (f_Heap_bestShare_10 v1 v2 D n) D ih
set_option maxRecDepth 100000 in
theorem c_Heap_bestShare (l : Launch) {Z : Zt} (hZ : Zok Z) (hN : 143 ≤ Z.2.2.2.1) (v1 v2 : Int) (hv1 : Zin Z v1 0 4) (hv2 : Zin Z v2 0 4) (D : Mm) : CtP l Z y_Heap_bestShare prog_4_method_4_code 9 (some .int) rm_Heap_bestShare 1 [zr Z 10, zr Z v1, zr Z v2] D (f_Heap_bestShare v1 v2 D) := by
  refine zm_P (lv := [(0, zr Z 10), (1, zr Z v1), (2, zr Z v2)]) hZ (by decide +kernel) rfl (Nat.le_of_ble_eq_true rfl) rfl (fun Γ hl X => ?_)
  subst hl
  unfold f_Heap_bestShare
  refine zv_iconst X d_Heap_bestShare_0 ?_
  refine zv_istore_n X (lv2 := [(3, zi 0), (0, zr Z 10), (1, zr Z v1), (2, zr Z v2)]) d_Heap_bestShare_1 rfl (by decide) rfl ?_
  refine zv_ldc2 X (-1) kc_Heap_23 (by decide +kernel) d_Heap_bestShare_2 ?_
  refine zv_lstore X (lv2 := [(4, zl (-1)), (3, zi 0), (0, zr Z 10), (1, zr Z v1), (2, zr Z v2)]) d_Heap_bestShare_5 (by decide) rfl ?_
  refine zv_iconst X d_Heap_bestShare_7 ?_
  refine zv_istore X (lv2 := [(6, zi 0), (4, zl (-1)), (3, zi 0), (0, zr Z 10), (1, zr Z v1), (2, zr Z v2)]) d_Heap_bestShare_8 (by decide) rfl ?_
  refine zv_sub X [3, 4, 5, 2, 1, 0] rfl ?_
  exact v_Heap_bestShare_10 X hN v1 v2 hv1 hv2 D zF 0 (-1) 0
set_option maxRecDepth 100000 in
theorem c_Main_shares (l : Launch) {Z : Zt} (hZ : Zok Z) (hN : 143 ≤ Z.2.2.2.1) (v1 v2 v3 v4 v5 v6 : Int)  (D : Mm) : CtM l Z y_Main_shares prog_1_method_14_code 7 (some .int) rm_Main_shares 1 [zr Z 1, zi v1, zi v2, zi v3, zi v4, zi v5, zi v6] D (f_Main_shares v1 v2 v3 v4 v5 v6 D) := by
  refine zm_M (lv := [(0, zr Z 1), (1, zi v1), (2, zi v2), (3, zi v3), (4, zi v4), (5, zi v5), (6, zi v6)]) hZ (by decide +kernel) rfl (Nat.le_of_ble_eq_true rfl) rfl (fun Γ hl X => ?_)
  subst hl
  unfold f_Main_shares
  refine zv_aload_n X d_Main_shares_0 rfl 0 rfl ?_
  refine zv_guard (fun hq1 => ?_)
  refine zv_get X (ci := 6) rfl i_Main (za_1 hN) 7 (by decide) lk_Main_51 rfl rfl d_Main_shares_1 ?_
  refine zv_iload_n X d_Main_shares_4 rfl 1 rfl ?_
  refine zv_cVP1 X (av := [zi v1]) (st := []) (ci := 5) (c_Quern_hasSort Γ.2.1 X.2.2.2.2.2.2.2.1 hN (D 1 7) v1 hq1 D) mk_Main_110 rfl (zq_0 hN hq1) ⟨rfl, rfl, Nat.le_of_ble_eq_true rfl, Nat.le_of_ble_eq_true rfl⟩ rfl (Nat.le_of_ble_eq_true rfl) d_Main_shares_5 (fun r1 hr1 => ?_)
  refine zv_if_eq X (y := 0) (tgt := 27) d_Main_shares_8 (by decide) (fun h8 => ?_) (fun h8 => ?_)
  · refine zv_iconst X d_Main_shares_27 ?_
    exact zv_iretM X d_Main_shares_28
  · refine zv_aload_n X d_Main_shares_11 rfl 0 rfl ?_
    refine zv_guard (fun hq12 => ?_)
    refine zv_get X (ci := 6) rfl i_Main (za_1 hN) 7 (by decide) lk_Main_51 rfl rfl d_Main_shares_12 ?_
    refine zv_iload_n X d_Main_shares_15 rfl 2 rfl ?_
    refine zv_cVP1 X (av := [zi v2]) (st := []) (ci := 5) (c_Quern_hasSort Γ.2.1 X.2.2.2.2.2.2.2.1 hN (D 1 7) v2 hq12 D) mk_Main_110 rfl (zq_0 hN hq12) ⟨rfl, rfl, Nat.le_of_ble_eq_true rfl, Nat.le_of_ble_eq_true rfl⟩ rfl (Nat.le_of_ble_eq_true rfl) d_Main_shares_16 (fun r2 hr2 => ?_)
    refine zv_if_eq X (y := 0) (tgt := 27) d_Main_shares_19 (by decide) (fun h19 => ?_) (fun h19 => ?_)
    · refine zv_iconst X d_Main_shares_27 ?_
      exact zv_iretM X d_Main_shares_28
    · refine zv_iload_n X d_Main_shares_22 rfl 1 rfl ?_
      refine zv_iload_n X d_Main_shares_23 rfl 2 rfl ?_
      refine zv_icmp_ne X (tgt := 29) d_Main_shares_24 (by decide) (fun h24 => ?_) (fun h24 => ?_)
      · refine zv_aload_n X d_Main_shares_29 rfl 0 rfl ?_
        refine zv_get X (ci := 6) rfl i_Main (za_1 hN) 3 (by decide) lk_Main_33 rfl rfl d_Main_shares_30 ?_
        refine zv_iload_n X d_Main_shares_33 rfl 3 rfl ?_
        refine zv_iload X d_Main_shares_34 4 rfl ?_
        refine zv_iload X d_Main_shares_36 5 rfl ?_
        refine zv_iload X d_Main_shares_38 6 rfl ?_
        refine zv_bipush X d_Main_shares_40 (by decide +kernel) ?_
        refine zv_cVM1 X (av := [zi v3, zi v4, zi v5, zi v6, zi 6]) (st := []) (ci := 3) (c_Heap_pile Γ.2.1 X.2.2.2.2.2.2.2.1 hN v3 v4 v5 v6 6 D) mk_Main_144 rfl (za_10 hN) ⟨rfl, rfl, Nat.le_of_ble_eq_true rfl, Nat.le_of_ble_eq_true rfl⟩ rfl (Nat.le_of_ble_eq_true rfl) d_Main_shares_42 (fun r3 D4 hr3 => ?_)
        refine zv_if_ne X (y := 0) (tgt := 50) d_Main_shares_45 (by decide) (fun h45 => ?_) (fun h45 => ?_)
        · refine zv_aload_n X d_Main_shares_50 rfl 0 rfl ?_
          refine zv_get X (ci := 6) rfl i_Main (za_1 hN) 3 (by decide) lk_Main_33 rfl rfl d_Main_shares_51 ?_
          refine zv_aload_n X d_Main_shares_54 rfl 0 rfl ?_
          refine zv_guard (fun hq55 => ?_)
          refine zv_get X (ci := 6) rfl i_Main (za_1 hN) 7 (by decide) lk_Main_51 rfl rfl d_Main_shares_55 ?_
          refine zv_get X (ci := 5) rfl i_Quern (zq_0 hN hq55) 2 (by decide) lk_Main_148 rfl rfl d_Main_shares_58 ?_
          refine zv_iload_n X d_Main_shares_61 rfl 1 rfl ?_
          refine zv_aald X ((D4 1 7) + 2 + v1) (zq_1 hN hq55) d_Main_shares_62 (by omega) (fun ha62 hb62 => ?_)
          refine zv_aload_n X d_Main_shares_63 rfl 0 rfl ?_
          refine zv_guard (fun hq64 => ?_)
          refine zv_get X (ci := 6) rfl i_Main (za_1 hN) 7 (by decide) lk_Main_51 rfl rfl d_Main_shares_64 ?_
          refine zv_get X (ci := 5) rfl i_Quern (zq_0 hN hq64) 2 (by decide) lk_Main_148 rfl rfl d_Main_shares_67 ?_
          refine zv_iload_n X d_Main_shares_70 rfl 2 rfl ?_
          refine zv_aald X ((D4 1 7) + 2 + v2) (zq_1 hN hq64) d_Main_shares_71 (by omega) (fun ha71 hb71 => ?_)
          refine zv_cVP1 X (av := [zr Z ((D4 1 7) + 2 + v1), zr Z ((D4 1 7) + 2 + v2)]) (st := []) (ci := 3) (c_Heap_bestShare Γ.2.1 X.2.2.2.2.2.2.2.1 hN ((D4 1 7) + 2 + v1) ((D4 1 7) + 2 + v2) (zq_1r hN hq55 ha62 hb62) (zq_1r hN hq64 ha71 hb71) D4) mk_Main_158 rfl (za_10 hN) ⟨rfl, rfl, Nat.le_of_ble_eq_true rfl, Nat.le_of_ble_eq_true rfl⟩ rfl (Nat.le_of_ble_eq_true rfl) d_Main_shares_72 (fun r5 hr5 => ?_)
          exact zv_iretM X d_Main_shares_75
        · refine zv_iconst X d_Main_shares_48 ?_
          exact zv_iretM X d_Main_shares_49
      · refine zv_iconst X d_Main_shares_27 ?_
        exact zv_iretM X d_Main_shares_28
set_option maxRecDepth 100000 in
theorem v_Quern_cookedWave_47 {Γ : Gt} {Z : Zt} (X : Cx Γ Z prog_6_method_25_code R_Quern 6 (some .int) rm_Quern_cookedWave) (hN : 143 ≤ Z.2.2.2.1) (v0 v1 v3 v4 s0 : Int) (hv0 : isQ v0)  (D : Mm)  : Zv Γ Z 6 (QfP Γ Z 1 D) (f_Quern_cookedWave_47 v0 v1 v3 v4 s0 D) D 47 [(0, zr Z v0), (1, zi v1), (3, zi v3), (4, zi v4)] [zi s0] := by
  unfold f_Quern_cookedWave_47
  refine zv_istore X (lv2 := [(5, zi s0), (0, zr Z v0), (1, zi v1), (3, zi v3), (4, zi v4)]) d_Quern_cookedWave_47 (by decide) rfl ?_
  refine zv_aload_n X d_Quern_cookedWave_49 rfl 1 rfl ?_
  refine zv_get X (ci := 5) rfl i_Quern (zq_0 hN hv0) 2 (by decide) lk_Quern_11 rfl rfl d_Quern_cookedWave_50 ?_
  refine zv_iload_n X d_Quern_cookedWave_53 rfl 2 rfl ?_
  refine zv_aald X (v0 + 2 + v1) (zq_1 hN hv0) d_Quern_cookedWave_54 (by omega) (fun ha54 hb54 => ?_)
  refine zv_iload_n X d_Quern_cookedWave_55 rfl 3 rfl ?_
  refine zv_iald X (zq_1r hN hv0 ha54 hb54) d_Quern_cookedWave_56 (fun ha56 hb56 => ?_)
  refine zv_iload X d_Quern_cookedWave_57 4 rfl ?_
  refine zv_isub X d_Quern_cookedWave_59 ?_
  refine zv_iload X d_Quern_cookedWave_60 0 rfl ?_
  refine zv_iadd X d_Quern_cookedWave_62 ?_
  exact zv_iretP X d_Quern_cookedWave_63
set_option maxRecDepth 100000 in
theorem v_Quern_cookedWave_22 {Γ : Gt} {Z : Zt} (X : Cx Γ Z prog_6_method_25_code R_Quern 6 (some .int) rm_Quern_cookedWave) (hN : 143 ≤ Z.2.2.2.1) (v0 v1 v2 v3 s0 : Int) (hv0 : isQ v0)  (D : Mm)  : Zv Γ Z 6 (QfP Γ Z 1 D) (f_Quern_cookedWave_22 v0 v1 v2 v3 s0 D) D 22 [(0, zr Z v0), (1, zi v1), (2, zi v2), (3, zi v3)] [zi s0] := by
  unfold f_Quern_cookedWave_22
  refine zv_istore X (lv2 := [(4, zi s0), (0, zr Z v0), (1, zi v1), (2, zi v2), (3, zi v3)]) d_Quern_cookedWave_22 (by decide) rfl ?_
  refine zv_iload_n X d_Quern_cookedWave_24 rfl 4 rfl ?_
  refine zv_if_le X (y := 0) (tgt := 46) d_Quern_cookedWave_25 (by decide) (fun h25 => ?_) (fun h25 => ?_)
  · refine zv_iconst X d_Quern_cookedWave_46 ?_
    refine zv_sub X [1, 2, 4, 0] rfl ?_
    exact v_Quern_cookedWave_47 X hN v0 v1 v3 s0 0 hv0 D
  · refine zv_aload_n X d_Quern_cookedWave_28 rfl 1 rfl ?_
    refine zv_get X (ci := 5) rfl i_Quern (zq_0 hN hv0) 2 (by decide) lk_Quern_11 rfl rfl d_Quern_cookedWave_29 ?_
    refine zv_iload_n X d_Quern_cookedWave_32 rfl 2 rfl ?_
    refine zv_aald X (v0 + 2 + v1) (zq_1 hN hv0) d_Quern_cookedWave_33 (by omega) (fun ha33 hb33 => ?_)
    refine zv_iload_n X d_Quern_cookedWave_34 rfl 4 rfl ?_
    refine zv_iconst X d_Quern_cookedWave_35 ?_
    refine zv_isub X d_Quern_cookedWave_36 ?_
    refine zv_iald X (zq_1r hN hv0 ha33 hb33) d_Quern_cookedWave_37 (fun ha37 hb37 => ?_)
    refine zv_iload_n X d_Quern_cookedWave_38 rfl 3 rfl ?_
    refine zv_imul X d_Quern_cookedWave_39 ?_
    refine zv_bipush X d_Quern_cookedWave_40 (by decide +kernel) ?_
    refine zv_idivK X d_Quern_cookedWave_42 (by decide +kernel) ?_
    refine zv_goto X (tgt := 47) d_Quern_cookedWave_43 (by decide) ?_
    refine zv_sub X [1, 2, 4, 0] rfl ?_
    exact v_Quern_cookedWave_47 X hN v0 v1 v3 s0 (jdiv ((D (v0 + 2 + v1) (v3 - 1)) * v2) 100) hv0 D
set_option maxRecDepth 100000 in
theorem c_Quern_cookedWave (l : Launch) {Z : Zt} (hZ : Zok Z) (hN : 143 ≤ Z.2.2.2.1) (v0 v1 v2 v3 : Int) (hv0 : isQ v0) (D : Mm) : CtP l Z y_Quern_cookedWave prog_6_method_25_code 6 (some .int) rm_Quern_cookedWave 1 [zr Z v0, zi v1, zi v2, zi v3] D (f_Quern_cookedWave v0 v1 v2 v3 D) := by
  refine zm_P (lv := [(0, zr Z v0), (1, zi v1), (2, zi v2), (3, zi v3)]) hZ (by decide +kernel) rfl (Nat.le_of_ble_eq_true rfl) rfl (fun Γ hl X => ?_)
  subst hl
  unfold f_Quern_cookedWave
  refine zv_iload_n X d_Quern_cookedWave_0 rfl 3 rfl ?_
  refine zv_iconst X d_Quern_cookedWave_1 ?_
  refine zv_icmp_ge X (tgt := 21) d_Quern_cookedWave_2 (by decide) (fun h2 => ?_) (fun h2 => ?_)
  · refine zv_iconst X d_Quern_cookedWave_21 ?_
    exact v_Quern_cookedWave_22 X hN v0 v1 v2 v3 0 hv0 D
  · refine zv_aload_n X d_Quern_cookedWave_5 rfl 0 rfl ?_
    refine zv_get X (ci := 5) rfl i_Quern (zq_0 hN hv0) 2 (by decide) lk_Quern_11 rfl rfl d_Quern_cookedWave_6 ?_
    refine zv_iload_n X d_Quern_cookedWave_9 rfl 1 rfl ?_
    refine zv_aald X (v0 + 2 + v1) (zq_1 hN hv0) d_Quern_cookedWave_10 (by omega) (fun ha10 hb10 => ?_)
    refine zv_iload_n X d_Quern_cookedWave_11 rfl 3 rfl ?_
    refine zv_iald X (zq_1r hN hv0 ha10 hb10) d_Quern_cookedWave_12 (fun ha12 hb12 => ?_)
    refine zv_iload_n X d_Quern_cookedWave_13 rfl 2 rfl ?_
    refine zv_imul X d_Quern_cookedWave_14 ?_
    refine zv_bipush X d_Quern_cookedWave_15 (by decide +kernel) ?_
    refine zv_idivK X d_Quern_cookedWave_17 (by decide +kernel) ?_
    refine zv_goto X (tgt := 22) d_Quern_cookedWave_18 (by decide) ?_
    exact v_Quern_cookedWave_22 X hN v0 v1 v2 v3 (jdiv ((D (v0 + 2 + v1) v3) * v2) 100) hv0 D
set_option maxRecDepth 100000 in
theorem c_Math_abs (l : Launch) {Z : Zt} (hZ : Zok Z) (v0 : Int)  (D : Mm) : CtP l Z y_Math_abs prog_12_method_59_code 1 (some .int) rm_Math_abs 1 [zi v0] D (f_Math_abs v0 D) := by
  refine zm_PF (lv := [(0, zi v0)]) hZ (by decide +kernel) rfl (Nat.le_of_ble_eq_true rfl) rfl (fun Γ hl X => ?_)
  subst hl
  unfold f_Math_abs
  refine zv_iload_n X d_Math_abs_0 rfl 0 rfl ?_
  refine zv_if_ge X (y := 0) (tgt := 9) d_Math_abs_1 (by decide) (fun h1 => ?_) (fun h1 => ?_)
  · refine zv_iload_n X d_Math_abs_9 rfl 0 rfl ?_
    exact zv_iretP X d_Math_abs_10
  · refine zv_iload_n X d_Math_abs_4 rfl 0 rfl ?_
    refine zv_ineg X d_Math_abs_5 ?_
    refine zv_goto X (tgt := 10) d_Math_abs_6 (by decide) ?_
    exact zv_iretP X d_Math_abs_10
set_option maxRecDepth 100000 in
theorem v_Quern_differenceOfCooked_6 {Γ : Gt} {Z : Zt} (X : Cx Γ Z prog_6_method_24_code R_Quern 6 (some .int) rm_Quern_differenceOfCooked) (hN : 143 ≤ Z.2.2.2.1) (v0 v1 v2 v3 : Int) (hv0 : isQ v0)  (D : Mm)  : ∀ (n : Nat) (v4 v5 : Int) , Zv Γ Z 6 (QfP Γ Z 1 D) (f_Quern_differenceOfCooked_6 v0 v1 v2 v3 D n v4 v5) D 6 [(0, zr Z v0), (1, zi v1), (2, zi v2), (3, zi v3), (4, zi v4), (5, zi v5)] [] := by
  intro n
  induction n with
  | zero =>
    intro v4 v5
    exact zv_none
  | succ n ih =>
    intro v4 v5
    rw [f_Quern_differenceOfCooked_6]
    refine zv_iload X d_Quern_differenceOfCooked_6 5 rfl ?_
    refine zv_iconst X d_Quern_differenceOfCooked_8 ?_
    refine zv_icmp_ge X (tgt := 44) d_Quern_differenceOfCooked_9 (by decide) (fun h9 => ?_) (fun h9 => ?_)
    · refine zv_iload X d_Quern_differenceOfCooked_44 4 rfl ?_
      exact zv_iretP X d_Quern_differenceOfCooked_46
    · refine zv_iload X d_Quern_differenceOfCooked_12 4 rfl ?_
      refine zv_aload_n X d_Quern_differenceOfCooked_14 rfl 0 rfl ?_
      refine zv_iload_n X d_Quern_differenceOfCooked_15 rfl 1 rfl ?_
      refine zv_iload_n X d_Quern_differenceOfCooked_16 rfl 2 rfl ?_
      refine zv_iload X d_Quern_differenceOfCooked_17 5 rfl ?_
      refine zv_cVP1 X (av := [zi v1, zi v2, zi v5]) (st := [zi v4]) (ci := 5) (c_Quern_cookedWave Γ.2.1 X.2.2.2.2.2.2.2.1 hN v0 v1 v2 v5 hv0 D) mk_Quern_142 rfl (zq_0 hN hv0) ⟨rfl, rfl, Nat.le_of_ble_eq_true rfl, Nat.le_of_ble_eq_true rfl⟩ rfl (Nat.le_of_ble_eq_true rfl) d_Quern_differenceOfCooked_19 (fun r1 hr1 => ?_)
      refine zv_aload_n X d_Quern_differenceOfCooked_22 rfl 0 rfl ?_
      refine zv_get X (ci := 5) rfl i_Quern (zq_0 hN hv0) 2 (by decide) lk_Quern_11 rfl rfl d_Quern_differenceOfCooked_23 ?_
      refine zv_iload_n X d_Quern_differenceOfCooked_26 rfl 3 rfl ?_
      refine zv_aald X (v0 + 2 + v3) (zq_1 hN hv0) d_Quern_differenceOfCooked_27 (by omega) (fun ha27 hb27 => ?_)
      refine zv_iload X d_Quern_differenceOfCooked_28 5 rfl ?_
      refine zv_iald X (zq_1r hN hv0 ha27 hb27) d_Quern_differenceOfCooked_30 (fun ha30 hb30 => ?_)
      refine zv_isub X d_Quern_differenceOfCooked_31 ?_
      refine zv_cSP1 X (av := [zi (r1 - (D (v0 + 2 + v3) v5))]) (st := [zi v4]) (c_Math_abs Γ.2.1 X.2.2.2.2.2.2.2.1 (r1 - (D (v0 + 2 + v3) v5)) D) mk_Quern_145 ⟨rfl, rfl, Nat.le_of_ble_eq_true rfl, Nat.le_of_ble_eq_true rfl⟩ rfl (Nat.le_of_ble_eq_true rfl) d_Quern_differenceOfCooked_32 (fun r2 hr2 => ?_)
      refine zv_iadd X d_Quern_differenceOfCooked_35 ?_
      refine zv_istore X (lv2 := [(4, zi (v4 + r2)), (0, zr Z v0), (1, zi v1), (2, zi v2), (3, zi v3), (5, zi v5)]) d_Quern_differenceOfCooked_36 (by decide) rfl ?_
      refine zv_iinc X (lv2 := [(5, zi (v5 + 1)), (4, zi (v4 + r2)), (0, zr Z v0), (1, zi v1), (2, zi v2), (3, zi v3)]) d_Quern_differenceOfCooked_38 5 rfl (by decide) rfl ?_
      refine zv_goto X (tgt := 6) d_Quern_differenceOfCooked_41 (by decide) ?_
      refine zv_sub X [2, 3, 4, 5, 1, 0] rfl ?_
      exact ih (v4 + r2) (v5 + 1)
set_option maxRecDepth 100000 in
theorem c_Quern_differenceOfCooked (l : Launch) {Z : Zt} (hZ : Zok Z) (hN : 143 ≤ Z.2.2.2.1) (v0 v1 v2 v3 : Int) (hv0 : isQ v0) (D : Mm) : CtP l Z y_Quern_differenceOfCooked prog_6_method_24_code 6 (some .int) rm_Quern_differenceOfCooked 1 [zr Z v0, zi v1, zi v2, zi v3] D (f_Quern_differenceOfCooked v0 v1 v2 v3 D) := by
  refine zm_P (lv := [(0, zr Z v0), (1, zi v1), (2, zi v2), (3, zi v3)]) hZ (by decide +kernel) rfl (Nat.le_of_ble_eq_true rfl) rfl (fun Γ hl X => ?_)
  subst hl
  unfold f_Quern_differenceOfCooked
  refine zv_iconst X d_Quern_differenceOfCooked_0 ?_
  refine zv_istore X (lv2 := [(4, zi 0), (0, zr Z v0), (1, zi v1), (2, zi v2), (3, zi v3)]) d_Quern_differenceOfCooked_1 (by decide) rfl ?_
  refine zv_iconst X d_Quern_differenceOfCooked_3 ?_
  refine zv_istore X (lv2 := [(5, zi 0), (4, zi 0), (0, zr Z v0), (1, zi v1), (2, zi v2), (3, zi v3)]) d_Quern_differenceOfCooked_4 (by decide) rfl ?_
  refine zv_sub X [2, 3, 4, 5, 1, 0] rfl ?_
  exact v_Quern_differenceOfCooked_6 X hN v0 v1 v2 v3 hv0 D zF 0 0
set_option maxRecDepth 100000 in
theorem v_Quern_nearOnes_33 {Γ : Gt} {Z : Zt} (X : Cx Γ Z prog_6_method_22_code R_Quern 5 (some .int) rm_Quern_nearOnes) (hN : 143 ≤ Z.2.2.2.1) (v0 v1 v2 v3 v4 : Int) (hv0 : isQ v0) (K4 : Int → Int → Option (Int)) (D : Mm) (hK4 : ∀ (v3 v4 : Int), Zv Γ Z 5 (QfP Γ Z 1 D) (K4 v3 v4) D 5 [(0, zr Z v0), (1, zi v1), (2, zi v2), (3, zi v3), (4, zi v4)] []) : Zv Γ Z 5 (QfP Γ Z 1 D) (f_Quern_nearOnes_33 v0 v1 v2 v3 v4 K4 D) D 33 [(0, zr Z v0), (1, zi v1), (2, zi v2), (3, zi v3), (4, zi v4)] [] := by
  unfold f_Quern_nearOnes_33
  refine zv_iinc X (lv2 := [(4, zi (v4 + 1)), (0, zr Z v0), (1, zi v1), (2, zi v2), (3, zi v3)]) d_Quern_nearOnes_33 4 rfl (by decide) rfl ?_
  refine zv_goto X (tgt := 5) d_Quern_nearOnes_36 (by decide) ?_
  refine zv_sub X [1, 2, 3, 4, 0] rfl ?_
  exact hK4 v3 (v4 + 1)
set_option maxRecDepth 100000 in
theorem v_Quern_nearOnes_5 {Γ : Gt} {Z : Zt} (X : Cx Γ Z prog_6_method_22_code R_Quern 5 (some .int) rm_Quern_nearOnes) (hN : 143 ≤ Z.2.2.2.1) (v0 v1 v2 : Int) (hv0 : isQ v0)  (D : Mm)  : ∀ (n : Nat) (v3 v4 : Int) , Zv Γ Z 5 (QfP Γ Z 1 D) (f_Quern_nearOnes_5 v0 v1 v2 D n v3 v4) D 5 [(0, zr Z v0), (1, zi v1), (2, zi v2), (3, zi v3), (4, zi v4)] [] := by
  intro n
  induction n with
  | zero =>
    intro v3 v4
    exact zv_none
  | succ n ih =>
    intro v3 v4
    rw [f_Quern_nearOnes_5]
    refine zv_iload X d_Quern_nearOnes_5 4 rfl ?_
    refine zv_aload_n X d_Quern_nearOnes_7 rfl 0 rfl ?_
    refine zv_get X (ci := 5) rfl i_Quern (zq_0 hN hv0) 0 (by decide) lk_Quern_44 rfl rfl d_Quern_nearOnes_8 ?_
    refine zv_icmp_ge X (tgt := 39) d_Quern_nearOnes_11 (by decide) (fun h11 => ?_) (fun h11 => ?_)
    · refine zv_iload_n X d_Quern_nearOnes_39 rfl 3 rfl ?_
      exact zv_iretP X d_Quern_nearOnes_40
    · refine zv_aload_n X d_Quern_nearOnes_14 rfl 0 rfl ?_
      refine zv_iload_n X d_Quern_nearOnes_15 rfl 1 rfl ?_
      refine zv_iconst X d_Quern_nearOnes_16 ?_
      refine zv_iload X d_Quern_nearOnes_17 4 rfl ?_
      refine zv_cVP1 X (av := [zi v1, zi 0, zi v4]) (st := []) (ci := 5) (c_Quern_differenceOfCooked Γ.2.1 X.2.2.2.2.2.2.2.1 hN v0 v1 0 v4 hv0 D) mk_Quern_139 rfl (zq_0 hN hv0) ⟨rfl, rfl, Nat.le_of_ble_eq_true rfl, Nat.le_of_ble_eq_true rfl⟩ rfl (Nat.le_of_ble_eq_true rfl) d_Quern_nearOnes_19 (fun r1 hr1 => ?_)
      refine zv_iload_n X d_Quern_nearOnes_22 rfl 2 rfl ?_
      refine zv_icmp_gt X (tgt := 33) d_Quern_nearOnes_23 (by decide) (fun h23 => ?_) (fun h23 => ?_)
      · exact v_Quern_nearOnes_33 X hN v0 v1 v2 v3 v4 hv0 (f_Quern_nearOnes_5 v0 v1 v2 D n) D ih
      · refine zv_iload_n X d_Quern_nearOnes_26 rfl 3 rfl ?_
        refine zv_iconst X d_Quern_nearOnes_27 ?_
        refine zv_iload X d_Quern_nearOnes_28 4 rfl ?_
        refine zv_ishl X d_Quern_nearOnes_30 ?_
        refine zv_ior X d_Quern_nearOnes_31 ?_
        refine zv_istore_n X (lv2 := [(3, zi (jor v3 (jshl 1 v4))), (0, zr Z v0), (1, zi v1), (2, zi v2), (4, zi v4)]) d_Quern_nearOnes_32 rfl (by decide) rfl ?_
        refine zv_sub X [1, 2, 3, 0, 4] rfl ?_
        exact v_Quern_nearOnes_33 X hN v0 v1 v2 (jor v3 (jshl 1 v4)) v4 hv0 (f_Quern_nearOnes_5 v0 v1 v2 D n) D ih
set_option maxRecDepth 100000 in
theorem c_Quern_nearOnes (l : Launch) {Z : Zt} (hZ : Zok Z) (hN : 143 ≤ Z.2.2.2.1) (v0 v1 v2 : Int) (hv0 : isQ v0) (D : Mm) : CtP l Z y_Quern_nearOnes prog_6_method_22_code 5 (some .int) rm_Quern_nearOnes 1 [zr Z v0, zi v1, zi v2] D (f_Quern_nearOnes v0 v1 v2 D) := by
  refine zm_P (lv := [(0, zr Z v0), (1, zi v1), (2, zi v2)]) hZ (by decide +kernel) rfl (Nat.le_of_ble_eq_true rfl) rfl (fun Γ hl X => ?_)
  subst hl
  unfold f_Quern_nearOnes
  refine zv_iconst X d_Quern_nearOnes_0 ?_
  refine zv_istore_n X (lv2 := [(3, zi 0), (0, zr Z v0), (1, zi v1), (2, zi v2)]) d_Quern_nearOnes_1 rfl (by decide) rfl ?_
  refine zv_iconst X d_Quern_nearOnes_2 ?_
  refine zv_istore X (lv2 := [(4, zi 0), (3, zi 0), (0, zr Z v0), (1, zi v1), (2, zi v2)]) d_Quern_nearOnes_3 (by decide) rfl ?_
  refine zv_sub X [2, 3, 4, 1, 0] rfl ?_
  exact v_Quern_nearOnes_5 X hN v0 v1 v2 hv0 D zF 0 0
set_option maxRecDepth 100000 in
theorem v_Integer_numberOfTrailingZeros_74 {Γ : Gt} {Z : Zt} (X : Cx Γ Z prog_11_method_48_code R_Integer 2 (some .int) rm_Integer_numberOfTrailingZeros) (v0 v1 : Int)   (D : Mm)  : Zv Γ Z 2 (QfP Γ Z 1 D) (f_Integer_numberOfTrailingZeros_74 v0 v1 D) D 74 [(0, zi v0), (1, zi v1)] [] := by
  unfold f_Integer_numberOfTrailingZeros_74
  refine zv_iload_n X d_Integer_numberOfTrailingZeros_74 rfl 1 rfl ?_
  refine zv_iload_n X d_Integer_numberOfTrailingZeros_75 rfl 0 rfl ?_
  refine zv_iconst X d_Integer_numberOfTrailingZeros_76 ?_
  refine zv_iushr X d_Integer_numberOfTrailingZeros_77 ?_
  refine zv_iadd X d_Integer_numberOfTrailingZeros_78 ?_
  exact zv_iretP X d_Integer_numberOfTrailingZeros_79
set_option maxRecDepth 100000 in
theorem v_Integer_numberOfTrailingZeros_62 {Γ : Gt} {Z : Zt} (X : Cx Γ Z prog_11_method_48_code R_Integer 2 (some .int) rm_Integer_numberOfTrailingZeros) (v0 v1 : Int)   (D : Mm)  : Zv Γ Z 2 (QfP Γ Z 1 D) (f_Integer_numberOfTrailingZeros_62 v0 v1 D) D 62 [(0, zi v0), (1, zi v1)] [] := by
  unfold f_Integer_numberOfTrailingZeros_62
  refine zv_iload_n X d_Integer_numberOfTrailingZeros_62 rfl 0 rfl ?_
  refine zv_iconst X d_Integer_numberOfTrailingZeros_63 ?_
  refine zv_icmp_le X (tgt := 74) d_Integer_numberOfTrailingZeros_64 (by decide) (fun h64 => ?_) (fun h64 => ?_)
  · exact v_Integer_numberOfTrailingZeros_74 X v0 v1 D
  · refine zv_iinc X (lv2 := [(1, zi (v1 + 2)), (0, zi v0)]) d_Integer_numberOfTrailingZeros_67 1 rfl (by decide) rfl ?_
    refine zv_iload_n X d_Integer_numberOfTrailingZeros_70 rfl 1 rfl ?_
    refine zv_iconst X d_Integer_numberOfTrailingZeros_71 ?_
    refine zv_iushr X d_Integer_numberOfTrailingZeros_72 ?_
    refine zv_istore_n X (lv2 := [(0, zi (jushr v0 2)), (1, zi (v1 + 2))]) d_Integer_numberOfTrailingZeros_73 rfl (by decide) rfl ?_
    exact v_Integer_numberOfTrailingZeros_74 X (jushr v0 2) (v1 + 2) D
set_option maxRecDepth 100000 in
theorem v_Integer_numberOfTrailingZeros_49 {Γ : Gt} {Z : Zt} (X : Cx Γ Z prog_11_method_48_code R_Integer 2 (some .int) rm_Integer_numberOfTrailingZeros) (v0 v1 : Int)   (D : Mm)  : Zv Γ Z 2 (QfP Γ Z 1 D) (f_Integer_numberOfTrailingZeros_49 v0 v1 D) D 49 [(0, zi v0), (1, zi v1)] [] := by
  unfold f_Integer_numberOfTrailingZeros_49
  refine zv_iload_n X d_Integer_numberOfTrailingZeros_49 rfl 0 rfl ?_
  refine zv_bipush X d_Integer_numberOfTrailingZeros_50 (by decide +kernel) ?_
  refine zv_icmp_le X (tgt := 62) d_Integer_numberOfTrailingZeros_52 (by decide) (fun h52 => ?_) (fun h52 => ?_)
  · exact v_Integer_numberOfTrailingZeros_62 X v0 v1 D
  · refine zv_iinc X (lv2 := [(1, zi (v1 + 4)), (0, zi v0)]) d_Integer_numberOfTrailingZeros_55 1 rfl (by decide) rfl ?_
    refine zv_iload_n X d_Integer_numberOfTrailingZeros_58 rfl 1 rfl ?_
    refine zv_iconst X d_Integer_numberOfTrailingZeros_59 ?_
    refine zv_iushr X d_Integer_numberOfTrailingZeros_60 ?_
    refine zv_istore_n X (lv2 := [(0, zi (jushr v0 4)), (1, zi (v1 + 4))]) d_Integer_numberOfTrailingZeros_61 rfl (by decide) rfl ?_
    exact v_Integer_numberOfTrailingZeros_62 X (jushr v0 4) (v1 + 4) D
set_option maxRecDepth 100000 in
theorem v_Integer_numberOfTrailingZeros_34 {Γ : Gt} {Z : Zt} (X : Cx Γ Z prog_11_method_48_code R_Integer 2 (some .int) rm_Integer_numberOfTrailingZeros) (v0 v1 : Int)   (D : Mm)  : Zv Γ Z 2 (QfP Γ Z 1 D) (f_Integer_numberOfTrailingZeros_34 v0 v1 D) D 34 [(0, zi v0), (1, zi v1)] [] := by
  unfold f_Integer_numberOfTrailingZeros_34
  refine zv_iload_n X d_Integer_numberOfTrailingZeros_34 rfl 0 rfl ?_
  refine zv_sipush X d_Integer_numberOfTrailingZeros_35 (by decide +kernel) ?_
  refine zv_icmp_le X (tgt := 49) d_Integer_numberOfTrailingZeros_38 (by decide) (fun h38 => ?_) (fun h38 => ?_)
  · exact v_Integer_numberOfTrailingZeros_49 X v0 v1 D
  · refine zv_iinc X (lv2 := [(1, zi (v1 + 8)), (0, zi v0)]) d_Integer_numberOfTrailingZeros_41 1 rfl (by decide) rfl ?_
    refine zv_iload_n X d_Integer_numberOfTrailingZeros_44 rfl 1 rfl ?_
    refine zv_bipush X d_Integer_numberOfTrailingZeros_45 (by decide +kernel) ?_
    refine zv_iushr X d_Integer_numberOfTrailingZeros_47 ?_
    refine zv_istore_n X (lv2 := [(0, zi (jushr v0 8)), (1, zi (v1 + 8))]) d_Integer_numberOfTrailingZeros_48 rfl (by decide) rfl ?_
    exact v_Integer_numberOfTrailingZeros_49 X (jushr v0 8) (v1 + 8) D
set_option maxRecDepth 100000 in
theorem c_Integer_numberOfTrailingZeros (l : Launch) {Z : Zt} (hZ : Zok Z) (v0 : Int)  (D : Mm) : CtP l Z y_Integer_numberOfTrailingZeros prog_11_method_48_code 2 (some .int) rm_Integer_numberOfTrailingZeros 1 [zi v0] D (f_Integer_numberOfTrailingZeros v0 D) := by
  refine zm_PF (lv := [(0, zi v0)]) hZ (by decide +kernel) rfl (Nat.le_of_ble_eq_true rfl) rfl (fun Γ hl X => ?_)
  subst hl
  unfold f_Integer_numberOfTrailingZeros
  refine zv_iload_n X d_Integer_numberOfTrailingZeros_0 rfl 0 rfl ?_
  refine zv_iconst X d_Integer_numberOfTrailingZeros_1 ?_
  refine zv_ixor X d_Integer_numberOfTrailingZeros_2 ?_
  refine zv_iload_n X d_Integer_numberOfTrailingZeros_3 rfl 0 rfl ?_
  refine zv_iconst X d_Integer_numberOfTrailingZeros_4 ?_
  refine zv_isub X d_Integer_numberOfTrailingZeros_5 ?_
  refine zv_iand X d_Integer_numberOfTrailingZeros_6 ?_
  refine zv_istore_n X (lv2 := [(0, zi (jand (jxor v0 (-1)) (v0 - 1)))]) d_Integer_numberOfTrailingZeros_7 rfl (by decide) rfl ?_
  refine zv_iload_n X d_Integer_numberOfTrailingZeros_8 rfl 0 rfl ?_
  refine zv_if_gt X (y := 0) (tgt := 17) d_Integer_numberOfTrailingZeros_9 (by decide) (fun h9 => ?_) (fun h9 => ?_)
  · refine zv_iconst X d_Integer_numberOfTrailingZeros_17 ?_
    refine zv_istore_n X (lv2 := [(1, zi 1), (0, zi (jand (jxor v0 (-1)) (v0 - 1)))]) d_Integer_numberOfTrailingZeros_18 rfl (by decide) rfl ?_
    refine zv_iload_n X d_Integer_numberOfTrailingZeros_19 rfl 1 rfl ?_
    refine zv_ldcw X 65536 kc_Integer_264 (by decide +kernel) d_Integer_numberOfTrailingZeros_20 ?_
    refine zv_icmp_le X (tgt := 34) d_Integer_numberOfTrailingZeros_23 (by decide) (fun h23 => ?_) (fun h23 => ?_)
    · refine zv_sub X [1, 0] rfl ?_
      exact v_Integer_numberOfTrailingZeros_34 X (jand (jxor v0 (-1)) (v0 - 1)) 1 D
    · refine zv_iinc X (lv2 := [(1, zi (1 + 16)), (0, zi (jand (jxor v0 (-1)) (v0 - 1)))]) d_Integer_numberOfTrailingZeros_26 0 rfl (by decide) rfl ?_
      refine zv_iload_n X d_Integer_numberOfTrailingZeros_29 rfl 1 rfl ?_
      refine zv_bipush X d_Integer_numberOfTrailingZeros_30 (by decide +kernel) ?_
      refine zv_iushr X d_Integer_numberOfTrailingZeros_32 ?_
      refine zv_istore_n X (lv2 := [(0, zi (jushr (jand (jxor v0 (-1)) (v0 - 1)) 16)), (1, zi (1 + 16))]) d_Integer_numberOfTrailingZeros_33 rfl (by decide) rfl ?_
      exact v_Integer_numberOfTrailingZeros_34 X (jushr (jand (jxor v0 (-1)) (v0 - 1)) 16) (1 + 16) D
  · refine zv_iload_n X d_Integer_numberOfTrailingZeros_12 rfl 0 rfl ?_
    refine zv_bipush X d_Integer_numberOfTrailingZeros_13 (by decide +kernel) ?_
    refine zv_iand X d_Integer_numberOfTrailingZeros_15 ?_
    exact zv_iretP X d_Integer_numberOfTrailingZeros_16
set_option maxRecDepth 100000 in
theorem v_Quern_lowestKin_47 {Γ : Gt} {Z : Zt} (X : Cx Γ Z prog_6_method_21_code R_Quern 6 (some .int) rm_Quern_lowestKin) (hN : 143 ≤ Z.2.2.2.1) (v0 v2 v3 v4 v5 : Int) (hv0 : isQ v0) (K12 : Int → Int → Option (Int)) (D : Mm) (hK12 : ∀ (v3 v5 : Int), Zv Γ Z 6 (QfP Γ Z 1 D) (K12 v3 v5) D 19 [(0, zr Z v0), (2, zi v2), (3, zi v3), (4, zi v4), (5, zi v5)] []) : Zv Γ Z 6 (QfP Γ Z 1 D) (f_Quern_lowestKin_47 v0 v2 v3 v4 v5 K12 D) D 47 [(0, zr Z v0), (2, zi v2), (3, zi v3), (4, zi v4), (5, zi v5)] [] := by
  unfold f_Quern_lowestKin_47
  refine zv_iinc X (lv2 := [(5, zi (v5 + 1)), (0, zr Z v0), (2, zi v2), (3, zi v3), (4, zi v4)]) d_Quern_lowestKin_47 4 rfl (by decide) rfl ?_
  refine zv_goto X (tgt := 19) d_Quern_lowestKin_50 (by decide) ?_
  refine zv_sub X [1, 2, 3, 4, 0] rfl ?_
  exact hK12 v3 (v5 + 1)
set_option maxRecDepth 100000 in
theorem v_Quern_lowestKin_19 {Γ : Gt} {Z : Zt} (X : Cx Γ Z prog_6_method_21_code R_Quern 6 (some .int) rm_Quern_lowestKin) (hN : 143 ≤ Z.2.2.2.1) (v0 v2 v4 : Int) (hv0 : isQ v0) (K6 : Int → Int → Option (Int)) (D : Mm)  (hK6 : ∀ (v3 v4 : Int), Zv Γ Z 6 (QfP Γ Z 1 D) (K6 v3 v4) D 7 [(0, zr Z v0), (2, zi v2), (3, zi v3), (4, zi v4)] []): ∀ (n : Nat) (v3 v5 : Int) , Zv Γ Z 6 (QfP Γ Z 1 D) (f_Quern_lowestKin_19 v0 v2 v4 K6 D n v3 v5) D 19 [(0, zr Z v0), (2, zi v2), (3, zi v3), (4, zi v4), (5, zi v5)] [] := by
  intro n
  induction n with
  | zero =>
    intro v3 v5
    exact zv_none
  | succ n ih =>
    intro v3 v5
    rw [f_Quern_lowestKin_19]
    refine zv_iload X d_Quern_lowestKin_19 4 rfl ?_
    refine zv_aload_n X d_Quern_lowestKin_21 rfl 0 rfl ?_
    refine zv_get X (ci := 5) rfl i_Quern (zq_0 hN hv0) 0 (by decide) lk_Quern_44 rfl rfl d_Quern_lowestKin_22 ?_
    refine zv_icmp_ge X (tgt := 53) d_Quern_lowestKin_25 (by decide) (fun h25 => ?_) (fun h25 => ?_)
    · refine zv_iinc X (lv2 := [(4, zi (v4 + 1)), (0, zr Z v0), (2, zi v2), (3, zi v3), (5, zi v5)]) d_Quern_lowestKin_53 3 rfl (by decide) rfl ?_
      refine zv_goto X (tgt := 7) d_Quern_lowestKin_56 (by decide) ?_
      refine zv_sub X [1, 2, 3, 0] rfl ?_
      exact hK6 v3 (v4 + 1)
    · refine zv_iload_n X d_Quern_lowestKin_28 rfl 2 rfl ?_
      refine zv_iload X d_Quern_lowestKin_29 4 rfl ?_
      refine zv_ishr X d_Quern_lowestKin_31 ?_
      refine zv_iconst X d_Quern_lowestKin_32 ?_
      refine zv_iand X d_Quern_lowestKin_33 ?_
      refine zv_if_eq X (y := 0) (tgt := 47) d_Quern_lowestKin_34 (by decide) (fun h34 => ?_) (fun h34 => ?_)
      · exact v_Quern_lowestKin_47 X hN v0 v2 v3 v4 v5 hv0 (f_Quern_lowestKin_19 v0 v2 v4 K6 D n) D ih
      · refine zv_iload_n X d_Quern_lowestKin_37 rfl 2 rfl ?_
        refine zv_aload_n X d_Quern_lowestKin_38 rfl 0 rfl ?_
        refine zv_iload X d_Quern_lowestKin_39 4 rfl ?_
        refine zv_iload_n X d_Quern_lowestKin_41 rfl 1 rfl ?_
        refine zv_cVP1 X (av := [zi v5, zi v2]) (st := [zi v3]) (ci := 5) (c_Quern_nearOnes Γ.2.1 X.2.2.2.2.2.2.2.1 hN v0 v5 v2 hv0 D) mk_Quern_130 rfl (zq_0 hN hv0) ⟨rfl, rfl, Nat.le_of_ble_eq_true rfl, Nat.le_of_ble_eq_true rfl⟩ rfl (Nat.le_of_ble_eq_true rfl) d_Quern_lowestKin_42 (fun r1 hr1 => ?_)
        refine zv_ior X d_Quern_lowestKin_45 ?_
        refine zv_istore_n X (lv2 := [(3, zi (jor v3 r1)), (0, zr Z v0), (2, zi v2), (4, zi v4), (5, zi v5)]) d_Quern_lowestKin_46 rfl (by decide) rfl ?_
        refine zv_sub X [1, 2, 0, 3, 4] rfl ?_
        exact v_Quern_lowestKin_47 X hN v0 v2 (jor v3 r1) v4 v5 hv0 (f_Quern_lowestKin_19 v0 v2 v4 K6 D n) D ih
set_option maxRecDepth 100000 in
theorem v_Quern_lowestKin_7 {Γ : Gt} {Z : Zt} (X : Cx Γ Z prog_6_method_21_code R_Quern 6 (some .int) rm_Quern_lowestKin) (hN : 143 ≤ Z.2.2.2.1) (v0 v2 : Int) (hv0 : isQ v0)  (D : Mm)  : ∀ (n : Nat) (v3 v4 : Int) , Zv Γ Z 6 (QfP Γ Z 1 D) (f_Quern_lowestKin_7 v0 v2 D n v3 v4) D 7 [(0, zr Z v0), (2, zi v2), (3, zi v3), (4, zi v4)] [] := by
  intro n
  induction n with
  | zero =>
    intro v3 v4
    exact zv_none
  | succ n ih =>
    intro v3 v4
    rw [f_Quern_lowestKin_7]
    refine zv_iload X d_Quern_lowestKin_7 3 rfl ?_
    refine zv_aload_n X d_Quern_lowestKin_9 rfl 0 rfl ?_
    refine zv_get X (ci := 5) rfl i_Quern (zq_0 hN hv0) 0 (by decide) lk_Quern_44 rfl rfl d_Quern_lowestKin_10 ?_
    refine zv_icmp_ge X (tgt := 59) d_Quern_lowestKin_13 (by decide) (fun h13 => ?_) (fun h13 => ?_)
    · refine zv_iload_n X d_Quern_lowestKin_59 rfl 2 rfl ?_
      refine zv_cSP1 X (av := [zi v3]) (st := []) (c_Integer_numberOfTrailingZeros Γ.2.1 X.2.2.2.2.2.2.2.1 v3 D) mk_Quern_133 ⟨rfl, rfl, Nat.le_of_ble_eq_true rfl, Nat.le_of_ble_eq_true rfl⟩ rfl (Nat.le_of_ble_eq_true rfl) d_Quern_lowestKin_60 (fun r1 hr1 => ?_)
      exact zv_iretP X d_Quern_lowestKin_63
    · refine zv_iconst X d_Quern_lowestKin_16 ?_
      refine zv_istore X (lv2 := [(5, zi 0), (0, zr Z v0), (2, zi v2), (3, zi v3), (4, zi v4)]) d_Quern_lowestKin_17 (by decide) rfl ?_
      refine zv_sub X [1, 2, 3, 4, 0] rfl ?_
      exact v_Quern_lowestKin_19 X hN v0 v2 v4 hv0 (f_Quern_lowestKin_7 v0 v2 D n) D ih zF v3 0
set_option maxRecDepth 100000 in
theorem c_Quern_lowestKin (l : Launch) {Z : Zt} (hZ : Zok Z) (hN : 143 ≤ Z.2.2.2.1) (v0 v1 v2 : Int) (hv0 : isQ v0) (D : Mm) : CtP l Z y_Quern_lowestKin prog_6_method_21_code 6 (some .int) rm_Quern_lowestKin 1 [zr Z v0, zi v1, zi v2] D (f_Quern_lowestKin v0 v1 v2 D) := by
  refine zm_P (lv := [(0, zr Z v0), (1, zi v1), (2, zi v2)]) hZ (by decide +kernel) rfl (Nat.le_of_ble_eq_true rfl) rfl (fun Γ hl X => ?_)
  subst hl
  unfold f_Quern_lowestKin
  refine zv_iconst X d_Quern_lowestKin_0 ?_
  refine zv_iload_n X d_Quern_lowestKin_1 rfl 1 rfl ?_
  refine zv_ishl X d_Quern_lowestKin_2 ?_
  refine zv_istore_n X (lv2 := [(3, zi (jshl 1 v1)), (0, zr Z v0), (1, zi v1), (2, zi v2)]) d_Quern_lowestKin_3 rfl (by decide) rfl ?_
  refine zv_iconst X d_Quern_lowestKin_4 ?_
  refine zv_istore X (lv2 := [(4, zi 1), (3, zi (jshl 1 v1)), (0, zr Z v0), (1, zi v1), (2, zi v2)]) d_Quern_lowestKin_5 (by decide) rfl ?_
  refine zv_sub X [2, 4, 1, 0] rfl ?_
  exact v_Quern_lowestKin_7 X hN v0 v2 hv0 D zF (jshl 1 v1) 1
set_option maxRecDepth 100000 in
theorem v_Quern_kinsOf_25 {Γ : Gt} {Z : Zt} (X : Cx Γ Z prog_6_method_20_code R_Quern 4 (some .int) rm_Quern_kinsOf) (hN : 143 ≤ Z.2.2.2.1) (v0 v1 v2 v3 : Int) (hv0 : isQ v0) (K4 : Int → Int → Option (Int)) (D : Mm) (hK4 : ∀ (v2 v3 : Int), Zv Γ Z 4 (QfP Γ Z 1 D) (K4 v2 v3) D 4 [(0, zr Z v0), (1, zi v1), (2, zi v2), (3, zi v3)] []) : Zv Γ Z 4 (QfP Γ Z 1 D) (f_Quern_kinsOf_25 v0 v1 v2 v3 K4 D) D 25 [(0, zr Z v0), (1, zi v1), (2, zi v2), (3, zi v3)] [] := by
  unfold f_Quern_kinsOf_25
  refine zv_iinc X (lv2 := [(3, zi (v3 + 1)), (0, zr Z v0), (1, zi v1), (2, zi v2)]) d_Quern_kinsOf_25 3 rfl (by decide) rfl ?_
  refine zv_goto X (tgt := 4) d_Quern_kinsOf_28 (by decide) ?_
  refine zv_sub X [1, 2, 3, 0] rfl ?_
  exact hK4 v2 (v3 + 1)
set_option maxRecDepth 100000 in
theorem v_Quern_kinsOf_4 {Γ : Gt} {Z : Zt} (X : Cx Γ Z prog_6_method_20_code R_Quern 4 (some .int) rm_Quern_kinsOf) (hN : 143 ≤ Z.2.2.2.1) (v0 v1 : Int) (hv0 : isQ v0)  (D : Mm)  : ∀ (n : Nat) (v2 v3 : Int) , Zv Γ Z 4 (QfP Γ Z 1 D) (f_Quern_kinsOf_4 v0 v1 D n v2 v3) D 4 [(0, zr Z v0), (1, zi v1), (2, zi v2), (3, zi v3)] [] := by
  intro n
  induction n with
  | zero =>
    intro v2 v3
    exact zv_none
  | succ n ih =>
    intro v2 v3
    rw [f_Quern_kinsOf_4]
    refine zv_iload_n X d_Quern_kinsOf_4 rfl 3 rfl ?_
    refine zv_aload_n X d_Quern_kinsOf_5 rfl 0 rfl ?_
    refine zv_get X (ci := 5) rfl i_Quern (zq_0 hN hv0) 0 (by decide) lk_Quern_44 rfl rfl d_Quern_kinsOf_6 ?_
    refine zv_icmp_ge X (tgt := 31) d_Quern_kinsOf_9 (by decide) (fun h9 => ?_) (fun h9 => ?_)
    · refine zv_iload_n X d_Quern_kinsOf_31 rfl 2 rfl ?_
      exact zv_iretP X d_Quern_kinsOf_32
    · refine zv_aload_n X d_Quern_kinsOf_12 rfl 0 rfl ?_
      refine zv_iload_n X d_Quern_kinsOf_13 rfl 3 rfl ?_
      refine zv_iload_n X d_Quern_kinsOf_14 rfl 1 rfl ?_
      refine zv_cVP1 X (av := [zi v3, zi v1]) (st := []) (ci := 5) (c_Quern_lowestKin Γ.2.1 X.2.2.2.2.2.2.2.1 hN v0 v3 v1 hv0 D) mk_Quern_127 rfl (zq_0 hN hv0) ⟨rfl, rfl, Nat.le_of_ble_eq_true rfl, Nat.le_of_ble_eq_true rfl⟩ rfl (Nat.le_of_ble_eq_true rfl) d_Quern_kinsOf_15 (fun r1 hr1 => ?_)
      refine zv_iload_n X d_Quern_kinsOf_18 rfl 3 rfl ?_
      refine zv_icmp_ne X (tgt := 25) d_Quern_kinsOf_19 (by decide) (fun h19 => ?_) (fun h19 => ?_)
      · exact v_Quern_kinsOf_25 X hN v0 v1 v2 v3 hv0 (f_Quern_kinsOf_4 v0 v1 D n) D ih
      · refine zv_iinc X (lv2 := [(2, zi (v2 + 1)), (0, zr Z v0), (1, zi v1), (3, zi v3)]) d_Quern_kinsOf_22 2 rfl (by decide) rfl ?_
        refine zv_sub X [1, 2, 0, 3] rfl ?_
        exact v_Quern_kinsOf_25 X hN v0 v1 (v2 + 1) v3 hv0 (f_Quern_kinsOf_4 v0 v1 D n) D ih
set_option maxRecDepth 100000 in
theorem c_Quern_kinsOf (l : Launch) {Z : Zt} (hZ : Zok Z) (hN : 143 ≤ Z.2.2.2.1) (v0 v1 : Int) (hv0 : isQ v0) (D : Mm) : CtP l Z y_Quern_kinsOf prog_6_method_20_code 4 (some .int) rm_Quern_kinsOf 1 [zr Z v0, zi v1] D (f_Quern_kinsOf v0 v1 D) := by
  refine zm_P (lv := [(0, zr Z v0), (1, zi v1)]) hZ (by decide +kernel) rfl (Nat.le_of_ble_eq_true rfl) rfl (fun Γ hl X => ?_)
  subst hl
  unfold f_Quern_kinsOf
  refine zv_iconst X d_Quern_kinsOf_0 ?_
  refine zv_istore_n X (lv2 := [(2, zi 0), (0, zr Z v0), (1, zi v1)]) d_Quern_kinsOf_1 rfl (by decide) rfl ?_
  refine zv_iconst X d_Quern_kinsOf_2 ?_
  refine zv_istore_n X (lv2 := [(3, zi 0), (2, zi 0), (0, zr Z v0), (1, zi v1)]) d_Quern_kinsOf_3 rfl (by decide) rfl ?_
  refine zv_sub X [2, 3, 1, 0] rfl ?_
  exact v_Quern_kinsOf_4 X hN v0 v1 hv0 D zF 0 0
set_option maxRecDepth 100000 in
theorem v_Main_kin_29 {Γ : Gt} {Z : Zt} (X : Cx Γ Z prog_1_method_15_code R_Main 3 (some .int) rm_Main_kin) (hN : 143 ≤ Z.2.2.2.1) (v1 v2 : Int)   (D : Mm)  : Zv Γ Z 3 (QfP Γ Z 1 D) (f_Main_kin_29 v1 v2 D) D 29 [(0, zr Z 1), (1, zi v1), (2, zi v2)] [] := by
  unfold f_Main_kin_29
  refine zv_iload_n X d_Main_kin_29 rfl 2 rfl ?_
  refine zv_iconst X d_Main_kin_30 ?_
  refine zv_icmp_ne X (tgt := 45) d_Main_kin_31 (by decide) (fun h31 => ?_) (fun h31 => ?_)
  · refine zv_aload_n X d_Main_kin_45 rfl 0 rfl ?_
    refine zv_guard (fun hq46 => ?_)
    refine zv_get X (ci := 6) rfl i_Main (za_1 hN) 7 (by decide) lk_Main_51 rfl rfl d_Main_kin_46 ?_
    refine zv_iload_n X d_Main_kin_49 rfl 2 rfl ?_
    refine zv_iload_n X d_Main_kin_50 rfl 1 rfl ?_
    refine zv_cVP1 X (av := [zi v2, zi v1]) (st := []) (ci := 5) (c_Quern_lowestKin Γ.2.1 X.2.2.2.2.2.2.2.1 hN (D 1 7) v2 v1 hq46 D) mk_Main_166 rfl (zq_0 hN hq46) ⟨rfl, rfl, Nat.le_of_ble_eq_true rfl, Nat.le_of_ble_eq_true rfl⟩ rfl (Nat.le_of_ble_eq_true rfl) d_Main_kin_51 (fun r1 hr1 => ?_)
    exact zv_iretP X d_Main_kin_54
  · refine zv_aload_n X d_Main_kin_34 rfl 0 rfl ?_
    refine zv_guard (fun hq35 => ?_)
    refine zv_get X (ci := 6) rfl i_Main (za_1 hN) 7 (by decide) lk_Main_51 rfl rfl d_Main_kin_35 ?_
    refine zv_iload_n X d_Main_kin_38 rfl 1 rfl ?_
    refine zv_cVP1 X (av := [zi v1]) (st := []) (ci := 5) (c_Quern_kinsOf Γ.2.1 X.2.2.2.2.2.2.2.1 hN (D 1 7) v1 hq35 D) mk_Main_162 rfl (zq_0 hN hq35) ⟨rfl, rfl, Nat.le_of_ble_eq_true rfl, Nat.le_of_ble_eq_true rfl⟩ rfl (Nat.le_of_ble_eq_true rfl) d_Main_kin_39 (fun r2 hr2 => ?_)
    refine zv_goto X (tgt := 54) d_Main_kin_42 (by decide) ?_
    exact zv_iretP X d_Main_kin_54
set_option maxRecDepth 100000 in
theorem c_Main_kin (l : Launch) {Z : Zt} (hZ : Zok Z) (hN : 143 ≤ Z.2.2.2.1) (v1 v2 : Int)  (D : Mm) : CtP l Z y_Main_kin prog_1_method_15_code 3 (some .int) rm_Main_kin 1 [zr Z 1, zi v1, zi v2] D (f_Main_kin v1 v2 D) := by
  refine zm_P (lv := [(0, zr Z 1), (1, zi v1), (2, zi v2)]) hZ (by decide +kernel) rfl (Nat.le_of_ble_eq_true rfl) rfl (fun Γ hl X => ?_)
  subst hl
  unfold f_Main_kin
  refine zv_iload_n X d_Main_kin_0 rfl 1 rfl ?_
  refine zv_iconst X d_Main_kin_1 ?_
  refine zv_sipush X d_Main_kin_2 (by decide +kernel) ?_
  refine zv_cSP1 X (av := [zi v1, zi 0, zi 200]) (st := []) (c_Main_within Γ.2.1 X.2.2.2.2.2.2.2.1 hN v1 0 200 D) mk_Main_61 ⟨rfl, rfl, Nat.le_of_ble_eq_true rfl, Nat.le_of_ble_eq_true rfl⟩ rfl (Nat.le_of_ble_eq_true rfl) d_Main_kin_5 (fun r1 hr1 => ?_)
  refine zv_if_eq X (y := 0) (tgt := 27) d_Main_kin_8 (by decide) (fun h8 => ?_) (fun h8 => ?_)
  · refine zv_iconst X d_Main_kin_27 ?_
    exact zv_iretP X d_Main_kin_28
  · refine zv_iload_n X d_Main_kin_11 rfl 2 rfl ?_
    refine zv_iconst X d_Main_kin_12 ?_
    refine zv_icmp_eq X (tgt := 29) d_Main_kin_13 (by decide) (fun h13 => ?_) (fun h13 => ?_)
    · exact v_Main_kin_29 X hN v1 v2 D
    · refine zv_aload_n X d_Main_kin_16 rfl 0 rfl ?_
      refine zv_guard (fun hq17 => ?_)
      refine zv_get X (ci := 6) rfl i_Main (za_1 hN) 7 (by decide) lk_Main_51 rfl rfl d_Main_kin_17 ?_
      refine zv_iload_n X d_Main_kin_20 rfl 2 rfl ?_
      refine zv_cVP1 X (av := [zi v2]) (st := []) (ci := 5) (c_Quern_hasSort Γ.2.1 X.2.2.2.2.2.2.2.1 hN (D 1 7) v2 hq17 D) mk_Main_110 rfl (zq_0 hN hq17) ⟨rfl, rfl, Nat.le_of_ble_eq_true rfl, Nat.le_of_ble_eq_true rfl⟩ rfl (Nat.le_of_ble_eq_true rfl) d_Main_kin_21 (fun r2 hr2 => ?_)
      refine zv_if_ne X (y := 0) (tgt := 29) d_Main_kin_24 (by decide) (fun h24 => ?_) (fun h24 => ?_)
      · exact v_Main_kin_29 X hN v1 v2 D
      · refine zv_iconst X d_Main_kin_27 ?_
        exact zv_iretP X d_Main_kin_28
set_option maxRecDepth 100000 in
theorem v_Quern_likeCooked_35 {Γ : Gt} {Z : Zt} (X : Cx Γ Z prog_6_method_23_code R_Quern 5 (some .int) rm_Quern_likeCooked) (hN : 143 ≤ Z.2.2.2.1) (v0 v1 v2 v3 v4 : Int) (hv0 : isQ v0) (K4 : Int → Int → Option (Int)) (D : Mm) (hK4 : ∀ (v3 v4 : Int), Zv Γ Z 5 (QfP Γ Z 1 D) (K4 v3 v4) D 5 [(0, zr Z v0), (1, zi v1), (2, zi v2), (3, zi v3), (4, zi v4)] []) : Zv Γ Z 5 (QfP Γ Z 1 D) (f_Quern_likeCooked_35 v0 v1 v2 v3 v4 K4 D) D 35 [(0, zr Z v0), (1, zi v1), (2, zi v2), (3, zi v3), (4, zi v4)] [] := by
  unfold f_Quern_likeCooked_35
  refine zv_iinc X (lv2 := [(4, zi (v4 + 1)), (0, zr Z v0), (1, zi v1), (2, zi v2), (3, zi v3)]) d_Quern_likeCooked_35 4 rfl (by decide) rfl ?_
  refine zv_goto X (tgt := 5) d_Quern_likeCooked_38 (by decide) ?_
  refine zv_sub X [1, 2, 3, 4, 0] rfl ?_
  exact hK4 v3 (v4 + 1)
set_option maxRecDepth 100000 in
theorem v_Quern_likeCooked_5 {Γ : Gt} {Z : Zt} (X : Cx Γ Z prog_6_method_23_code R_Quern 5 (some .int) rm_Quern_likeCooked) (hN : 143 ≤ Z.2.2.2.1) (v0 v1 v2 : Int) (hv0 : isQ v0)  (D : Mm)  : ∀ (n : Nat) (v3 v4 : Int) , Zv Γ Z 5 (QfP Γ Z 1 D) (f_Quern_likeCooked_5 v0 v1 v2 D n v3 v4) D 5 [(0, zr Z v0), (1, zi v1), (2, zi v2), (3, zi v3), (4, zi v4)] [] := by
  intro n
  induction n with
  | zero =>
    intro v3 v4
    exact zv_none
  | succ n ih =>
    intro v3 v4
    rw [f_Quern_likeCooked_5]
    refine zv_iload X d_Quern_likeCooked_5 4 rfl ?_
    refine zv_aload_n X d_Quern_likeCooked_7 rfl 0 rfl ?_
    refine zv_get X (ci := 5) rfl i_Quern (zq_0 hN hv0) 0 (by decide) lk_Quern_44 rfl rfl d_Quern_likeCooked_8 ?_
    refine zv_icmp_ge X (tgt := 41) d_Quern_likeCooked_11 (by decide) (fun h11 => ?_) (fun h11 => ?_)
    · refine zv_iload_n X d_Quern_likeCooked_41 rfl 3 rfl ?_
      exact zv_iretP X d_Quern_likeCooked_42
    · refine zv_aload_n X d_Quern_likeCooked_14 rfl 0 rfl ?_
      refine zv_iload_n X d_Quern_likeCooked_15 rfl 1 rfl ?_
      refine zv_iload_n X d_Quern_likeCooked_16 rfl 2 rfl ?_
      refine zv_iload X d_Quern_likeCooked_17 4 rfl ?_
      refine zv_cVP1 X (av := [zi v1, zi v2, zi v4]) (st := []) (ci := 5) (c_Quern_differenceOfCooked Γ.2.1 X.2.2.2.2.2.2.2.1 hN v0 v1 v2 v4 hv0 D) mk_Quern_139 rfl (zq_0 hN hv0) ⟨rfl, rfl, Nat.le_of_ble_eq_true rfl, Nat.le_of_ble_eq_true rfl⟩ rfl (Nat.le_of_ble_eq_true rfl) d_Quern_likeCooked_19 (fun r1 hr1 => ?_)
      refine zv_aload_n X d_Quern_likeCooked_22 rfl 0 rfl ?_
      refine zv_iload_n X d_Quern_likeCooked_23 rfl 1 rfl ?_
      refine zv_iload_n X d_Quern_likeCooked_24 rfl 2 rfl ?_
      refine zv_iload_n X d_Quern_likeCooked_25 rfl 3 rfl ?_
      refine zv_cVP1 X (av := [zi v1, zi v2, zi v3]) (st := [zi r1]) (ci := 5) (c_Quern_differenceOfCooked Γ.2.1 X.2.2.2.2.2.2.2.1 hN v0 v1 v2 v3 hv0 D) mk_Quern_139 rfl (zq_0 hN hv0) ⟨rfl, rfl, Nat.le_of_ble_eq_true rfl, Nat.le_of_ble_eq_true rfl⟩ rfl (Nat.le_of_ble_eq_true rfl) d_Quern_likeCooked_26 (fun r2 hr2 => ?_)
      refine zv_icmp_ge X (tgt := 35) d_Quern_likeCooked_29 (by decide) (fun h29 => ?_) (fun h29 => ?_)
      · exact v_Quern_likeCooked_35 X hN v0 v1 v2 v3 v4 hv0 (f_Quern_likeCooked_5 v0 v1 v2 D n) D ih
      · refine zv_iload X d_Quern_likeCooked_32 4 rfl ?_
        refine zv_istore_n X (lv2 := [(3, zi v4), (0, zr Z v0), (1, zi v1), (2, zi v2), (4, zi v4)]) d_Quern_likeCooked_34 rfl (by decide) rfl ?_
        refine zv_sub X [1, 2, 3, 0, 4] rfl ?_
        exact v_Quern_likeCooked_35 X hN v0 v1 v2 v4 v4 hv0 (f_Quern_likeCooked_5 v0 v1 v2 D n) D ih
set_option maxRecDepth 100000 in
theorem c_Quern_likeCooked (l : Launch) {Z : Zt} (hZ : Zok Z) (hN : 143 ≤ Z.2.2.2.1) (v0 v1 v2 : Int) (hv0 : isQ v0) (D : Mm) : CtP l Z y_Quern_likeCooked prog_6_method_23_code 5 (some .int) rm_Quern_likeCooked 1 [zr Z v0, zi v1, zi v2] D (f_Quern_likeCooked v0 v1 v2 D) := by
  refine zm_P (lv := [(0, zr Z v0), (1, zi v1), (2, zi v2)]) hZ (by decide +kernel) rfl (Nat.le_of_ble_eq_true rfl) rfl (fun Γ hl X => ?_)
  subst hl
  unfold f_Quern_likeCooked
  refine zv_iconst X d_Quern_likeCooked_0 ?_
  refine zv_istore_n X (lv2 := [(3, zi 0), (0, zr Z v0), (1, zi v1), (2, zi v2)]) d_Quern_likeCooked_1 rfl (by decide) rfl ?_
  refine zv_iconst X d_Quern_likeCooked_2 ?_
  refine zv_istore X (lv2 := [(4, zi 1), (3, zi 0), (0, zr Z v0), (1, zi v1), (2, zi v2)]) d_Quern_likeCooked_3 (by decide) rfl ?_
  refine zv_sub X [2, 3, 4, 1, 0] rfl ?_
  exact v_Quern_likeCooked_5 X hN v0 v1 v2 hv0 D zF 0 1

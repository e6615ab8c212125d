set_option maxRecDepth 100000 in
theorem c_Quern_draw (l : Launch) {Z : Zt} (hZ : Zok Z) (hN : 143 ≤ Z.2.2.2.1) (v0 v1 v2 : Int)  (D : Mm) : CtP l Z y_Quern_draw prog_6_method_18_code 5 (some .int) rm_Quern_draw 1 [zi v0, zi v1, zi v2] D (f_Quern_draw v0 v1 v2 D) := by
  refine zm_P (lv := [(0, zi v0), (1, zi v1), (2, zi v2)]) hZ (by decide +kernel) rfl (Nat.le_of_ble_eq_true rfl) rfl (fun Γ hl X => ?_)
  subst hl
  unfold f_Quern_draw
  refine zv_ldc2 X 7919 kc_Quern_117 (by decide +kernel) d_Quern_draw_0 ?_
  refine zv_iload_n X d_Quern_draw_3 rfl 1 rfl ?_
  refine zv_i2l X d_Quern_draw_4 ?_
  refine zv_lmul X d_Quern_draw_5 ?_
  refine zv_ldc2 X 6151 kc_Quern_119 (by decide +kernel) d_Quern_draw_6 ?_
  refine zv_iload_n X d_Quern_draw_9 rfl 2 rfl ?_
  refine zv_i2l X d_Quern_draw_10 ?_
  refine zv_lmul X d_Quern_draw_11 ?_
  refine zv_ladd X d_Quern_draw_12 ?_
  refine zv_ldc2 X 3571 kc_Quern_121 (by decide +kernel) d_Quern_draw_13 ?_
  refine zv_iload_n X d_Quern_draw_16 rfl 0 rfl ?_
  refine zv_i2l X d_Quern_draw_17 ?_
  refine zv_lmul X d_Quern_draw_18 ?_
  refine zv_ladd X d_Quern_draw_19 ?_
  refine zv_lconst X (x := 1) d_Quern_draw_20 (by decide +kernel) ?_
  refine zv_ladd X d_Quern_draw_21 ?_
  refine zv_letl (fun x1 => ?_)
  refine zv_lstore_n X (lv2 := [(3, zl x1), (0, zi v0), (1, zi v1), (2, zi v2)]) d_Quern_draw_22 rfl (by decide) rfl ?_
  refine zv_lload_n X d_Quern_draw_23 rfl 0 rfl ?_
  refine zv_lload_n X d_Quern_draw_24 rfl 0 rfl ?_
  refine zv_lmul X d_Quern_draw_25 ?_
  refine zv_ldc2 X 65521 kc_Quern_123 (by decide +kernel) d_Quern_draw_26 ?_
  refine zv_lremK X d_Quern_draw_29 (by decide +kernel) ?_
  refine zv_ldc2 X 100 kc_Quern_125 (by decide +kernel) d_Quern_draw_30 ?_
  refine zv_lremK X d_Quern_draw_33 (by decide +kernel) ?_
  refine zv_l2i X d_Quern_draw_34 ?_
  exact zv_iretP X d_Quern_draw_35
set_option maxRecDepth 100000 in
theorem v_Quern_calledBy_5 {Γ : Gt} {Z : Zt} (X : Cx Γ Z prog_6_method_19_code R_Quern 5 (some .int) rm_Quern_calledBy) (hN : 143 ≤ Z.2.2.2.1) (v0 v1 v2 : Int) (hv0 : isQ v0)  (D : Mm)  : ∀ (n : Nat) (v3 v4 : Int) , Zv Γ Z 5 (QfP Γ Z 1 D) (f_Quern_calledBy_5 v0 v1 v2 D n v3 v4) D 5 [(0, zr Z v0), (1, zi v1), (2, zi v2), (3, zi v3), (4, zi v4)] [] := by
  intro n
  induction n with
  | zero =>
    intro v3 v4
    exact zv_none
  | succ n ih =>
    intro v3 v4
    rw [f_Quern_calledBy_5]
    refine zv_iload X d_Quern_calledBy_5 4 rfl ?_
    refine zv_aload_n X d_Quern_calledBy_7 rfl 0 rfl ?_
    refine zv_get X (ci := 5) rfl i_Quern (zq_0 hN hv0) 0 (by decide) lk_Quern_44 rfl rfl d_Quern_calledBy_8 ?_
    refine zv_icmp_ge X (tgt := 40) d_Quern_calledBy_11 (by decide) (fun h11 => ?_) (fun h11 => ?_)
    · refine zv_iload_n X d_Quern_calledBy_40 rfl 1 rfl ?_
      exact zv_iretP X d_Quern_calledBy_41
    · refine zv_iload_n X d_Quern_calledBy_14 rfl 3 rfl ?_
      refine zv_aload_n X d_Quern_calledBy_15 rfl 0 rfl ?_
      refine zv_get X (ci := 5) rfl i_Quern (zq_0 hN hv0) 12 (by decide) lk_Quern_41 rfl rfl d_Quern_calledBy_16 ?_
      refine zv_iload_n X d_Quern_calledBy_19 rfl 1 rfl ?_
      refine zv_aald X (v0 + 31 + v1) (zq_30 hN hv0) d_Quern_calledBy_20 (by omega) (fun ha20 hb20 => ?_)
      refine zv_iload X d_Quern_calledBy_21 4 rfl ?_
      refine zv_iald X (zq_30r hN hv0 ha20 hb20) d_Quern_calledBy_23 (fun ha23 hb23 => ?_)
      refine zv_iadd X d_Quern_calledBy_24 ?_
      refine zv_istore_n X (lv2 := [(3, zi (v3 + (D (v0 + 31 + v1) v4))), (0, zr Z v0), (1, zi v1), (2, zi v2), (4, zi v4)]) d_Quern_calledBy_25 rfl (by decide) rfl ?_
      refine zv_iload_n X d_Quern_calledBy_26 rfl 3 rfl ?_
      refine zv_iload_n X d_Quern_calledBy_27 rfl 0 rfl ?_
      refine zv_icmp_ge X (tgt := 34) d_Quern_calledBy_28 (by decide) (fun h28 => ?_) (fun h28 => ?_)
      · refine zv_iinc X (lv2 := [(4, zi (v4 + 1)), (3, zi (v3 + (D (v0 + 31 + v1) v4))), (0, zr Z v0), (1, zi v1), (2, zi v2)]) d_Quern_calledBy_34 4 rfl (by decide) rfl ?_
        refine zv_goto X (tgt := 5) d_Quern_calledBy_37 (by decide) ?_
        refine zv_sub X [2, 3, 4, 1, 0] rfl ?_
        exact ih (v3 + (D (v0 + 31 + v1) v4)) (v4 + 1)
      · refine zv_iload X d_Quern_calledBy_31 4 rfl ?_
        exact zv_iretP X d_Quern_calledBy_33
set_option maxRecDepth 100000 in
theorem c_Quern_calledBy (l : Launch) {Z : Zt} (hZ : Zok Z) (hN : 143 ≤ Z.2.2.2.1) (v0 v1 v2 : Int) (hv0 : isQ v0) (D : Mm) : CtP l Z y_Quern_calledBy prog_6_method_19_code 5 (some .int) rm_Quern_calledBy 1 [zr Z v0, zi v1, zi v2] D (f_Quern_calledBy v0 v1 v2 D) := by
  refine zm_P (lv := [(0, zr Z v0), (1, zi v1), (2, zi v2)]) hZ (by decide +kernel) rfl (Nat.le_of_ble_eq_true rfl) rfl (fun Γ hl X => ?_)
  subst hl
  unfold f_Quern_calledBy
  refine zv_iconst X d_Quern_calledBy_0 ?_
  refine zv_istore_n X (lv2 := [(3, zi 0), (0, zr Z v0), (1, zi v1), (2, zi v2)]) d_Quern_calledBy_1 rfl (by decide) rfl ?_
  refine zv_iconst X d_Quern_calledBy_2 ?_
  refine zv_istore X (lv2 := [(4, zi 0), (3, zi 0), (0, zr Z v0), (1, zi v1), (2, zi v2)]) d_Quern_calledBy_3 (by decide) rfl ?_
  refine zv_sub X [2, 3, 4, 1, 0] rfl ?_
  exact v_Quern_calledBy_5 X hN v0 v1 v2 hv0 D zF 0 0
set_option maxRecDepth 100000 in
theorem v_Quern_calledOn_57 {Γ : Gt} {Z : Zt} (X : Cx Γ Z prog_6_method_17_code R_Quern 8 (some .int) rm_Quern_calledOn) (hN : 143 ≤ Z.2.2.2.1) (v0 v1 v2 v3 v4 v5 v6 v7 : Int) (hv0 : isQ v0) (K17 : Int → Int → Option (Int)) (D : Mm) (hK17 : ∀ (v4 v5 : Int), Zv Γ Z 8 (QfP Γ Z 1 D) (K17 v4 v5) D 30 [(0, zr Z v0), (1, zi v1), (2, zi v2), (3, zi v3), (4, zi v4), (5, zi v5), (6, zi v6), (7, zi v7)] []) : Zv Γ Z 8 (QfP Γ Z 1 D) (f_Quern_calledOn_57 v0 v1 v2 v3 v4 v5 v6 v7 K17 D) D 57 [(0, zr Z v0), (1, zi v1), (2, zi v2), (3, zi v3), (4, zi v4), (5, zi v5), (6, zi v6), (7, zi v7)] [] := by
  unfold f_Quern_calledOn_57
  refine zv_iinc X (lv2 := [(5, zi (v5 + 1)), (0, zr Z v0), (1, zi v1), (2, zi v2), (3, zi v3), (4, zi v4), (6, zi v6), (7, zi v7)]) d_Quern_calledOn_57 5 rfl (by decide) rfl ?_
  refine zv_goto X (tgt := 30) d_Quern_calledOn_60 (by decide) ?_
  refine zv_sub X [1, 2, 3, 4, 5, 0, 6, 7] rfl ?_
  exact hK17 v4 (v5 + 1)
set_option maxRecDepth 100000 in
theorem v_Quern_calledOn_30 {Γ : Gt} {Z : Zt} (X : Cx Γ Z prog_6_method_17_code R_Quern 8 (some .int) rm_Quern_calledOn) (hN : 143 ≤ Z.2.2.2.1) (v0 v1 v2 v3 v6 v7 : Int) (hv0 : isQ v0) (K6 : Int → Int → Int → Option (Int)) (D : Mm)  (hK6 : ∀ (v4 v5 v6 : Int), Zv Γ Z 8 (QfP Γ Z 1 D) (K6 v4 v5 v6) D 9 [(0, zr Z v0), (1, zi v1), (2, zi v2), (3, zi v3), (4, zi v4), (5, zi v5), (6, zi v6)] []): ∀ (n : Nat) (v4 v5 : Int) , Zv Γ Z 8 (QfP Γ Z 1 D) (f_Quern_calledOn_30 v0 v1 v2 v3 v6 v7 K6 D n v4 v5) D 30 [(0, zr Z v0), (1, zi v1), (2, zi v2), (3, zi v3), (4, zi v4), (5, zi v5), (6, zi v6), (7, zi v7)] [] := by
  intro n
  induction n with
  | zero =>
    intro v4 v5
    exact zv_none
  | succ n ih =>
    intro v4 v5
    rw [f_Quern_calledOn_30]
    refine zv_iload X d_Quern_calledOn_30 5 rfl ?_
    refine zv_iload X d_Quern_calledOn_32 7 rfl ?_
    refine zv_icmp_ge X (tgt := 63) d_Quern_calledOn_34 (by decide) (fun h34 => ?_) (fun h34 => ?_)
    · refine zv_iinc X (lv2 := [(6, zi (v6 + 1)), (0, zr Z v0), (1, zi v1), (2, zi v2), (3, zi v3), (4, zi v4), (5, zi v5), (7, zi v7)]) d_Quern_calledOn_63 6 rfl (by decide) rfl ?_
      refine zv_goto X (tgt := 9) d_Quern_calledOn_66 (by decide) ?_
      refine zv_sub X [1, 2, 3, 4, 5, 6, 0] rfl ?_
      exact hK6 v4 v5 (v6 + 1)
    · refine zv_aload_n X d_Quern_calledOn_37 rfl 0 rfl ?_
      refine zv_iload X d_Quern_calledOn_38 6 rfl ?_
      refine zv_iload_n X d_Quern_calledOn_40 rfl 1 rfl ?_
      refine zv_iload_n X d_Quern_calledOn_41 rfl 2 rfl ?_
      refine zv_iload X d_Quern_calledOn_42 5 rfl ?_
      refine zv_cSP1 X (av := [zi v1, zi v2, zi v5]) (st := [zi v6, zr Z v0]) (c_Quern_draw Γ.2.1 X.2.2.2.2.2.2.2.1 hN v1 v2 v5 D) mk_Quern_111 ⟨rfl, rfl, Nat.le_of_ble_eq_true rfl, Nat.le_of_ble_eq_true rfl⟩ rfl (Nat.le_of_ble_eq_true rfl) d_Quern_calledOn_44 (fun r1 hr1 => ?_)
      refine zv_cVP1 X (av := [zi v6, zi r1]) (st := []) (ci := 5) (c_Quern_calledBy Γ.2.1 X.2.2.2.2.2.2.2.1 hN v0 v6 r1 hv0 D) mk_Quern_114 rfl (zq_0 hN hv0) ⟨rfl, rfl, Nat.le_of_ble_eq_true rfl, Nat.le_of_ble_eq_true rfl⟩ rfl (Nat.le_of_ble_eq_true rfl) d_Quern_calledOn_47 (fun r2 hr2 => ?_)
      refine zv_iload_n X d_Quern_calledOn_50 rfl 3 rfl ?_
      refine zv_icmp_ne X (tgt := 57) d_Quern_calledOn_51 (by decide) (fun h51 => ?_) (fun h51 => ?_)
      · exact v_Quern_calledOn_57 X hN v0 v1 v2 v3 v4 v5 v6 v7 hv0 (f_Quern_calledOn_30 v0 v1 v2 v3 v6 v7 K6 D n) D ih
      · refine zv_iinc X (lv2 := [(4, zi (v4 + 1)), (0, zr Z v0), (1, zi v1), (2, zi v2), (3, zi v3), (5, zi v5), (6, zi v6), (7, zi v7)]) d_Quern_calledOn_54 4 rfl (by decide) rfl ?_
        refine zv_sub X [1, 2, 3, 4, 0, 5, 6, 7] rfl ?_
        exact v_Quern_calledOn_57 X hN v0 v1 v2 v3 (v4 + 1) v5 v6 v7 hv0 (f_Quern_calledOn_30 v0 v1 v2 v3 v6 v7 K6 D n) D ih
set_option maxRecDepth 100000 in
theorem v_Quern_calledOn_9 {Γ : Gt} {Z : Zt} (X : Cx Γ Z prog_6_method_17_code R_Quern 8 (some .int) rm_Quern_calledOn) (hN : 143 ≤ Z.2.2.2.1) (v0 v1 v2 v3 : Int) (hv0 : isQ v0)  (D : Mm)  : ∀ (n : Nat) (v4 v5 v6 : Int) , Zv Γ Z 8 (QfP Γ Z 1 D) (f_Quern_calledOn_9 v0 v1 v2 v3 D n v4 v5 v6) D 9 [(0, zr Z v0), (1, zi v1), (2, zi v2), (3, zi v3), (4, zi v4), (5, zi v5), (6, zi v6)] [] := by
  intro n
  induction n with
  | zero =>
    intro v4 v5 v6
    exact zv_none
  | succ n ih =>
    intro v4 v5 v6
    rw [f_Quern_calledOn_9]
    refine zv_iload X d_Quern_calledOn_9 6 rfl ?_
    refine zv_aload_n X d_Quern_calledOn_11 rfl 0 rfl ?_
    refine zv_get X (ci := 5) rfl i_Quern (zq_0 hN hv0) 0 (by decide) lk_Quern_44 rfl rfl d_Quern_calledOn_12 ?_
    refine zv_icmp_ge X (tgt := 69) d_Quern_calledOn_15 (by decide) (fun h15 => ?_) (fun h15 => ?_)
    · refine zv_iload X d_Quern_calledOn_69 4 rfl ?_
      exact zv_iretP X d_Quern_calledOn_71
    · refine zv_iload X d_Quern_calledOn_18 5 rfl ?_
      refine zv_aload_n X d_Quern_calledOn_20 rfl 0 rfl ?_
      refine zv_iload_n X d_Quern_calledOn_21 rfl 1 rfl ?_
      refine zv_iload X d_Quern_calledOn_22 6 rfl ?_
      refine zv_cVP1 X (av := [zi v1, zi v6]) (st := [zi v5]) (ci := 5) (c_Quern_lyingOfAll Γ.2.1 X.2.2.2.2.2.2.2.1 hN v0 v1 v6 hv0 D) mk_Quern_107 rfl (zq_0 hN hv0) ⟨rfl, rfl, Nat.le_of_ble_eq_true rfl, Nat.le_of_ble_eq_true rfl⟩ rfl (Nat.le_of_ble_eq_true rfl) d_Quern_calledOn_24 (fun r1 hr1 => ?_)
      refine zv_iadd X d_Quern_calledOn_27 ?_
      refine zv_istore X (lv2 := [(7, zi (v5 + r1)), (0, zr Z v0), (1, zi v1), (2, zi v2), (3, zi v3), (4, zi v4), (5, zi v5), (6, zi v6)]) d_Quern_calledOn_28 (by decide) rfl ?_
      refine zv_sub X [1, 2, 3, 4, 5, 6, 7, 0] rfl ?_
      exact v_Quern_calledOn_30 X hN v0 v1 v2 v3 v6 (v5 + r1) hv0 (f_Quern_calledOn_9 v0 v1 v2 v3 D n) D ih zF v4 v5
set_option maxRecDepth 100000 in
theorem c_Quern_calledOn (l : Launch) {Z : Zt} (hZ : Zok Z) (hN : 143 ≤ Z.2.2.2.1) (v0 v1 v2 v3 : Int) (hv0 : isQ v0) (D : Mm) : CtP l Z y_Quern_calledOn prog_6_method_17_code 8 (some .int) rm_Quern_calledOn 1 [zr Z v0, zi v1, zi v2, zi v3] D (f_Quern_calledOn v0 v1 v2 v3 D) := by
  refine zm_P (lv := [(0, zr Z v0), (1, zi v1), (2, zi v2), (3, zi v3)]) hZ (by decide +kernel) rfl (Nat.le_of_ble_eq_true rfl) rfl (fun Γ hl X => ?_)
  subst hl
  unfold f_Quern_calledOn
  refine zv_iconst X d_Quern_calledOn_0 ?_
  refine zv_istore X (lv2 := [(4, zi 0), (0, zr Z v0), (1, zi v1), (2, zi v2), (3, zi v3)]) d_Quern_calledOn_1 (by decide) rfl ?_
  refine zv_iconst X d_Quern_calledOn_3 ?_
  refine zv_istore X (lv2 := [(5, zi 0), (4, zi 0), (0, zr Z v0), (1, zi v1), (2, zi v2), (3, zi v3)]) d_Quern_calledOn_4 (by decide) rfl ?_
  refine zv_iconst X d_Quern_calledOn_6 ?_
  refine zv_istore X (lv2 := [(6, zi 0), (5, zi 0), (4, zi 0), (0, zr Z v0), (1, zi v1), (2, zi v2), (3, zi v3)]) d_Quern_calledOn_7 (by decide) rfl ?_
  refine zv_sub X [3, 4, 5, 6, 2, 1, 0] rfl ?_
  exact v_Quern_calledOn_9 X hN v0 v1 v2 v3 hv0 D zF 0 0 0
set_option maxRecDepth 100000 in
theorem c_Main_read (l : Launch) {Z : Zt} (hZ : Zok Z) (hN : 143 ≤ Z.2.2.2.1) (v1 v2 v3 : Int)  (D : Mm) : CtP l Z y_Main_read prog_1_method_8_code 4 (some .int) rm_Main_read 1 [zr Z 1, zi v1, zi v2, zi v3] D (f_Main_read v1 v2 v3 D) := by
  refine zm_P (lv := [(0, zr Z 1), (1, zi v1), (2, zi v2), (3, zi v3)]) hZ (by decide +kernel) rfl (Nat.le_of_ble_eq_true rfl) rfl (fun Γ hl X => ?_)
  subst hl
  unfold f_Main_read
  refine zv_aload_n X d_Main_read_0 rfl 0 rfl ?_
  refine zv_guard (fun hq1 => ?_)
  refine zv_get X (ci := 6) rfl i_Main (za_1 hN) 7 (by decide) lk_Main_51 rfl rfl d_Main_read_1 ?_
  refine zv_iload_n X d_Main_read_4 rfl 1 rfl ?_
  refine zv_cVP1 X (av := [zi v1]) (st := []) (ci := 5) (c_Quern_hasPatch Γ.2.1 X.2.2.2.2.2.2.2.1 hN (D 1 7) v1 hq1 D) mk_Main_90 rfl (zq_0 hN hq1) ⟨rfl, rfl, Nat.le_of_ble_eq_true rfl, Nat.le_of_ble_eq_true rfl⟩ rfl (Nat.le_of_ble_eq_true rfl) d_Main_read_5 (fun r1 hr1 => ?_)
  refine zv_if_eq X (y := 0) (tgt := 33) d_Main_read_8 (by decide) (fun h8 => ?_) (fun h8 => ?_)
  · refine zv_iconst X d_Main_read_33 ?_
    exact zv_iretP X d_Main_read_34
  · refine zv_iload_n X d_Main_read_11 rfl 2 rfl ?_
    refine zv_iconst X d_Main_read_12 ?_
    refine zv_sipush X d_Main_read_13 (by decide +kernel) ?_
    refine zv_cSP1 X (av := [zi v2, zi 0, zi 9999]) (st := []) (c_Main_within Γ.2.1 X.2.2.2.2.2.2.2.1 hN v2 0 9999 D) mk_Main_61 ⟨rfl, rfl, Nat.le_of_ble_eq_true rfl, Nat.le_of_ble_eq_true rfl⟩ rfl (Nat.le_of_ble_eq_true rfl) d_Main_read_16 (fun r2 hr2 => ?_)
    refine zv_if_eq X (y := 0) (tgt := 33) d_Main_read_19 (by decide) (fun h19 => ?_) (fun h19 => ?_)
    · refine zv_iconst X d_Main_read_33 ?_
      exact zv_iretP X d_Main_read_34
    · refine zv_aload_n X d_Main_read_22 rfl 0 rfl ?_
      refine zv_guard (fun hq23 => ?_)
      refine zv_get X (ci := 6) rfl i_Main (za_1 hN) 7 (by decide) lk_Main_51 rfl rfl d_Main_read_23 ?_
      refine zv_iload_n X d_Main_read_26 rfl 3 rfl ?_
      refine zv_cVP1 X (av := [zi v3]) (st := []) (ci := 5) (c_Quern_hasSort Γ.2.1 X.2.2.2.2.2.2.2.1 hN (D 1 7) v3 hq23 D) mk_Main_110 rfl (zq_0 hN hq23) ⟨rfl, rfl, Nat.le_of_ble_eq_true rfl, Nat.le_of_ble_eq_true rfl⟩ rfl (Nat.le_of_ble_eq_true rfl) d_Main_read_27 (fun r3 hr3 => ?_)
      refine zv_if_ne X (y := 0) (tgt := 35) d_Main_read_30 (by decide) (fun h30 => ?_) (fun h30 => ?_)
      · refine zv_aload_n X d_Main_read_35 rfl 0 rfl ?_
        refine zv_guard (fun hq36 => ?_)
        refine zv_get X (ci := 6) rfl i_Main (za_1 hN) 7 (by decide) lk_Main_51 rfl rfl d_Main_read_36 ?_
        refine zv_iload_n X d_Main_read_39 rfl 1 rfl ?_
        refine zv_iload_n X d_Main_read_40 rfl 2 rfl ?_
        refine zv_iload_n X d_Main_read_41 rfl 3 rfl ?_
        refine zv_cVP1 X (av := [zi v1, zi v2, zi v3]) (st := []) (ci := 5) (c_Quern_calledOn Γ.2.1 X.2.2.2.2.2.2.2.1 hN (D 1 7) v1 v2 v3 hq36 D) mk_Main_121 rfl (zq_0 hN hq36) ⟨rfl, rfl, Nat.le_of_ble_eq_true rfl, Nat.le_of_ble_eq_true rfl⟩ rfl (Nat.le_of_ble_eq_true rfl) d_Main_read_42 (fun r4 hr4 => ?_)
        exact zv_iretP X d_Main_read_45
      · refine zv_iconst X d_Main_read_33 ?_
        exact zv_iretP X d_Main_read_34
set_option maxRecDepth 100000 in
theorem v_Odds_power_5 {Γ : Gt} {Z : Zt} (X : Cx Γ Z prog_5_method_4_code R_Odds 6 (some .long) rm_Odds_power) (v0 v2 : Int)   (D : Mm)  : ∀ (n : Nat) (v3 v5 : Int) , Zv Γ Z 6 (QfP Γ Z 2 D) (f_Odds_power_5 v0 v2 D n v3 v5) D 5 [(0, zl v0), (2, zi v2), (3, zl v3), (5, zi v5)] [] := by
  intro n
  induction n with
  | zero =>
    intro v3 v5
    exact zv_none
  | succ n ih =>
    intro v3 v5
    rw [f_Odds_power_5]
    refine zv_iload X d_Odds_power_5 3 rfl ?_
    refine zv_iload_n X d_Odds_power_7 rfl 1 rfl ?_
    refine zv_icmp_ge X (tgt := 21) d_Odds_power_8 (by decide) (fun h8 => ?_) (fun h8 => ?_)
    · refine zv_lload_n X d_Odds_power_21 rfl 2 rfl ?_
      exact zv_lretP X d_Odds_power_22
    · refine zv_lload_n X d_Odds_power_11 rfl 2 rfl ?_
      refine zv_lload_n X d_Odds_power_12 rfl 0 rfl ?_
      refine zv_lmul X d_Odds_power_13 ?_
      refine zv_lstore_n X (lv2 := [(3, zl (v3 * v0)), (0, zl v0), (2, zi v2), (5, zi v5)]) d_Odds_power_14 rfl (by decide) rfl ?_
      refine zv_iinc X (lv2 := [(5, zi (v5 + 1)), (3, zl (v3 * v0)), (0, zl v0), (2, zi v2)]) d_Odds_power_15 3 rfl (by decide) rfl ?_
      refine zv_goto X (tgt := 5) d_Odds_power_18 (by decide) ?_
      refine zv_sub X [2, 3, 1, 0] rfl ?_
      exact ih (v3 * v0) (v5 + 1)
set_option maxRecDepth 100000 in
theorem c_Odds_power (l : Launch) {Z : Zt} (hZ : Zok Z) (v0 v2 : Int)  (D : Mm) : CtP l Z y_Odds_power prog_5_method_4_code 6 (some .long) rm_Odds_power 2 [zl v0, zi v2] D (f_Odds_power v0 v2 D) := by
  refine zm_P (lv := [(0, zl v0), (2, zi v2)]) hZ (by decide +kernel) rfl (Nat.le_of_ble_eq_true rfl) rfl (fun Γ hl X => ?_)
  subst hl
  unfold f_Odds_power
  refine zv_lconst X (x := 1) d_Odds_power_0 (by decide +kernel) ?_
  refine zv_lstore_n X (lv2 := [(3, zl 1), (0, zl v0), (2, zi v2)]) d_Odds_power_1 rfl (by decide) rfl ?_
  refine zv_iconst X d_Odds_power_2 ?_
  refine zv_istore X (lv2 := [(5, zi 0), (3, zl 1), (0, zl v0), (2, zi v2)]) d_Odds_power_3 (by decide) rfl ?_
  refine zv_sub X [2, 3, 1, 0] rfl ?_
  exact v_Odds_power_5 X v0 v2 D zF 1 0
set_option maxRecDepth 100000 in
theorem v_Odds_waysOfAtLeast_46 {Γ : Gt} {Z : Zt} (X : Cx Γ Z prog_5_method_2_code R_Odds 9 (some .long) rm_Odds_waysOfAtLeast) (v0 v1 v2 v3 v4 v6 v8 : Int)  (K6 : Int → Int → Int → Option (Int)) (D : Mm) (hK6 : ∀ (v4 v6 v8 : Int), Zv Γ Z 9 (QfP Γ Z 2 D) (K6 v4 v6 v8) D 9 [(0, zi v0), (1, zi v1), (2, zi v2), (3, zi v3), (4, zl v4), (6, zl v6), (8, zi v8)] []) : Zv Γ Z 9 (QfP Γ Z 2 D) (f_Odds_waysOfAtLeast_46 v0 v1 v2 v3 v4 v6 v8 K6 D) D 46 [(0, zi v0), (1, zi v1), (2, zi v2), (3, zi v3), (4, zl v4), (6, zl v6), (8, zi v8)] [] := by
  unfold f_Odds_waysOfAtLeast_46
  refine zv_lload X d_Odds_waysOfAtLeast_46 5 rfl ?_
  refine zv_iload_n X d_Odds_waysOfAtLeast_48 rfl 1 rfl ?_
  refine zv_iload X d_Odds_waysOfAtLeast_49 6 rfl ?_
  refine zv_isub X d_Odds_waysOfAtLeast_51 ?_
  refine zv_i2l X d_Odds_waysOfAtLeast_52 ?_
  refine zv_lmul X d_Odds_waysOfAtLeast_53 ?_
  refine zv_iload X d_Odds_waysOfAtLeast_54 6 rfl ?_
  refine zv_iconst X d_Odds_waysOfAtLeast_56 ?_
  refine zv_iadd X d_Odds_waysOfAtLeast_57 ?_
  refine zv_i2l X d_Odds_waysOfAtLeast_58 ?_
  refine zv_ldiv X d_Odds_waysOfAtLeast_59 (fun h59 => ?_)
  refine zv_lstore X (lv2 := [(6, zl (jldiv (v6 * (wI (v1 - v8))) (wI (v8 + 1)))), (0, zi v0), (1, zi v1), (2, zi v2), (3, zi v3), (4, zl v4), (8, zi v8)]) d_Odds_waysOfAtLeast_60 (by decide) rfl ?_
  refine zv_iinc X (lv2 := [(8, zi (v8 + 1)), (6, zl (jldiv (v6 * (wI (v1 - v8))) (wI (v8 + 1)))), (0, zi v0), (1, zi v1), (2, zi v2), (3, zi v3), (4, zl v4)]) d_Odds_waysOfAtLeast_62 6 rfl (by decide) rfl ?_
  refine zv_goto X (tgt := 9) d_Odds_waysOfAtLeast_65 (by decide) ?_
  refine zv_sub X [2, 3, 4, 5, 6, 1, 0] rfl ?_
  exact hK6 v4 (jldiv (v6 * (wI (v1 - v8))) (wI (v8 + 1))) (v8 + 1)
set_option maxRecDepth 100000 in
theorem v_Odds_waysOfAtLeast_9 {Γ : Gt} {Z : Zt} (X : Cx Γ Z prog_5_method_2_code R_Odds 9 (some .long) rm_Odds_waysOfAtLeast) (v0 v1 v2 v3 : Int)   (D : Mm)  : ∀ (n : Nat) (v4 v6 v8 : Int) , Zv Γ Z 9 (QfP Γ Z 2 D) (f_Odds_waysOfAtLeast_9 v0 v1 v2 v3 D n v4 v6 v8) D 9 [(0, zi v0), (1, zi v1), (2, zi v2), (3, zi v3), (4, zl v4), (6, zl v6), (8, zi v8)] [] := by
  intro n
  induction n with
  | zero =>
    intro v4 v6 v8
    exact zv_none
  | succ n ih =>
    intro v4 v6 v8
    rw [f_Odds_waysOfAtLeast_9]
    refine zv_iload X d_Odds_waysOfAtLeast_9 6 rfl ?_
    refine zv_iload_n X d_Odds_waysOfAtLeast_11 rfl 1 rfl ?_
    refine zv_icmp_gt X (tgt := 68) d_Odds_waysOfAtLeast_12 (by decide) (fun h12 => ?_) (fun h12 => ?_)
    · refine zv_lload X d_Odds_waysOfAtLeast_68 4 rfl ?_
      exact zv_lretP X d_Odds_waysOfAtLeast_70
    · refine zv_iload X d_Odds_waysOfAtLeast_15 6 rfl ?_
      refine zv_iload_n X d_Odds_waysOfAtLeast_17 rfl 0 rfl ?_
      refine zv_icmp_lt X (tgt := 46) d_Odds_waysOfAtLeast_18 (by decide) (fun h18 => ?_) (fun h18 => ?_)
      · exact v_Odds_waysOfAtLeast_46 X v0 v1 v2 v3 v4 v6 v8 (f_Odds_waysOfAtLeast_9 v0 v1 v2 v3 D n) D ih
      · refine zv_lload X d_Odds_waysOfAtLeast_21 4 rfl ?_
        refine zv_lload X d_Odds_waysOfAtLeast_23 5 rfl ?_
        refine zv_iload_n X d_Odds_waysOfAtLeast_25 rfl 2 rfl ?_
        refine zv_i2l X d_Odds_waysOfAtLeast_26 ?_
        refine zv_iload X d_Odds_waysOfAtLeast_27 6 rfl ?_
        refine zv_cSP2 X (av := [zl (wI v2), zi v8]) (st := [zl v6, zl v4]) (c_Odds_power Γ.2.1 X.2.2.2.2.2.2.2.1 (wI v2) v8 D) mk_Odds_7 ⟨rfl, rfl, Nat.le_of_ble_eq_true rfl, Nat.le_of_ble_eq_true rfl⟩ rfl (Nat.le_of_ble_eq_true rfl) d_Odds_waysOfAtLeast_29 (fun r1 hr1 => ?_)
        refine zv_lmul X d_Odds_waysOfAtLeast_32 ?_
        refine zv_iload_n X d_Odds_waysOfAtLeast_33 rfl 3 rfl ?_
        refine zv_i2l X d_Odds_waysOfAtLeast_34 ?_
        refine zv_iload_n X d_Odds_waysOfAtLeast_35 rfl 1 rfl ?_
        refine zv_iload X d_Odds_waysOfAtLeast_36 6 rfl ?_
        refine zv_isub X d_Odds_waysOfAtLeast_38 ?_
        refine zv_cSP2 X (av := [zl (wI v3), zi (v1 - v8)]) (st := [zl (v6 * r1), zl v4]) (c_Odds_power Γ.2.1 X.2.2.2.2.2.2.2.1 (wI v3) (v1 - v8) D) mk_Odds_7 ⟨rfl, rfl, Nat.le_of_ble_eq_true rfl, Nat.le_of_ble_eq_true rfl⟩ rfl (Nat.le_of_ble_eq_true rfl) d_Odds_waysOfAtLeast_39 (fun r2 hr2 => ?_)
        refine zv_lmul X d_Odds_waysOfAtLeast_42 ?_
        refine zv_ladd X d_Odds_waysOfAtLeast_43 ?_
        refine zv_lstore X (lv2 := [(4, zl (v4 + ((v6 * r1) * r2))), (0, zi v0), (1, zi v1), (2, zi v2), (3, zi v3), (6, zl v6), (8, zi v8)]) d_Odds_waysOfAtLeast_44 (by decide) rfl ?_
        refine zv_sub X [1, 2, 3, 4, 0, 5, 6] rfl ?_
        exact v_Odds_waysOfAtLeast_46 X v0 v1 v2 v3 (v4 + ((v6 * r1) * r2)) v6 v8 (f_Odds_waysOfAtLeast_9 v0 v1 v2 v3 D n) D ih
set_option maxRecDepth 100000 in
theorem c_Odds_waysOfAtLeast (l : Launch) {Z : Zt} (hZ : Zok Z) (v0 v1 v2 v3 : Int)  (D : Mm) : CtP l Z y_Odds_waysOfAtLeast prog_5_method_2_code 9 (some .long) rm_Odds_waysOfAtLeast 2 [zi v0, zi v1, zi v2, zi v3] D (f_Odds_waysOfAtLeast v0 v1 v2 v3 D) := by
  refine zm_P (lv := [(0, zi v0), (1, zi v1), (2, zi v2), (3, zi v3)]) hZ (by decide +kernel) rfl (Nat.le_of_ble_eq_true rfl) rfl (fun Γ hl X => ?_)
  subst hl
  unfold f_Odds_waysOfAtLeast
  refine zv_lconst X (x := 0) d_Odds_waysOfAtLeast_0 (by decide +kernel) ?_
  refine zv_lstore X (lv2 := [(4, zl 0), (0, zi v0), (1, zi v1), (2, zi v2), (3, zi v3)]) d_Odds_waysOfAtLeast_1 (by decide) rfl ?_
  refine zv_lconst X (x := 1) d_Odds_waysOfAtLeast_3 (by decide +kernel) ?_
  refine zv_lstore X (lv2 := [(6, zl 1), (4, zl 0), (0, zi v0), (1, zi v1), (2, zi v2), (3, zi v3)]) d_Odds_waysOfAtLeast_4 (by decide) rfl ?_
  refine zv_iconst X d_Odds_waysOfAtLeast_6 ?_
  refine zv_istore X (lv2 := [(8, zi 0), (6, zl 1), (4, zl 0), (0, zi v0), (1, zi v1), (2, zi v2), (3, zi v3)]) d_Odds_waysOfAtLeast_7 (by decide) rfl ?_
  refine zv_sub X [3, 4, 5, 6, 2, 1, 0] rfl ?_
  exact v_Odds_waysOfAtLeast_9 X v0 v1 v2 v3 D zF 0 1 0
set_option maxRecDepth 100000 in
theorem v_Odds_commonDivisor_9 {Γ : Gt} {Z : Zt} (X : Cx Γ Z prog_5_method_6_code R_Odds 11 (some .long) rm_Odds_commonDivisor)   (D : Mm)  : ∀ (n : Nat) (v4 v6 v8 : Int) , Zv Γ Z 11 (QfP Γ Z 2 D) (f_Odds_commonDivisor_9 D n v4 v6 v8) D 9 [(4, zl v4), (6, zl v6), (8, zi v8)] [] := by
  intro n
  induction n with
  | zero =>
    intro v4 v6 v8
    exact zv_none
  | succ n ih =>
    intro v4 v6 v8
    rw [f_Odds_commonDivisor_9]
    refine zv_iload X d_Odds_commonDivisor_9 2 rfl ?_
    refine zv_bipush X d_Odds_commonDivisor_11 (by decide +kernel) ?_
    refine zv_icmp_ge X (tgt := 44) d_Odds_commonDivisor_13 (by decide) (fun h13 => ?_) (fun h13 => ?_)
    · refine zv_lload X d_Odds_commonDivisor_44 0 rfl ?_
      exact zv_lretP X d_Odds_commonDivisor_46
    · refine zv_lload X d_Odds_commonDivisor_16 1 rfl ?_
      refine zv_lconst X (x := 0) d_Odds_commonDivisor_18 (by decide +kernel) ?_
      refine zv_lcmp_eq X (tgt := 44) d_Odds_commonDivisor_19 d_Odds_commonDivisor_20 (by decide) (fun h19 => ?_) (fun h19 => ?_)
      · refine zv_lload X d_Odds_commonDivisor_44 0 rfl ?_
        exact zv_lretP X d_Odds_commonDivisor_46
      · refine zv_lload X d_Odds_commonDivisor_23 0 rfl ?_
        refine zv_lload X d_Odds_commonDivisor_25 1 rfl ?_
        refine zv_lrem X d_Odds_commonDivisor_27 (fun h27 => ?_)
        refine zv_lstore X (lv2 := [(9, zl (jlrem v4 v6)), (4, zl v4), (6, zl v6), (8, zi v8)]) d_Odds_commonDivisor_28 (by decide) rfl ?_
        refine zv_lload X d_Odds_commonDivisor_30 2 rfl ?_
        refine zv_lstore X (lv2 := [(4, zl v6), (9, zl (jlrem v4 v6)), (6, zl v6), (8, zi v8)]) d_Odds_commonDivisor_32 (by decide) rfl ?_
        refine zv_lload X d_Odds_commonDivisor_34 1 rfl ?_
        refine zv_lstore X (lv2 := [(6, zl (jlrem v4 v6)), (4, zl v6), (9, zl (jlrem v4 v6)), (8, zi v8)]) d_Odds_commonDivisor_36 (by decide) rfl ?_
        refine zv_iinc X (lv2 := [(8, zi (v8 + 1)), (6, zl (jlrem v4 v6)), (4, zl v6), (9, zl (jlrem v4 v6))]) d_Odds_commonDivisor_38 3 rfl (by decide) rfl ?_
        refine zv_goto X (tgt := 9) d_Odds_commonDivisor_41 (by decide) ?_
        refine zv_sub X [2, 1, 0] rfl ?_
        exact ih v6 (jlrem v4 v6) (v8 + 1)
set_option maxRecDepth 100000 in
theorem c_Odds_commonDivisor (l : Launch) {Z : Zt} (hZ : Zok Z) (v0 v2 : Int)  (D : Mm) : CtP l Z y_Odds_commonDivisor prog_5_method_6_code 11 (some .long) rm_Odds_commonDivisor 2 [zl v0, zl v2] D (f_Odds_commonDivisor v0 v2 D) := by
  refine zm_P (lv := [(0, zl v0), (2, zl v2)]) hZ (by decide +kernel) rfl (Nat.le_of_ble_eq_true rfl) rfl (fun Γ hl X => ?_)
  subst hl
  unfold f_Odds_commonDivisor
  refine zv_lload_n X d_Odds_commonDivisor_0 rfl 0 rfl ?_
  refine zv_lstore X (lv2 := [(4, zl v0), (0, zl v0), (2, zl v2)]) d_Odds_commonDivisor_1 (by decide) rfl ?_
  refine zv_lload_n X d_Odds_commonDivisor_3 rfl 2 rfl ?_
  refine zv_lstore X (lv2 := [(6, zl v2), (4, zl v0), (0, zl v0), (2, zl v2)]) d_Odds_commonDivisor_4 (by decide) rfl ?_
  refine zv_iconst X d_Odds_commonDivisor_6 ?_
  refine zv_istore X (lv2 := [(8, zi 0), (6, zl v2), (4, zl v0), (0, zl v0), (2, zl v2)]) d_Odds_commonDivisor_7 (by decide) rfl ?_
  refine zv_sub X [2, 1, 0] rfl ?_
  exact v_Odds_commonDivisor_9 X D zF v0 v2 0
set_option maxRecDepth 100000 in
theorem v_Odds_inLowestTerms_10 {Γ : Gt} {Z : Zt} (X : Cx Γ Z prog_5_method_5_code R_Odds 9 (some .long) rm_Odds_inLowestTerms) (v0 v2 s0 : Int)   (D : Mm)  : Zv Γ Z 9 (QfP Γ Z 2 D) (f_Odds_inLowestTerms_10 v0 v2 s0 D) D 10 [(0, zl v0), (2, zl v2)] [zl s0] := by
  unfold f_Odds_inLowestTerms_10
  refine zv_lstore X (lv2 := [(5, zl s0), (0, zl v0), (2, zl v2)]) d_Odds_inLowestTerms_10 (by decide) rfl ?_
  refine zv_lload_n X d_Odds_inLowestTerms_12 rfl 1 rfl ?_
  refine zv_lload_n X d_Odds_inLowestTerms_13 rfl 2 rfl ?_
  refine zv_cSP2 X (av := [zl v0, zl v2]) (st := []) (c_Odds_commonDivisor Γ.2.1 X.2.2.2.2.2.2.2.1 v0 v2 D) mk_Odds_13 ⟨rfl, rfl, Nat.le_of_ble_eq_true rfl, Nat.le_of_ble_eq_true rfl⟩ rfl (Nat.le_of_ble_eq_true rfl) d_Odds_inLowestTerms_14 (fun r1 hr1 => ?_)
  refine zv_lstore X (lv2 := [(7, zl r1), (5, zl s0), (0, zl v0), (2, zl v2)]) d_Odds_inLowestTerms_17 (by decide) rfl ?_
  refine zv_lload X d_Odds_inLowestTerms_19 0 rfl ?_
  refine zv_lconst X (x := 0) d_Odds_inLowestTerms_21 (by decide +kernel) ?_
  refine zv_lcmp_ne X (tgt := 31) d_Odds_inLowestTerms_22 d_Odds_inLowestTerms_23 (by decide) (fun h22 => ?_) (fun h22 => ?_)
  · refine zv_lload X d_Odds_inLowestTerms_31 1 rfl ?_
    refine zv_lload X d_Odds_inLowestTerms_33 0 rfl ?_
    refine zv_ldiv X d_Odds_inLowestTerms_35 (fun h35 => ?_)
    exact zv_lretP X d_Odds_inLowestTerms_36
  · refine zv_lload X d_Odds_inLowestTerms_26 1 rfl ?_
    refine zv_goto X (tgt := 36) d_Odds_inLowestTerms_28 (by decide) ?_
    exact zv_lretP X d_Odds_inLowestTerms_36
set_option maxRecDepth 100000 in
theorem c_Odds_inLowestTerms (l : Launch) {Z : Zt} (hZ : Zok Z) (v0 v2 v4 : Int)  (D : Mm) : CtP l Z y_Odds_inLowestTerms prog_5_method_5_code 9 (some .long) rm_Odds_inLowestTerms 2 [zl v0, zl v2, zi v4] D (f_Odds_inLowestTerms v0 v2 v4 D) := by
  refine zm_P (lv := [(0, zl v0), (2, zl v2), (4, zi v4)]) hZ (by decide +kernel) rfl (Nat.le_of_ble_eq_true rfl) rfl (fun Γ hl X => ?_)
  subst hl
  unfold f_Odds_inLowestTerms
  refine zv_iload X d_Odds_inLowestTerms_0 2 rfl ?_
  refine zv_if_ne X (y := 0) (tgt := 9) d_Odds_inLowestTerms_2 (by decide) (fun h2 => ?_) (fun h2 => ?_)
  · refine zv_lload_n X d_Odds_inLowestTerms_9 rfl 1 rfl ?_
    refine zv_sub X [0, 1] rfl ?_
    exact v_Odds_inLowestTerms_10 X v0 v2 v2 D
  · refine zv_lload_n X d_Odds_inLowestTerms_5 rfl 0 rfl ?_
    refine zv_goto X (tgt := 10) d_Odds_inLowestTerms_6 (by decide) ?_
    refine zv_sub X [0, 1] rfl ?_
    exact v_Odds_inLowestTerms_10 X v0 v2 v0 D
set_option maxRecDepth 100000 in
theorem v_Main_more_57 {Γ : Gt} {Z : Zt} (X : Cx Γ Z prog_1_method_9_code R_Main 7 (some .long) rm_Main_more) (hN : 143 ≤ Z.2.2.2.1)   (D : Mm)  : Zv Γ Z 7 (QfP Γ Z 2 D) (f_Main_more_57 D) D 57 [] [] := by
  unfold f_Main_more_57
  refine zv_ldc2 X (-1) kc_Main_124 (by decide +kernel) d_Main_more_57 ?_
  exact zv_lretP X d_Main_more_60
set_option maxRecDepth 100000 in
theorem v_Main_more_32 {Γ : Gt} {Z : Zt} (X : Cx Γ Z prog_1_method_9_code R_Main 7 (some .long) rm_Main_more) (hN : 143 ≤ Z.2.2.2.1)   (D : Mm)  : Zv Γ Z 7 (QfP Γ Z 2 D) (f_Main_more_32 D) D 32 [] [] := by
  unfold f_Main_more_32
  refine zv_ldc2 X (-1) kc_Main_124 (by decide +kernel) d_Main_more_32 ?_
  exact zv_lretP X d_Main_more_35
set_option maxRecDepth 100000 in
theorem c_Main_more (l : Launch) {Z : Zt} (hZ : Zok Z) (hN : 143 ≤ Z.2.2.2.1) (v1 v2 v3 v4 v5 : Int)  (D : Mm) : CtP l Z y_Main_more prog_1_method_9_code 7 (some .long) rm_Main_more 2 [zr Z 1, zi v1, zi v2, zi v3, zi v4, zi v5] D (f_Main_more v1 v2 v3 v4 v5 D) := by
  refine zm_P (lv := [(0, zr Z 1), (1, zi v1), (2, zi v2), (3, zi v3), (4, zi v4), (5, zi v5)]) hZ (by decide +kernel) rfl (Nat.le_of_ble_eq_true rfl) rfl (fun Γ hl X => ?_)
  subst hl
  unfold f_Main_more
  refine zv_iload_n X d_Main_more_0 rfl 1 rfl ?_
  refine zv_iconst X d_Main_more_1 ?_
  refine zv_bipush X d_Main_more_2 (by decide +kernel) ?_
  refine zv_cSP1 X (av := [zi v1, zi 0, zi 12]) (st := []) (c_Main_within Γ.2.1 X.2.2.2.2.2.2.2.1 hN v1 0 12 D) mk_Main_61 ⟨rfl, rfl, Nat.le_of_ble_eq_true rfl, Nat.le_of_ble_eq_true rfl⟩ rfl (Nat.le_of_ble_eq_true rfl) d_Main_more_4 (fun r1 hr1 => ?_)
  refine zv_if_eq X (y := 0) (tgt := 32) d_Main_more_7 (by decide) (fun h7 => ?_) (fun h7 => ?_)
  · refine zv_sub X [] rfl ?_
    exact v_Main_more_32 X hN D
  · refine zv_iload_n X d_Main_more_10 rfl 3 rfl ?_
    refine zv_iconst X d_Main_more_11 ?_
    refine zv_bipush X d_Main_more_12 (by decide +kernel) ?_
    refine zv_iload_n X d_Main_more_14 rfl 1 rfl ?_
    refine zv_isub X d_Main_more_15 ?_
    refine zv_cSP1 X (av := [zi v3, zi 0, zi (12 - v1)]) (st := []) (c_Main_within Γ.2.1 X.2.2.2.2.2.2.2.1 hN v3 0 (12 - v1) D) mk_Main_61 ⟨rfl, rfl, Nat.le_of_ble_eq_true rfl, Nat.le_of_ble_eq_true rfl⟩ rfl (Nat.le_of_ble_eq_true rfl) d_Main_more_16 (fun r2 hr2 => ?_)
    refine zv_if_eq X (y := 0) (tgt := 32) d_Main_more_19 (by decide) (fun h19 => ?_) (fun h19 => ?_)
    · refine zv_sub X [] rfl ?_
      exact v_Main_more_32 X hN D
    · refine zv_iload X d_Main_more_22 5 rfl ?_
      refine zv_iconst X d_Main_more_24 ?_
      refine zv_iconst X d_Main_more_25 ?_
      refine zv_cSP1 X (av := [zi v5, zi 0, zi 1]) (st := []) (c_Main_within Γ.2.1 X.2.2.2.2.2.2.2.1 hN v5 0 1 D) mk_Main_61 ⟨rfl, rfl, Nat.le_of_ble_eq_true rfl, Nat.le_of_ble_eq_true rfl⟩ rfl (Nat.le_of_ble_eq_true rfl) d_Main_more_26 (fun r3 hr3 => ?_)
      refine zv_if_ne X (y := 0) (tgt := 36) d_Main_more_29 (by decide) (fun h29 => ?_) (fun h29 => ?_)
      · refine zv_iload_n X d_Main_more_36 rfl 2 rfl ?_
        refine zv_iconst X d_Main_more_37 ?_
        refine zv_bipush X d_Main_more_38 (by decide +kernel) ?_
        refine zv_cSP1 X (av := [zi v2, zi 1, zi 9]) (st := []) (c_Main_within Γ.2.1 X.2.2.2.2.2.2.2.1 hN v2 1 9 D) mk_Main_61 ⟨rfl, rfl, Nat.le_of_ble_eq_true rfl, Nat.le_of_ble_eq_true rfl⟩ rfl (Nat.le_of_ble_eq_true rfl) d_Main_more_40 (fun r4 hr4 => ?_)
        refine zv_if_eq X (y := 0) (tgt := 57) d_Main_more_43 (by decide) (fun h43 => ?_) (fun h43 => ?_)
        · refine zv_sub X [] rfl ?_
          exact v_Main_more_57 X hN D
        · refine zv_iload X d_Main_more_46 4 rfl ?_
          refine zv_iconst X d_Main_more_48 ?_
          refine zv_bipush X d_Main_more_49 (by decide +kernel) ?_
          refine zv_cSP1 X (av := [zi v4, zi 1, zi 9]) (st := []) (c_Main_within Γ.2.1 X.2.2.2.2.2.2.2.1 hN v4 1 9 D) mk_Main_61 ⟨rfl, rfl, Nat.le_of_ble_eq_true rfl, Nat.le_of_ble_eq_true rfl⟩ rfl (Nat.le_of_ble_eq_true rfl) d_Main_more_51 (fun r5 hr5 => ?_)
          refine zv_if_ne X (y := 0) (tgt := 61) d_Main_more_54 (by decide) (fun h54 => ?_) (fun h54 => ?_)
          · refine zv_iload_n X d_Main_more_61 rfl 1 rfl ?_
            refine zv_iload_n X d_Main_more_62 rfl 3 rfl ?_
            refine zv_iadd X d_Main_more_63 ?_
            refine zv_istore X (lv2 := [(6, zi (v1 + v3)), (0, zr Z 1), (1, zi v1), (2, zi v2), (3, zi v3), (4, zi v4), (5, zi v5)]) d_Main_more_64 (by decide) rfl ?_
            refine zv_iload_n X d_Main_more_66 rfl 2 rfl ?_
            refine zv_iload X d_Main_more_67 0 rfl ?_
            refine zv_iload_n X d_Main_more_69 rfl 3 rfl ?_
            refine zv_iload X d_Main_more_70 5 rfl ?_
            refine zv_cSP2 X (av := [zi v1, zi (v1 + v3), zi v2, zi v4]) (st := []) (c_Odds_waysOfAtLeast Γ.2.1 X.2.2.2.2.2.2.2.1 v1 (v1 + v3) v2 v4 D) mk_Main_126 ⟨rfl, rfl, Nat.le_of_ble_eq_true rfl, Nat.le_of_ble_eq_true rfl⟩ rfl (Nat.le_of_ble_eq_true rfl) d_Main_more_72 (fun r6 hr6 => ?_)
            refine zv_iload_n X d_Main_more_75 rfl 3 rfl ?_
            refine zv_iload X d_Main_more_76 5 rfl ?_
            refine zv_iadd X d_Main_more_78 ?_
            refine zv_i2l X d_Main_more_79 ?_
            refine zv_iload X d_Main_more_80 0 rfl ?_
            refine zv_cSP2 X (av := [zl (wI (v2 + v4)), zi (v1 + v3)]) (st := [zl r6]) (c_Odds_power Γ.2.1 X.2.2.2.2.2.2.2.1 (wI (v2 + v4)) (v1 + v3) D) mk_Main_132 ⟨rfl, rfl, Nat.le_of_ble_eq_true rfl, Nat.le_of_ble_eq_true rfl⟩ rfl (Nat.le_of_ble_eq_true rfl) d_Main_more_82 (fun r7 hr7 => ?_)
            refine zv_iload X d_Main_more_85 6 rfl ?_
            refine zv_cSP2 X (av := [zl r6, zl r7, zi v5]) (st := []) (c_Odds_inLowestTerms Γ.2.1 X.2.2.2.2.2.2.2.1 r6 r7 v5 D) mk_Main_136 ⟨rfl, rfl, Nat.le_of_ble_eq_true rfl, Nat.le_of_ble_eq_true rfl⟩ rfl (Nat.le_of_ble_eq_true rfl) d_Main_more_87 (fun r8 hr8 => ?_)
            exact zv_lretP X d_Main_more_90
          · refine zv_sub X [] rfl ?_
            exact v_Main_more_57 X hN D
      · refine zv_sub X [] rfl ?_
        exact v_Main_more_32 X hN D
set_option maxRecDepth 100000 in
theorem c_Odds_areRare (l : Launch) {Z : Zt} (hZ : Zok Z) (v0 v1 v2 v3 : Int)  (D : Mm) : CtP l Z y_Odds_areRare prog_5_method_3_code 4 (some .boolean) rm_Odds_areRare 1 [zi v0, zi v1, zi v2, zi v3] D (f_Odds_areRare v0 v1 v2 v3 D) := by
  refine zm_P (lv := [(0, zi v0), (1, zi v1), (2, zi v2), (3, zi v3)]) hZ (by decide +kernel) rfl (Nat.le_of_ble_eq_true rfl) rfl (fun Γ hl X => ?_)
  subst hl
  unfold f_Odds_areRare
  refine zv_iload_n X d_Odds_areRare_0 rfl 1 rfl ?_
  refine zv_i2l X d_Odds_areRare_1 ?_
  refine zv_iload_n X d_Odds_areRare_2 rfl 0 rfl ?_
  refine zv_cSP2 X (av := [zl (wI v1), zi v0]) (st := []) (c_Odds_power Γ.2.1 X.2.2.2.2.2.2.2.1 (wI v1) v0 D) mk_Odds_7 ⟨rfl, rfl, Nat.le_of_ble_eq_true rfl, Nat.le_of_ble_eq_true rfl⟩ rfl (Nat.le_of_ble_eq_true rfl) d_Odds_areRare_3 (fun r1 hr1 => ?_)
  refine zv_iload_n X d_Odds_areRare_6 rfl 3 rfl ?_
  refine zv_i2l X d_Odds_areRare_7 ?_
  refine zv_lmul X d_Odds_areRare_8 ?_
  refine zv_iload_n X d_Odds_areRare_9 rfl 1 rfl ?_
  refine zv_iload_n X d_Odds_areRare_10 rfl 2 rfl ?_
  refine zv_iadd X d_Odds_areRare_11 ?_
  refine zv_i2l X d_Odds_areRare_12 ?_
  refine zv_iload_n X d_Odds_areRare_13 rfl 0 rfl ?_
  refine zv_cSP2 X (av := [zl (wI (v1 + v2)), zi v0]) (st := [zl (r1 * (wI v3))]) (c_Odds_power Γ.2.1 X.2.2.2.2.2.2.2.1 (wI (v1 + v2)) v0 D) mk_Odds_7 ⟨rfl, rfl, Nat.le_of_ble_eq_true rfl, Nat.le_of_ble_eq_true rfl⟩ rfl (Nat.le_of_ble_eq_true rfl) d_Odds_areRare_14 (fun r2 hr2 => ?_)
  refine zv_lcmp_gt X (tgt := 25) d_Odds_areRare_17 d_Odds_areRare_18 (by decide) (fun h17 => ?_) (fun h17 => ?_)
  · refine zv_iconst X d_Odds_areRare_25 ?_
    exact zv_zretPK X (Or.inl rfl) d_Odds_areRare_26
  · refine zv_iconst X d_Odds_areRare_21 ?_
    refine zv_goto X (tgt := 26) d_Odds_areRare_22 (by decide) ?_
    exact zv_zretPK X (Or.inr rfl) d_Odds_areRare_26
set_option maxRecDepth 100000 in
theorem v_Main_says_36 {Γ : Gt} {Z : Zt} (X : Cx Γ Z prog_1_method_10_code R_Main 5 (some .int) rm_Main_says) (hN : 143 ≤ Z.2.2.2.1) (v1 v2 v3 : Int)   (D : Mm)  : ∀ (n : Nat) (v4 : Int) , Zv Γ Z 5 (QfP Γ Z 1 D) (f_Main_says_36 v1 v2 v3 D n v4) D 36 [(1, zi v1), (2, zi v2), (3, zi v3), (4, zi v4)] [] := by
  intro n
  induction n with
  | zero =>
    intro v4
    exact zv_none
  | succ n ih =>
    intro v4
    rw [f_Main_says_36]
    refine zv_iload X d_Main_says_36 3 rfl ?_
    refine zv_bipush X d_Main_says_38 (by decide +kernel) ?_
    refine zv_icmp_gt X (tgt := 63) d_Main_says_40 (by decide) (fun h40 => ?_) (fun h40 => ?_)
    · refine zv_bipush X d_Main_says_63 (by decide +kernel) ?_
      exact zv_iretP X d_Main_says_65
    · refine zv_iload X d_Main_says_43 3 rfl ?_
      refine zv_iload_n X d_Main_says_45 rfl 0 rfl ?_
      refine zv_iload_n X d_Main_says_46 rfl 1 rfl ?_
      refine zv_iload_n X d_Main_says_47 rfl 2 rfl ?_
      refine zv_cSP1 X (av := [zi v4, zi v1, zi v2, zi v3]) (st := []) (c_Odds_areRare Γ.2.1 X.2.2.2.2.2.2.2.1 v4 v1 v2 v3 D) mk_Main_140 ⟨rfl, rfl, Nat.le_of_ble_eq_true rfl, Nat.le_of_ble_eq_true rfl⟩ rfl (Nat.le_of_ble_eq_true rfl) d_Main_says_48 (fun r1 hr1 => ?_)
      refine zv_if_eq X (y := 0) (tgt := 57) d_Main_says_51 (by decide) (fun h51 => ?_) (fun h51 => ?_)
      · refine zv_iinc X (lv2 := [(4, zi (v4 + 1)), (1, zi v1), (2, zi v2), (3, zi v3)]) d_Main_says_57 3 rfl (by decide) rfl ?_
        refine zv_goto X (tgt := 36) d_Main_says_60 (by decide) ?_
        refine zv_sub X [1, 2, 3, 0] rfl ?_
        exact ih (v4 + 1)
      · refine zv_iload X d_Main_says_54 3 rfl ?_
        exact zv_iretP X d_Main_says_56
set_option maxRecDepth 100000 in
theorem c_Main_says (l : Launch) {Z : Zt} (hZ : Zok Z) (hN : 143 ≤ Z.2.2.2.1) (v1 v2 v3 : Int)  (D : Mm) : CtP l Z y_Main_says prog_1_method_10_code 5 (some .int) rm_Main_says 1 [zr Z 1, zi v1, zi v2, zi v3] D (f_Main_says v1 v2 v3 D) := by
  refine zm_P (lv := [(0, zr Z 1), (1, zi v1), (2, zi v2), (3, zi v3)]) hZ (by decide +kernel) rfl (Nat.le_of_ble_eq_true rfl) rfl (fun Γ hl X => ?_)
  subst hl
  unfold f_Main_says
  refine zv_iload_n X d_Main_says_0 rfl 1 rfl ?_
  refine zv_iconst X d_Main_says_1 ?_
  refine zv_bipush X d_Main_says_2 (by decide +kernel) ?_
  refine zv_cSP1 X (av := [zi v1, zi 1, zi 9]) (st := []) (c_Main_within Γ.2.1 X.2.2.2.2.2.2.2.1 hN v1 1 9 D) mk_Main_61 ⟨rfl, rfl, Nat.le_of_ble_eq_true rfl, Nat.le_of_ble_eq_true rfl⟩ rfl (Nat.le_of_ble_eq_true rfl) d_Main_says_4 (fun r1 hr1 => ?_)
  refine zv_if_eq X (y := 0) (tgt := 31) d_Main_says_7 (by decide) (fun h7 => ?_) (fun h7 => ?_)
  · refine zv_iconst X d_Main_says_31 ?_
    exact zv_iretP X d_Main_says_32
  · refine zv_iload_n X d_Main_says_10 rfl 2 rfl ?_
    refine zv_iconst X d_Main_says_11 ?_
    refine zv_bipush X d_Main_says_12 (by decide +kernel) ?_
    refine zv_cSP1 X (av := [zi v2, zi 1, zi 9]) (st := []) (c_Main_within Γ.2.1 X.2.2.2.2.2.2.2.1 hN v2 1 9 D) mk_Main_61 ⟨rfl, rfl, Nat.le_of_ble_eq_true rfl, Nat.le_of_ble_eq_true rfl⟩ rfl (Nat.le_of_ble_eq_true rfl) d_Main_says_14 (fun r2 hr2 => ?_)
    refine zv_if_eq X (y := 0) (tgt := 31) d_Main_says_17 (by decide) (fun h17 => ?_) (fun h17 => ?_)
    · refine zv_iconst X d_Main_says_31 ?_
      exact zv_iretP X d_Main_says_32
    · refine zv_iload_n X d_Main_says_20 rfl 3 rfl ?_
      refine zv_iconst X d_Main_says_21 ?_
      refine zv_sipush X d_Main_says_22 (by decide +kernel) ?_
      refine zv_cSP1 X (av := [zi v3, zi 1, zi 1000]) (st := []) (c_Main_within Γ.2.1 X.2.2.2.2.2.2.2.1 hN v3 1 1000 D) mk_Main_61 ⟨rfl, rfl, Nat.le_of_ble_eq_true rfl, Nat.le_of_ble_eq_true rfl⟩ rfl (Nat.le_of_ble_eq_true rfl) d_Main_says_25 (fun r3 hr3 => ?_)
      refine zv_if_ne X (y := 0) (tgt := 33) d_Main_says_28 (by decide) (fun h28 => ?_) (fun h28 => ?_)
      · refine zv_iconst X d_Main_says_33 ?_
        refine zv_istore X (lv2 := [(4, zi 0), (0, zr Z 1), (1, zi v1), (2, zi v2), (3, zi v3)]) d_Main_says_34 (by decide) rfl ?_
        refine zv_sub X [2, 3, 4, 0] rfl ?_
        exact v_Main_says_36 X hN v1 v2 v3 D zF 0
      · refine zv_iconst X d_Main_says_31 ?_
        exact zv_iretP X d_Main_says_32
set_option maxRecDepth 100000 in
theorem v_Main_controls_36 {Γ : Gt} {Z : Zt} (X : Cx Γ Z prog_1_method_11_code R_Main 5 (some .int) rm_Main_controls) (hN : 143 ≤ Z.2.2.2.1) (v1 v2 v3 : Int)   (D : Mm)  : ∀ (n : Nat) (v4 : Int) , Zv Γ Z 5 (QfP Γ Z 1 D) (f_Main_controls_36 v1 v2 v3 D n v4) D 36 [(1, zi v1), (2, zi v2), (3, zi v3), (4, zi v4)] [] := by
  intro n
  induction n with
  | zero =>
    intro v4
    exact zv_none
  | succ n ih =>
    intro v4
    rw [f_Main_controls_36]
    refine zv_iload X d_Main_controls_36 3 rfl ?_
    refine zv_bipush X d_Main_controls_38 (by decide +kernel) ?_
    refine zv_icmp_gt X (tgt := 63) d_Main_controls_40 (by decide) (fun h40 => ?_) (fun h40 => ?_)
    · refine zv_bipush X d_Main_controls_63 (by decide +kernel) ?_
      exact zv_iretP X d_Main_controls_65
    · refine zv_iload_n X d_Main_controls_43 rfl 0 rfl ?_
      refine zv_iload_n X d_Main_controls_44 rfl 1 rfl ?_
      refine zv_iload X d_Main_controls_45 3 rfl ?_
      refine zv_iload_n X d_Main_controls_47 rfl 2 rfl ?_
      refine zv_cSP1 X (av := [zi v1, zi v2, zi v4, zi v3]) (st := []) (c_Odds_areRare Γ.2.1 X.2.2.2.2.2.2.2.1 v1 v2 v4 v3 D) mk_Main_140 ⟨rfl, rfl, Nat.le_of_ble_eq_true rfl, Nat.le_of_ble_eq_true rfl⟩ rfl (Nat.le_of_ble_eq_true rfl) d_Main_controls_48 (fun r1 hr1 => ?_)
      refine zv_if_eq X (y := 0) (tgt := 57) d_Main_controls_51 (by decide) (fun h51 => ?_) (fun h51 => ?_)
      · refine zv_iinc X (lv2 := [(4, zi (v4 + 1)), (1, zi v1), (2, zi v2), (3, zi v3)]) d_Main_controls_57 3 rfl (by decide) rfl ?_
        refine zv_goto X (tgt := 36) d_Main_controls_60 (by decide) ?_
        refine zv_sub X [1, 2, 3, 0] rfl ?_
        exact ih (v4 + 1)
      · refine zv_iload X d_Main_controls_54 3 rfl ?_
        exact zv_iretP X d_Main_controls_56
set_option maxRecDepth 100000 in
theorem c_Main_controls (l : Launch) {Z : Zt} (hZ : Zok Z) (hN : 143 ≤ Z.2.2.2.1) (v1 v2 v3 : Int)  (D : Mm) : CtP l Z y_Main_controls prog_1_method_11_code 5 (some .int) rm_Main_controls 1 [zr Z 1, zi v1, zi v2, zi v3] D (f_Main_controls v1 v2 v3 D) := by
  refine zm_P (lv := [(0, zr Z 1), (1, zi v1), (2, zi v2), (3, zi v3)]) hZ (by decide +kernel) rfl (Nat.le_of_ble_eq_true rfl) rfl (fun Γ hl X => ?_)
  subst hl
  unfold f_Main_controls
  refine zv_iload_n X d_Main_controls_0 rfl 1 rfl ?_
  refine zv_iconst X d_Main_controls_1 ?_
  refine zv_bipush X d_Main_controls_2 (by decide +kernel) ?_
  refine zv_cSP1 X (av := [zi v1, zi 1, zi 9]) (st := []) (c_Main_within Γ.2.1 X.2.2.2.2.2.2.2.1 hN v1 1 9 D) mk_Main_61 ⟨rfl, rfl, Nat.le_of_ble_eq_true rfl, Nat.le_of_ble_eq_true rfl⟩ rfl (Nat.le_of_ble_eq_true rfl) d_Main_controls_4 (fun r1 hr1 => ?_)
  refine zv_if_eq X (y := 0) (tgt := 31) d_Main_controls_7 (by decide) (fun h7 => ?_) (fun h7 => ?_)
  · refine zv_iconst X d_Main_controls_31 ?_
    exact zv_iretP X d_Main_controls_32
  · refine zv_iload_n X d_Main_controls_10 rfl 2 rfl ?_
    refine zv_iconst X d_Main_controls_11 ?_
    refine zv_bipush X d_Main_controls_12 (by decide +kernel) ?_
    refine zv_cSP1 X (av := [zi v2, zi 1, zi 9]) (st := []) (c_Main_within Γ.2.1 X.2.2.2.2.2.2.2.1 hN v2 1 9 D) mk_Main_61 ⟨rfl, rfl, Nat.le_of_ble_eq_true rfl, Nat.le_of_ble_eq_true rfl⟩ rfl (Nat.le_of_ble_eq_true rfl) d_Main_controls_14 (fun r2 hr2 => ?_)
    refine zv_if_eq X (y := 0) (tgt := 31) d_Main_controls_17 (by decide) (fun h17 => ?_) (fun h17 => ?_)
    · refine zv_iconst X d_Main_controls_31 ?_
      exact zv_iretP X d_Main_controls_32
    · refine zv_iload_n X d_Main_controls_20 rfl 3 rfl ?_
      refine zv_iconst X d_Main_controls_21 ?_
      refine zv_sipush X d_Main_controls_22 (by decide +kernel) ?_
      refine zv_cSP1 X (av := [zi v3, zi 1, zi 1000]) (st := []) (c_Main_within Γ.2.1 X.2.2.2.2.2.2.2.1 hN v3 1 1000 D) mk_Main_61 ⟨rfl, rfl, Nat.le_of_ble_eq_true rfl, Nat.le_of_ble_eq_true rfl⟩ rfl (Nat.le_of_ble_eq_true rfl) d_Main_controls_25 (fun r3 hr3 => ?_)
      refine zv_if_ne X (y := 0) (tgt := 33) d_Main_controls_28 (by decide) (fun h28 => ?_) (fun h28 => ?_)
      · refine zv_iconst X d_Main_controls_33 ?_
        refine zv_istore X (lv2 := [(4, zi 1), (0, zr Z 1), (1, zi v1), (2, zi v2), (3, zi v3)]) d_Main_controls_34 (by decide) rfl ?_
        refine zv_sub X [2, 3, 4, 0] rfl ?_
        exact v_Main_controls_36 X hN v1 v2 v3 D zF 1
      · refine zv_iconst X d_Main_controls_31 ?_
        exact zv_iretP X d_Main_controls_32
set_option maxRecDepth 100000 in
theorem c_Heap_pile (l : Launch) {Z : Zt} (hZ : Zok Z) (hN : 143 ≤ Z.2.2.2.1) (v1 v2 v3 v4 v5 : Int)  (D : Mm) : CtM l Z y_Heap_pile prog_4_method_2_code 6 (some .boolean) rm_Heap_pile 1 [zr Z 10, zi v1, zi v2, zi v3, zi v4, zi v5] D (f_Heap_pile v1 v2 v3 v4 v5 D) := by
  refine zm_M (lv := [(0, zr Z 10), (1, zi v1), (2, zi v2), (3, zi v3), (4, zi v4), (5, zi v5)]) hZ (by decide +kernel) rfl (Nat.le_of_ble_eq_true rfl) rfl (fun Γ hl X => ?_)
  subst hl
  unfold f_Heap_pile
  refine zv_iload_n X d_Heap_pile_0 rfl 1 rfl ?_
  refine zv_iconst X d_Heap_pile_1 ?_
  refine zv_iload X d_Heap_pile_2 5 rfl ?_
  refine zv_cNP1 X (av := [zi v1, zi 0, zi v5]) (st := []) (c_Main_within Γ.2.1 X.2.2.2.2.2.2.2.1 hN v1 0 v5 D) mk_Heap_15 ⟨rfl, rfl, Nat.le_of_ble_eq_true rfl, Nat.le_of_ble_eq_true rfl⟩ rfl (Nat.le_of_ble_eq_true rfl) d_Heap_pile_4 (fun r1 hr1 => ?_)
  refine zv_if_eq X (y := 0) (tgt := 22) d_Heap_pile_7 (by decide) (fun h7 => ?_) (fun h7 => ?_)
  · refine zv_iconst X d_Heap_pile_22 ?_
    exact zv_zretMK X (Or.inl rfl) d_Heap_pile_23
  · refine zv_iload_n X d_Heap_pile_10 rfl 2 rfl ?_
    refine zv_iconst X d_Heap_pile_11 ?_
    refine zv_iload X d_Heap_pile_12 5 rfl ?_
    refine zv_iload_n X d_Heap_pile_14 rfl 1 rfl ?_
    refine zv_isub X d_Heap_pile_15 ?_
    refine zv_cNP1 X (av := [zi v2, zi 0, zi (v5 - v1)]) (st := []) (c_Main_within Γ.2.1 X.2.2.2.2.2.2.2.1 hN v2 0 (v5 - v1) D) mk_Heap_15 ⟨rfl, rfl, Nat.le_of_ble_eq_true rfl, Nat.le_of_ble_eq_true rfl⟩ rfl (Nat.le_of_ble_eq_true rfl) d_Heap_pile_16 (fun r2 hr2 => ?_)
    refine zv_if_ne X (y := 0) (tgt := 24) d_Heap_pile_19 (by decide) (fun h19 => ?_) (fun h19 => ?_)
    · refine zv_iload_n X d_Heap_pile_24 rfl 3 rfl ?_
      refine zv_iconst X d_Heap_pile_25 ?_
      refine zv_iload X d_Heap_pile_26 5 rfl ?_
      refine zv_iload_n X d_Heap_pile_28 rfl 1 rfl ?_
      refine zv_isub X d_Heap_pile_29 ?_
      refine zv_iload_n X d_Heap_pile_30 rfl 2 rfl ?_
      refine zv_isub X d_Heap_pile_31 ?_
      refine zv_cNP1 X (av := [zi v3, zi 0, zi ((v5 - v1) - v2)]) (st := []) (c_Main_within Γ.2.1 X.2.2.2.2.2.2.2.1 hN v3 0 ((v5 - v1) - v2) D) mk_Heap_15 ⟨rfl, rfl, Nat.le_of_ble_eq_true rfl, Nat.le_of_ble_eq_true rfl⟩ rfl (Nat.le_of_ble_eq_true rfl) d_Heap_pile_32 (fun r3 hr3 => ?_)
      refine zv_if_eq X (y := 0) (tgt := 55) d_Heap_pile_35 (by decide) (fun h35 => ?_) (fun h35 => ?_)
      · refine zv_iconst X d_Heap_pile_55 ?_
        exact zv_zretMK X (Or.inl rfl) d_Heap_pile_56
      · refine zv_iload X d_Heap_pile_38 4 rfl ?_
        refine zv_iconst X d_Heap_pile_40 ?_
        refine zv_iload X d_Heap_pile_41 5 rfl ?_
        refine zv_iload_n X d_Heap_pile_43 rfl 1 rfl ?_
        refine zv_isub X d_Heap_pile_44 ?_
        refine zv_iload_n X d_Heap_pile_45 rfl 2 rfl ?_
        refine zv_isub X d_Heap_pile_46 ?_
        refine zv_iload_n X d_Heap_pile_47 rfl 3 rfl ?_
        refine zv_isub X d_Heap_pile_48 ?_
        refine zv_cNP1 X (av := [zi v4, zi 0, zi (((v5 - v1) - v2) - v3)]) (st := []) (c_Main_within Γ.2.1 X.2.2.2.2.2.2.2.1 hN v4 0 (((v5 - v1) - v2) - v3) D) mk_Heap_15 ⟨rfl, rfl, Nat.le_of_ble_eq_true rfl, Nat.le_of_ble_eq_true rfl⟩ rfl (Nat.le_of_ble_eq_true rfl) d_Heap_pile_49 (fun r4 hr4 => ?_)
        refine zv_if_ne X (y := 0) (tgt := 57) d_Heap_pile_52 (by decide) (fun h52 => ?_) (fun h52 => ?_)
        · refine zv_aload_n X d_Heap_pile_57 rfl 0 rfl ?_
          refine zv_get X (ci := 3) rfl i_Heap (za_10 hN) 0 (by decide) lk_Heap_9 rfl rfl d_Heap_pile_58 ?_
          refine zv_iconst X d_Heap_pile_61 ?_
          refine zv_iload_n X d_Heap_pile_62 rfl 1 rfl ?_
          refine zv_iastK X (za_11 hN) (by decide) (by decide) d_Heap_pile_63 (fun D5 => ?_)
          refine zv_aload_n X d_Heap_pile_64 rfl 0 rfl ?_
          refine zv_get X (ci := 3) rfl i_Heap (za_10 hN) 0 (by decide) lk_Heap_9 rfl rfl d_Heap_pile_65 ?_
          refine zv_iconst X d_Heap_pile_68 ?_
          refine zv_iload_n X d_Heap_pile_69 rfl 2 rfl ?_
          refine zv_iastK X (za_11 hN) (by decide) (by decide) d_Heap_pile_70 (fun D6 => ?_)
          refine zv_aload_n X d_Heap_pile_71 rfl 0 rfl ?_
          refine zv_get X (ci := 3) rfl i_Heap (za_10 hN) 0 (by decide) lk_Heap_9 rfl rfl d_Heap_pile_72 ?_
          refine zv_iconst X d_Heap_pile_75 ?_
          refine zv_iload_n X d_Heap_pile_76 rfl 3 rfl ?_
          refine zv_iastK X (za_11 hN) (by decide) (by decide) d_Heap_pile_77 (fun D7 => ?_)
          refine zv_aload_n X d_Heap_pile_78 rfl 0 rfl ?_
          refine zv_get X (ci := 3) rfl i_Heap (za_10 hN) 0 (by decide) lk_Heap_9 rfl rfl d_Heap_pile_79 ?_
          refine zv_iconst X d_Heap_pile_82 ?_
          refine zv_iload X d_Heap_pile_83 4 rfl ?_
          refine zv_iastK X (za_11 hN) (by decide) (by decide) d_Heap_pile_85 (fun D8 => ?_)
          refine zv_iconst X d_Heap_pile_86 ?_
          exact zv_zretMK X (Or.inr rfl) d_Heap_pile_87
        · refine zv_iconst X d_Heap_pile_55 ?_
          exact zv_zretMK X (Or.inl rfl) d_Heap_pile_56
    · refine zv_iconst X d_Heap_pile_22 ?_
      exact zv_zretMK X (Or.inl rfl) d_Heap_pile_23
set_option maxRecDepth 100000 in
theorem v_Heap_productOfMix_6 {Γ : Gt} {Z : Zt} (X : Cx Γ Z prog_4_method_5_code R_Heap 8 (some .long) rm_Heap_productOfMix) (hN : 143 ≤ Z.2.2.2.1) (v1 v2 v3 v4 : Int) (hv2 : Zin Z v2 0 4) (hv4 : Zin Z v4 0 4)  (D : Mm)  : ∀ (n : Nat) (v5 v7 : Int) , Zv Γ Z 8 (QfP Γ Z 2 D) (f_Heap_productOfMix_6 v1 v2 v3 v4 D n v5 v7) D 6 [(0, zr Z 10), (1, zi v1), (2, zr Z v2), (3, zi v3), (4, zr Z v4), (5, zl v5), (7, zi v7)] [] := by
  intro n
  induction n with
  | zero =>
    intro v5 v7
    exact zv_none
  | succ n ih =>
    intro v5 v7
    rw [f_Heap_productOfMix_6]
    refine zv_iload X d_Heap_productOfMix_6 6 rfl ?_
    refine zv_iconst X d_Heap_productOfMix_8 ?_
    refine zv_icmp_ge X (tgt := 48) d_Heap_productOfMix_9 (by decide) (fun h9 => ?_) (fun h9 => ?_)
    · refine zv_lload X d_Heap_productOfMix_48 5 rfl ?_
      exact zv_lretP X d_Heap_productOfMix_50
    · refine zv_lload X d_Heap_productOfMix_12 5 rfl ?_
      refine zv_iload_n X d_Heap_productOfMix_14 rfl 1 rfl ?_
      refine zv_aload_n X d_Heap_productOfMix_15 rfl 2 rfl ?_
      refine zv_iload X d_Heap_productOfMix_16 6 rfl ?_
      refine zv_iald X hv2 d_Heap_productOfMix_18 (fun ha18 hb18 => ?_)
      refine zv_imul X d_Heap_productOfMix_19 ?_
      refine zv_iload_n X d_Heap_productOfMix_20 rfl 3 rfl ?_
      refine zv_aload X d_Heap_productOfMix_21 4 rfl ?_
      refine zv_iload X d_Heap_productOfMix_23 6 rfl ?_
      refine zv_iald X hv4 d_Heap_productOfMix_25 (fun ha25 hb25 => ?_)
      refine zv_imul X d_Heap_productOfMix_26 ?_
      refine zv_iadd X d_Heap_productOfMix_27 ?_
      refine zv_i2l X d_Heap_productOfMix_28 ?_
      refine zv_aload_n X d_Heap_productOfMix_29 rfl 0 rfl ?_
      refine zv_get X (ci := 3) rfl i_Heap (za_10 hN) 0 (by decide) lk_Heap_9 rfl rfl d_Heap_productOfMix_30 ?_
      refine zv_iload X d_Heap_productOfMix_33 6 rfl ?_
      refine zv_iald X (za_11 hN) d_Heap_productOfMix_35 (fun ha35 hb35 => ?_)
      refine zv_cSP2 X (av := [zl (wI ((v1 * (D v2 v7)) + (v3 * (D v4 v7)))), zi (D 11 v7)]) (st := [zl v5]) (c_Odds_power Γ.2.1 X.2.2.2.2.2.2.2.1 (wI ((v1 * (D v2 v7)) + (v3 * (D v4 v7)))) (D 11 v7) D) mk_Heap_25 ⟨rfl, rfl, Nat.le_of_ble_eq_true rfl, Nat.le_of_ble_eq_true rfl⟩ rfl (Nat.le_of_ble_eq_true rfl) d_Heap_productOfMix_36 (fun r1 hr1 => ?_)
      refine zv_lmul X d_Heap_productOfMix_39 ?_
      refine zv_lstore X (lv2 := [(5, zl (v5 * r1)), (0, zr Z 10), (1, zi v1), (2, zr Z v2), (3, zi v3), (4, zr Z v4), (7, zi v7)]) d_Heap_productOfMix_40 (by decide) rfl ?_
      refine zv_iinc X (lv2 := [(7, zi (v7 + 1)), (5, zl (v5 * r1)), (0, zr Z 10), (1, zi v1), (2, zr Z v2), (3, zi v3), (4, zr Z v4)]) d_Heap_productOfMix_42 6 rfl (by decide) rfl ?_
      refine zv_goto X (tgt := 6) d_Heap_productOfMix_45 (by decide) ?_
      refine zv_sub X [2, 3, 4, 5, 6, 1, 0] rfl ?_
      exact ih (v5 * r1) (v7 + 1)
set_option maxRecDepth 100000 in
theorem c_Heap_productOfMix (l : Launch) {Z : Zt} (hZ : Zok Z) (hN : 143 ≤ Z.2.2.2.1) (v1 v2 v3 v4 : Int) (hv2 : Zin Z v2 0 4) (hv4 : Zin Z v4 0 4) (D : Mm) : CtP l Z y_Heap_productOfMix prog_4_method_5_code 8 (some .long) rm_Heap_productOfMix 2 [zr Z 10, zi v1, zr Z v2, zi v3, zr Z v4] D (f_Heap_productOfMix v1 v2 v3 v4 D) := by
  refine zm_P (lv := [(0, zr Z 10), (1, zi v1), (2, zr Z v2), (3, zi v3), (4, zr Z v4)]) hZ (by decide +kernel) rfl (Nat.le_of_ble_eq_true rfl) rfl (fun Γ hl X => ?_)
  subst hl
  unfold f_Heap_productOfMix
  refine zv_lconst X (x := 1) d_Heap_productOfMix_0 (by decide +kernel) ?_
  refine zv_lstore X (lv2 := [(5, zl 1), (0, zr Z 10), (1, zi v1), (2, zr Z v2), (3, zi v3), (4, zr Z v4)]) d_Heap_productOfMix_1 (by decide) rfl ?_
  refine zv_iconst X d_Heap_productOfMix_3 ?_
  refine zv_istore X (lv2 := [(7, zi 0), (5, zl 1), (0, zr Z 10), (1, zi v1), (2, zr Z v2), (3, zi v3), (4, zr Z v4)]) d_Heap_productOfMix_4 (by decide) rfl ?_
  refine zv_sub X [2, 3, 4, 5, 6, 1, 0] rfl ?_
  exact v_Heap_productOfMix_6 X hN v1 v2 v3 v4 hv2 hv4 D zF 1 0
set_option maxRecDepth 100000 in
theorem c_Heap_productOf (l : Launch) {Z : Zt} (hZ : Zok Z) (hN : 143 ≤ Z.2.2.2.1) (v1 : Int) (hv1 : Zin Z v1 0 4) (D : Mm) : CtP l Z y_Heap_productOf prog_4_method_3_code 2 (some .long) rm_Heap_productOf 2 [zr Z 10, zr Z v1] D (f_Heap_productOf v1 D) := by
  refine zm_P (lv := [(0, zr Z 10), (1, zr Z v1)]) hZ (by decide +kernel) rfl (Nat.le_of_ble_eq_true rfl) rfl (fun Γ hl X => ?_)
  subst hl
  unfold f_Heap_productOf
  refine zv_aload_n X d_Heap_productOf_0 rfl 0 rfl ?_
  refine zv_iconst X d_Heap_productOf_1 ?_
  refine zv_aload_n X d_Heap_productOf_2 rfl 1 rfl ?_
  refine zv_iconst X d_Heap_productOf_3 ?_
  refine zv_aload_n X d_Heap_productOf_4 rfl 1 rfl ?_
  refine zv_cVP2 X (av := [zi 1, zr Z v1, zi 0, zr Z v1]) (st := []) (ci := 3) (c_Heap_productOfMix Γ.2.1 X.2.2.2.2.2.2.2.1 hN 1 v1 0 v1 hv1 hv1 D) mk_Heap_19 rfl (za_10 hN) ⟨rfl, rfl, Nat.le_of_ble_eq_true rfl, Nat.le_of_ble_eq_true rfl⟩ rfl (Nat.le_of_ble_eq_true rfl) d_Heap_productOf_5 (fun r1 hr1 => ?_)
  exact zv_lretP X d_Heap_productOf_8

def rm_Text_init : Room := { frames := 1, cells := 1, slots := 500, locals := 12 }
set_option maxHeartbeats 4000000 in
theorem c_Text_init_1 (l : Launch) (G : va_G) (ar : Nat → ClassId) (b0 : Nat) (top : Int) (E : Nat → va_E) (hE : E 1 = .inr (0, [.null, zi 0])) : CtK l (Zc G ar b0 top) b0 y_Text_init prog_8_method_1_code 1 rm_Text_init [.ref (b0 + 1)] 2 E 3 (Ef (Zc G ar b0 top) E 1) 1 500 := by
  refine km (cc := prog_8_method_1_code) (own := R_Text) (lv := [(0, .ref (b0 + 1))]) (by decide +kernel) rfl rfl (Nat.le_of_ble_eq_true rfl) rfl (fun p e s m args below meth c ls K hsz hP hl => ?_)
  obtain ⟨hx, hb, hml, hown, hts, hK, hO, hlocks, hr, hin⟩ := K
  have hS : va_S (zA2 b0) s.heap s.heap [] := va_S.rf
  have hb0 : b0 ≤ s.heap.size := by omega
  replace hP : va_P G classes (wq b0 (1 + 1) E) s.heap := hP
  rw [Ec_start (Z := Zc G ar b0 top) hE] at hP
  refine lv_aload_n hx hb d_Text_init_0 rfl (lv_at hl 0 rfl) ?_
  refine W.objInit hx hb hown (hts _ kob_Text) (hts _ ko_inst) (hts _ ko_code) rfl (by rw [hml]; exact hl.1) rfl d_Text_init_1 (Nat.le_of_ble_eq_true rfl) (Nat.le_of_ble_eq_true rfl) ?_
  refine W.eq (g2 := F0 m 4 ls []) rfl ?_
  refine lv_aload_n hx hb d_Text_init_4 rfl (lv_at hl 0 rfl) ?_
  refine lv_sipush (v := 500) hx hb d_Text_init_5 (by decide +kernel) ?_
  refine kr_newa (Z := Zc G ar b0 top) (N := 500) hx hb (hts _ karr) (hK.1.2 0 (_, .int) rfl).2 hb0 (by omega) hP hS (Ec_arr (N' := 500) (by decide) (by decide +kernel) rfl) (by decide +kernel) (by decide +kernel) (by decide) (Nat.le_of_ble_eq_true rfl) (Nat.le_of_ble_eq_true rfl) d_Text_init_8 (fun H1 hP hS => ?_)
  refine kr_putF (Z := Zc G ar b0 top) hx hb hts i_Text t_Text t_Text_ok n_Text hown hin hK.1 hP hS 1 (by decide) Ec_at rfl 0 (by decide) kl_Text_9 rfl rfl rfl rfl (Nat.le_of_ble_eq_true rfl) (Ec (Zc G ar b0 top) E 1 0 [.ref (b0 + (2)), zi 0]) Ec_at Ec_put d_Text_init_10 (fun H1 locs1 hP hS => ?_)
  rw [Ec_end (Z := Zc G ar b0 top) (E := E) (a := 1) (ci := 0) (fs := [.ref (b0 + (2)), zi 0]) (N := 2) (by decide +kernel) rfl] at hP
  exact W.vret hx hb hr (fun t ht hW => ⟨rfl, by rw [ht]; exact hP, hS.F ht⟩) hS.2.2 d_Text_init_13 hlocks
def rm_Scribe_init : Room := { frames := 1, cells := 1, slots := 4, locals := 12 }
set_option maxHeartbeats 4000000 in
theorem c_Scribe_init_3 (l : Launch) (G : va_G) (ar : Nat → ClassId) (b0 : Nat) (top : Int) (E : Nat → va_E) (hE : E 3 = .inr (1, [.null])) : CtK l (Zc G ar b0 top) b0 y_Scribe_init prog_7_method_1_code 1 rm_Scribe_init [.ref (b0 + 3)] 4 E 5 (Ef (Zc G ar b0 top) E 3) 1 4 := by
  refine km (cc := prog_7_method_1_code) (own := R_Scribe) (lv := [(0, .ref (b0 + 3))]) (by decide +kernel) rfl rfl (Nat.le_of_ble_eq_true rfl) rfl (fun p e s m args below meth c ls K hsz hP hl => ?_)
  obtain ⟨hx, hb, hml, hown, hts, hK, hO, hlocks, hr, hin⟩ := K
  have hS : va_S (zA2 b0) s.heap s.heap [] := va_S.rf
  have hb0 : b0 ≤ s.heap.size := by omega
  replace hP : va_P G classes (wq b0 (3 + 1) E) s.heap := hP
  rw [Ec_start (Z := Zc G ar b0 top) hE] at hP
  refine lv_aload_n hx hb d_Scribe_init_0 rfl (lv_at hl 0 rfl) ?_
  refine W.objInit hx hb hown (hts _ kob_Scribe) (hts _ ko_inst) (hts _ ko_code) rfl (by rw [hml]; exact hl.1) rfl d_Scribe_init_1 (Nat.le_of_ble_eq_true rfl) (Nat.le_of_ble_eq_true rfl) ?_
  refine W.eq (g2 := F0 m 4 ls []) rfl ?_
  refine lv_aload_n hx hb d_Scribe_init_4 rfl (lv_at hl 0 rfl) ?_
  refine lv_iconst (v := 4) hx hb d_Scribe_init_5 (by decide +kernel) ?_
  refine kr_newa (Z := Zc G ar b0 top) (N := 4) hx hb (hts _ karr) (hK.1.2 0 (_, .int) rfl).2 hb0 (by omega) hP hS (Ec_arr (N' := 4) (by decide) (by decide +kernel) rfl) (by decide +kernel) (by decide +kernel) (by decide) (Nat.le_of_ble_eq_true rfl) (Nat.le_of_ble_eq_true rfl) d_Scribe_init_6 (fun H1 hP hS => ?_)
  refine kr_putF (Z := Zc G ar b0 top) hx hb hts i_Scribe t_Scribe t_Scribe_ok n_Scribe hown hin hK.1 hP hS 3 (by decide) Ec_at rfl 0 (by decide) kl_Scribe_9 rfl rfl rfl rfl (Nat.le_of_ble_eq_true rfl) (Ec (Zc G ar b0 top) E 3 1 [.ref (b0 + (4))]) Ec_at Ec_put d_Scribe_init_8 (fun H1 locs1 hP hS => ?_)
  rw [Ec_end (Z := Zc G ar b0 top) (E := E) (a := 3) (ci := 1) (fs := [.ref (b0 + (4))]) (N := 1) (by decide +kernel) rfl] at hP
  exact W.vret hx hb hr (fun t ht hW => ⟨rfl, by rw [ht]; exact hP, hS.F ht⟩) hS.2.2 d_Scribe_init_11 hlocks
def rm_Books_init : Room := { frames := 1, cells := 3, slots := 48, locals := 12 }
set_option maxHeartbeats 4000000 in
theorem c_Books_init_5 (l : Launch) (G : va_G) (ar : Nat → ClassId) (b0 : Nat) (top : Int) (E : Nat → va_E) (hE : E 5 = .inr (2, [.null, .null, .null, zi 0, zi 0, zi 0, zi 0])) : CtK l (Zc G ar b0 top) b0 y_Books_init prog_2_method_1_code 1 rm_Books_init [.ref (b0 + 5)] 6 E 9 (Ef (Zc G ar b0 top) E 5) 3 48 := by
  refine km (cc := prog_2_method_1_code) (own := R_Books) (lv := [(0, .ref (b0 + 5))]) (by decide +kernel) rfl rfl (Nat.le_of_ble_eq_true rfl) rfl (fun p e s m args below meth c ls K hsz hP hl => ?_)
  obtain ⟨hx, hb, hml, hown, hts, hK, hO, hlocks, hr, hin⟩ := K
  have hS : va_S (zA2 b0) s.heap s.heap [] := va_S.rf
  have hb0 : b0 ≤ s.heap.size := by omega
  replace hP : va_P G classes (wq b0 (5 + 1) E) s.heap := hP
  rw [Ec_start (Z := Zc G ar b0 top) hE] at hP
  refine lv_aload_n hx hb d_Books_init_0 rfl (lv_at hl 0 rfl) ?_
  refine W.objInit hx hb hown (hts _ kob_Books) (hts _ ko_inst) (hts _ ko_code) rfl (by rw [hml]; exact hl.1) rfl d_Books_init_1 (Nat.le_of_ble_eq_true rfl) (Nat.le_of_ble_eq_true rfl) ?_
  refine W.eq (g2 := F0 m 4 ls []) rfl ?_
  refine lv_aload_n hx hb d_Books_init_4 rfl (lv_at hl 0 rfl) ?_
  refine lv_bipush (v := 16) hx hb d_Books_init_5 (by decide +kernel) ?_
  refine kr_newa (Z := Zc G ar b0 top) (N := 16) hx hb (hts _ karr) (hK.1.2 0 (_, .int) rfl).2 hb0 (by omega) hP hS (Ec_arr (N' := 16) (by decide) (by decide +kernel) rfl) (by decide +kernel) (by decide +kernel) (by decide) (Nat.le_of_ble_eq_true rfl) (Nat.le_of_ble_eq_true rfl) d_Books_init_7 (fun H1 hP hS => ?_)
  refine kr_putF (Z := Zc G ar b0 top) hx hb hts i_Books t_Books t_Books_ok n_Books hown hin hK.1 hP hS 5 (by decide) Ec_at rfl 0 (by decide) kl_Books_11 rfl rfl rfl rfl (Nat.le_of_ble_eq_true rfl) (Ec (Zc G ar b0 top) E 5 2 [.ref (b0 + (6)), .null, .null, zi 0, zi 0, zi 0, zi 0]) Ec_at Ec_put d_Books_init_9 (fun H1 locs1 hP hS => ?_)
  refine lv_aload_n hx hb d_Books_init_12 rfl (lv_at hl 0 rfl) ?_
  refine lv_bipush (v := 16) hx hb d_Books_init_13 (by decide +kernel) ?_
  refine kr_newa (Z := Zc G ar b0 top) (N := 16) hx hb (hts _ karr) (hK.1.2 0 (_, .int) rfl).2 hb0 (by omega) hP hS (Ec_arr (N' := 16) (by decide) (by decide +kernel) rfl) (by decide +kernel) (by decide +kernel) (by decide) (Nat.le_of_ble_eq_true rfl) (Nat.le_of_ble_eq_true rfl) d_Books_init_15 (fun H1 hP hS => ?_)
  refine kr_putF (Z := Zc G ar b0 top) hx hb hts i_Books t_Books t_Books_ok n_Books hown hin hK.1 hP hS 5 (by decide) Ec_at rfl 1 (by decide) kl_Books_15 rfl rfl rfl rfl (Nat.le_of_ble_eq_true rfl) (Ec (Zc G ar b0 top) E 5 2 [.ref (b0 + (6)), .ref (b0 + (6 + 1)), .null, zi 0, zi 0, zi 0, zi 0]) Ec_at Ec_put d_Books_init_17 (fun H1 locs1 hP hS => ?_)
  refine lv_aload_n hx hb d_Books_init_20 rfl (lv_at hl 0 rfl) ?_
  refine lv_bipush (v := 16) hx hb d_Books_init_21 (by decide +kernel) ?_
  refine kr_newa (Z := Zc G ar b0 top) (N := 16) hx hb (hts _ karr) (hK.1.2 0 (_, .int) rfl).2 hb0 (by omega) hP hS (Ec_arr (N' := 16) (by decide) (by decide +kernel) rfl) (by decide +kernel) (by decide +kernel) (by decide) (Nat.le_of_ble_eq_true rfl) (Nat.le_of_ble_eq_true rfl) d_Books_init_23 (fun H1 hP hS => ?_)
  refine kr_putF (Z := Zc G ar b0 top) hx hb hts i_Books t_Books t_Books_ok n_Books hown hin hK.1 hP hS 5 (by decide) Ec_at rfl 2 (by decide) kl_Books_18 rfl rfl rfl rfl (Nat.le_of_ble_eq_true rfl) (Ec (Zc G ar b0 top) E 5 2 [.ref (b0 + (6)), .ref (b0 + (6 + 1)), .ref (b0 + (6 + 1 + 1)), zi 0, zi 0, zi 0, zi 0]) Ec_at Ec_put d_Books_init_25 (fun H1 locs1 hP hS => ?_)
  rw [Ec_end (Z := Zc G ar b0 top) (E := E) (a := 5) (ci := 2) (fs := [.ref (b0 + (6)), .ref (b0 + (6 + 1)), .ref (b0 + (6 + 1 + 1)), zi 0, zi 0, zi 0, zi 0]) (N := 7) (by decide +kernel) rfl] at hP
  exact W.vret hx hb hr (fun t ht hW => ⟨rfl, by rw [ht]; exact hP, hS.F ht⟩) hS.2.2 d_Books_init_28 hlocks
def rm_Heap_init : Room := { frames := 1, cells := 1, slots := 4, locals := 12 }
set_option maxHeartbeats 4000000 in
theorem c_Heap_init_9 (l : Launch) (G : va_G) (ar : Nat → ClassId) (b0 : Nat) (top : Int) (E : Nat → va_E) (hE : E 9 = .inr (3, [.null])) : CtK l (Zc G ar b0 top) b0 y_Heap_init prog_4_method_1_code 1 rm_Heap_init [.ref (b0 + 9)] 10 E 11 (Ef (Zc G ar b0 top) E 9) 1 4 := by
  refine km (cc := prog_4_method_1_code) (own := R_Heap) (lv := [(0, .ref (b0 + 9))]) (by decide +kernel) rfl rfl (Nat.le_of_ble_eq_true rfl) rfl (fun p e s m args below meth c ls K hsz hP hl => ?_)
  obtain ⟨hx, hb, hml, hown, hts, hK, hO, hlocks, hr, hin⟩ := K
  have hS : va_S (zA2 b0) s.heap s.heap [] := va_S.rf
  have hb0 : b0 ≤ s.heap.size := by omega
  replace hP : va_P G classes (wq b0 (9 + 1) E) s.heap := hP
  rw [Ec_start (Z := Zc G ar b0 top) hE] at hP
  refine lv_aload_n hx hb d_Heap_init_0 rfl (lv_at hl 0 rfl) ?_
  refine W.objInit hx hb hown (hts _ kob_Heap) (hts _ ko_inst) (hts _ ko_code) rfl (by rw [hml]; exact hl.1) rfl d_Heap_init_1 (Nat.le_of_ble_eq_true rfl) (Nat.le_of_ble_eq_true rfl) ?_
  refine W.eq (g2 := F0 m 4 ls []) rfl ?_
  refine lv_aload_n hx hb d_Heap_init_4 rfl (lv_at hl 0 rfl) ?_
  refine lv_iconst (v := 4) hx hb d_Heap_init_5 (by decide +kernel) ?_
  refine kr_newa (Z := Zc G ar b0 top) (N := 4) hx hb (hts _ karr) (hK.1.2 0 (_, .int) rfl).2 hb0 (by omega) hP hS (Ec_arr (N' := 4) (by decide) (by decide +kernel) rfl) (by decide +kernel) (by decide +kernel) (by decide) (Nat.le_of_ble_eq_true rfl) (Nat.le_of_ble_eq_true rfl) d_Heap_init_6 (fun H1 hP hS => ?_)
  refine kr_putF (Z := Zc G ar b0 top) hx hb hts i_Heap t_Heap t_Heap_ok n_Heap hown hin hK.1 hP hS 9 (by decide) Ec_at rfl 0 (by decide) kl_Heap_9 rfl rfl rfl rfl (Nat.le_of_ble_eq_true rfl) (Ec (Zc G ar b0 top) E 9 3 [.ref (b0 + (10))]) Ec_at Ec_put d_Heap_init_8 (fun H1 locs1 hP hS => ?_)
  rw [Ec_end (Z := Zc G ar b0 top) (E := E) (a := 9) (ci := 3) (fs := [.ref (b0 + (10))]) (N := 1) (by decide +kernel) rfl] at hP
  exact W.vret hx hb hr (fun t ht hW => ⟨rfl, by rw [ht]; exact hP, hS.F ht⟩) hS.2.2 d_Heap_init_11 hlocks
def rm_Finds_init : Room := { frames := 1, cells := 18, slots := 112, locals := 12 }
set_option maxHeartbeats 4000000 in
theorem c_Finds_init_11 (l : Launch) (G : va_G) (ar : Nat → ClassId) (b0 : Nat) (top : Int) (E : Nat → va_E) (hE : E 11 = .inr (4, [.null, .null, zi 0, zi 0, zi 0])) : CtK l (Zc G ar b0 top) b0 y_Finds_init prog_3_method_1_code 1 rm_Finds_init [.ref (b0 + 11)] 12 E 30 (Ef (Zc G ar b0 top) E 11) 18 112 := by
  refine km (cc := prog_3_method_1_code) (own := R_Finds) (lv := [(0, .ref (b0 + 11))]) (by decide +kernel) rfl rfl (Nat.le_of_ble_eq_true rfl) rfl (fun p e s m args below meth c ls K hsz hP hl => ?_)
  obtain ⟨hx, hb, hml, hown, hts, hK, hO, hlocks, hr, hin⟩ := K
  have hS : va_S (zA2 b0) s.heap s.heap [] := va_S.rf
  have hb0 : b0 ≤ s.heap.size := by omega
  replace hP : va_P G classes (wq b0 (11 + 1) E) s.heap := hP
  rw [Ec_start (Z := Zc G ar b0 top) hE] at hP
  refine lv_aload_n hx hb d_Finds_init_0 rfl (lv_at hl 0 rfl) ?_
  refine W.objInit hx hb hown (hts _ kob_Finds) (hts _ ko_inst) (hts _ ko_code) rfl (by rw [hml]; exact hl.1) rfl d_Finds_init_1 (Nat.le_of_ble_eq_true rfl) (Nat.le_of_ble_eq_true rfl) ?_
  refine W.eq (g2 := F0 m 4 ls []) rfl ?_
  refine lv_aload_n hx hb d_Finds_init_4 rfl (lv_at hl 0 rfl) ?_
  refine lv_bipush (v := 10) hx hb d_Finds_init_5 (by decide +kernel) ?_
  refine lv_bipush (v := 6) hx hb d_Finds_init_7 (by decide +kernel) ?_
  refine kr_mna (Z := Zc G ar b0 top) (N := 10) (K := 6) hx hb hown hts kcl_Finds_9 karr hO hK.1 hb0 (by omega) hP hS (by decide +kernel) (by decide +kernel) (by decide +kernel) (by decide +kernel) (by decide) (by decide) (Ec_row (N' := 10) (by decide) (by decide +kernel) rfl) (fun j hj => Ec_arr (N' := 6) (by omega) ((by decide +kernel : ∀ j, j < 10 → sh (((12 + 1 + j : Nat) : Int) + 1) = (0, 6)) j hj) rfl) (Nat.le_of_ble_eq_true rfl) (Nat.le_of_ble_eq_true rfl) d_Finds_init_9 (fun H1 locs1 hP hS => ?_)
  refine kr_putF (Z := Zc G ar b0 top) hx hb hts i_Finds t_Finds t_Finds_ok n_Finds hown hin hK.1 hP hS 11 (by decide) Ec_at rfl 0 (by decide) kl_Finds_11 rfl rfl rfl rfl (Nat.le_of_ble_eq_true rfl) (Ec (Zc G ar b0 top) E 11 4 [.ref (b0 + (12)), .null, zi 0, zi 0, zi 0]) Ec_at Ec_put d_Finds_init_13 (fun H1 locs1 hP hS => ?_)
  refine lv_aload_n hx hb d_Finds_init_16 rfl (lv_at hl 0 rfl) ?_
  refine lv_bipush (v := 6) hx hb d_Finds_init_17 (by decide +kernel) ?_
  refine lv_bipush (v := 6) hx hb d_Finds_init_19 (by decide +kernel) ?_
  refine kr_mna (Z := Zc G ar b0 top) (N := 6) (K := 6) hx hb hown hts kcl_Finds_9 karr hO hK.1 hb0 (by omega) hP hS (by decide +kernel) (by decide +kernel) (by decide +kernel) (by decide +kernel) (by decide) (by decide) (Ec_row (N' := 6) (by decide) (by decide +kernel) rfl) (fun j hj => Ec_arr (N' := 6) (by omega) ((by decide +kernel : ∀ j, j < 6 → sh (((12 + 1 + 10 + 1 + j : Nat) : Int) + 1) = (0, 6)) j hj) rfl) (Nat.le_of_ble_eq_true rfl) (Nat.le_of_ble_eq_true rfl) d_Finds_init_21 (fun H1 locs1 hP hS => ?_)
  refine kr_putF (Z := Zc G ar b0 top) hx hb hts i_Finds t_Finds t_Finds_ok n_Finds hown hin hK.1 hP hS 11 (by decide) Ec_at rfl 1 (by decide) kl_Finds_16 rfl rfl rfl rfl (Nat.le_of_ble_eq_true rfl) (Ec (Zc G ar b0 top) E 11 4 [.ref (b0 + (12)), .ref (b0 + (12 + 1 + 10)), zi 0, zi 0, zi 0]) Ec_at Ec_put d_Finds_init_25 (fun H1 locs1 hP hS => ?_)
  rw [Ec_end (Z := Zc G ar b0 top) (E := E) (a := 11) (ci := 4) (fs := [.ref (b0 + (12)), .ref (b0 + (12 + 1 + 10)), zi 0, zi 0, zi 0]) (N := 5) (by decide +kernel) rfl] at hP
  exact W.vret hx hb hr (fun t ht hW => ⟨rfl, by rw [ht]; exact hP, hS.F ht⟩) hS.2.2 d_Finds_init_28 hlocks
set_option maxHeartbeats 4000000 in
theorem c_Finds_init_105 (l : Launch) (G : va_G) (ar : Nat → ClassId) (b0 : Nat) (top : Int) (E : Nat → va_E) (hE : E 105 = .inr (4, [.null, .null, zi 0, zi 0, zi 0])) : CtK l (Zc G ar b0 top) b0 y_Finds_init prog_3_method_1_code 1 rm_Finds_init [.ref (b0 + 105)] 106 E 124 (Ef (Zc G ar b0 top) E 105) 18 112 := by
  refine km (cc := prog_3_method_1_code) (own := R_Finds) (lv := [(0, .ref (b0 + 105))]) (by decide +kernel) rfl rfl (Nat.le_of_ble_eq_true rfl) rfl (fun p e s m args below meth c ls K hsz hP hl => ?_)
  obtain ⟨hx, hb, hml, hown, hts, hK, hO, hlocks, hr, hin⟩ := K
  have hS : va_S (zA2 b0) s.heap s.heap [] := va_S.rf
  have hb0 : b0 ≤ s.heap.size := by omega
  replace hP : va_P G classes (wq b0 (105 + 1) E) s.heap := hP
  rw [Ec_start (Z := Zc G ar b0 top) hE] at hP
  refine lv_aload_n hx hb d_Finds_init_0 rfl (lv_at hl 0 rfl) ?_
  refine W.objInit hx hb hown (hts _ kob_Finds) (hts _ ko_inst) (hts _ ko_code) rfl (by rw [hml]; exact hl.1) rfl d_Finds_init_1 (Nat.le_of_ble_eq_true rfl) (Nat.le_of_ble_eq_true rfl) ?_
  refine W.eq (g2 := F0 m 4 ls []) rfl ?_
  refine lv_aload_n hx hb d_Finds_init_4 rfl (lv_at hl 0 rfl) ?_
  refine lv_bipush (v := 10) hx hb d_Finds_init_5 (by decide +kernel) ?_
  refine lv_bipush (v := 6) hx hb d_Finds_init_7 (by decide +kernel) ?_
  refine kr_mna (Z := Zc G ar b0 top) (N := 10) (K := 6) hx hb hown hts kcl_Finds_9 karr hO hK.1 hb0 (by omega) hP hS (by decide +kernel) (by decide +kernel) (by decide +kernel) (by decide +kernel) (by decide) (by decide) (Ec_row (N' := 10) (by decide) (by decide +kernel) rfl) (fun j hj => Ec_arr (N' := 6) (by omega) ((by decide +kernel : ∀ j, j < 10 → sh (((106 + 1 + j : Nat) : Int) + 1) = (0, 6)) j hj) rfl) (Nat.le_of_ble_eq_true rfl) (Nat.le_of_ble_eq_true rfl) d_Finds_init_9 (fun H1 locs1 hP hS => ?_)
  refine kr_putF (Z := Zc G ar b0 top) hx hb hts i_Finds t_Finds t_Finds_ok n_Finds hown hin hK.1 hP hS 105 (by decide) Ec_at rfl 0 (by decide) kl_Finds_11 rfl rfl rfl rfl (Nat.le_of_ble_eq_true rfl) (Ec (Zc G ar b0 top) E 105 4 [.ref (b0 + (106)), .null, zi 0, zi 0, zi 0]) Ec_at Ec_put d_Finds_init_13 (fun H1 locs1 hP hS => ?_)
  refine lv_aload_n hx hb d_Finds_init_16 rfl (lv_at hl 0 rfl) ?_
  refine lv_bipush (v := 6) hx hb d_Finds_init_17 (by decide +kernel) ?_
  refine lv_bipush (v := 6) hx hb d_Finds_init_19 (by decide +kernel) ?_
  refine kr_mna (Z := Zc G ar b0 top) (N := 6) (K := 6) hx hb hown hts kcl_Finds_9 karr hO hK.1 hb0 (by omega) hP hS (by decide +kernel) (by decide +kernel) (by decide +kernel) (by decide +kernel) (by decide) (by decide) (Ec_row (N' := 6) (by decide) (by decide +kernel) rfl) (fun j hj => Ec_arr (N' := 6) (by omega) ((by decide +kernel : ∀ j, j < 6 → sh (((106 + 1 + 10 + 1 + j : Nat) : Int) + 1) = (0, 6)) j hj) rfl) (Nat.le_of_ble_eq_true rfl) (Nat.le_of_ble_eq_true rfl) d_Finds_init_21 (fun H1 locs1 hP hS => ?_)
  refine kr_putF (Z := Zc G ar b0 top) hx hb hts i_Finds t_Finds t_Finds_ok n_Finds hown hin hK.1 hP hS 105 (by decide) Ec_at rfl 1 (by decide) kl_Finds_16 rfl rfl rfl rfl (Nat.le_of_ble_eq_true rfl) (Ec (Zc G ar b0 top) E 105 4 [.ref (b0 + (106)), .ref (b0 + (106 + 1 + 10)), zi 0, zi 0, zi 0]) Ec_at Ec_put d_Finds_init_25 (fun H1 locs1 hP hS => ?_)
  rw [Ec_end (Z := Zc G ar b0 top) (E := E) (a := 105) (ci := 4) (fs := [.ref (b0 + (106)), .ref (b0 + (106 + 1 + 10)), zi 0, zi 0, zi 0]) (N := 5) (by decide +kernel) rfl] at hP
  exact W.vret hx hb hr (fun t ht hW => ⟨rfl, by rw [ht]; exact hP, hS.F ht⟩) hS.2.2 d_Finds_init_28 hlocks
set_option maxHeartbeats 4000000 in
theorem c_Finds_init_124 (l : Launch) (G : va_G) (ar : Nat → ClassId) (b0 : Nat) (top : Int) (E : Nat → va_E) (hE : E 124 = .inr (4, [.null, .null, zi 0, zi 0, zi 0])) : CtK l (Zc G ar b0 top) b0 y_Finds_init prog_3_method_1_code 1 rm_Finds_init [.ref (b0 + 124)] 125 E 143 (Ef (Zc G ar b0 top) E 124) 18 112 := by
  refine km (cc := prog_3_method_1_code) (own := R_Finds) (lv := [(0, .ref (b0 + 124))]) (by decide +kernel) rfl rfl (Nat.le_of_ble_eq_true rfl) rfl (fun p e s m args below meth c ls K hsz hP hl => ?_)
  obtain ⟨hx, hb, hml, hown, hts, hK, hO, hlocks, hr, hin⟩ := K
  have hS : va_S (zA2 b0) s.heap s.heap [] := va_S.rf
  have hb0 : b0 ≤ s.heap.size := by omega
  replace hP : va_P G classes (wq b0 (124 + 1) E) s.heap := hP
  rw [Ec_start (Z := Zc G ar b0 top) hE] at hP
  refine lv_aload_n hx hb d_Finds_init_0 rfl (lv_at hl 0 rfl) ?_
  refine W.objInit hx hb hown (hts _ kob_Finds) (hts _ ko_inst) (hts _ ko_code) rfl (by rw [hml]; exact hl.1) rfl d_Finds_init_1 (Nat.le_of_ble_eq_true rfl) (Nat.le_of_ble_eq_true rfl) ?_
  refine W.eq (g2 := F0 m 4 ls []) rfl ?_
  refine lv_aload_n hx hb d_Finds_init_4 rfl (lv_at hl 0 rfl) ?_
  refine lv_bipush (v := 10) hx hb d_Finds_init_5 (by decide +kernel) ?_
  refine lv_bipush (v := 6) hx hb d_Finds_init_7 (by decide +kernel) ?_
  refine kr_mna (Z := Zc G ar b0 top) (N := 10) (K := 6) hx hb hown hts kcl_Finds_9 karr hO hK.1 hb0 (by omega) hP hS (by decide +kernel) (by decide +kernel) (by decide +kernel) (by decide +kernel) (by decide) (by decide) (Ec_row (N' := 10) (by decide) (by decide +kernel) rfl) (fun j hj => Ec_arr (N' := 6) (by omega) ((by decide +kernel : ∀ j, j < 10 → sh (((125 + 1 + j : Nat) : Int) + 1) = (0, 6)) j hj) rfl) (Nat.le_of_ble_eq_true rfl) (Nat.le_of_ble_eq_true rfl) d_Finds_init_9 (fun H1 locs1 hP hS => ?_)
  refine kr_putF (Z := Zc G ar b0 top) hx hb hts i_Finds t_Finds t_Finds_ok n_Finds hown hin hK.1 hP hS 124 (by decide) Ec_at rfl 0 (by decide) kl_Finds_11 rfl rfl rfl rfl (Nat.le_of_ble_eq_true rfl) (Ec (Zc G ar b0 top) E 124 4 [.ref (b0 + (125)), .null, zi 0, zi 0, zi 0]) Ec_at Ec_put d_Finds_init_13 (fun H1 locs1 hP hS => ?_)
  refine lv_aload_n hx hb d_Finds_init_16 rfl (lv_at hl 0 rfl) ?_
  refine lv_bipush (v := 6) hx hb d_Finds_init_17 (by decide +kernel) ?_
  refine lv_bipush (v := 6) hx hb d_Finds_init_19 (by decide +kernel) ?_
  refine kr_mna (Z := Zc G ar b0 top) (N := 6) (K := 6) hx hb hown hts kcl_Finds_9 karr hO hK.1 hb0 (by omega) hP hS (by decide +kernel) (by decide +kernel) (by decide +kernel) (by decide +kernel) (by decide) (by decide) (Ec_row (N' := 6) (by decide) (by decide +kernel) rfl) (fun j hj => Ec_arr (N' := 6) (by omega) ((by decide +kernel : ∀ j, j < 6 → sh (((125 + 1 + 10 + 1 + j : Nat) : Int) + 1) = (0, 6)) j hj) rfl) (Nat.le_of_ble_eq_true rfl) (Nat.le_of_ble_eq_true rfl) d_Finds_init_21 (fun H1 locs1 hP hS => ?_)
  refine kr_putF (Z := Zc G ar b0 top) hx hb hts i_Finds t_Finds t_Finds_ok n_Finds hown hin hK.1 hP hS 124 (by decide) Ec_at rfl 1 (by decide) kl_Finds_16 rfl rfl rfl rfl (Nat.le_of_ble_eq_true rfl) (Ec (Zc G ar b0 top) E 124 4 [.ref (b0 + (125)), .ref (b0 + (125 + 1 + 10)), zi 0, zi 0, zi 0]) Ec_at Ec_put d_Finds_init_25 (fun H1 locs1 hP hS => ?_)
  rw [Ec_end (Z := Zc G ar b0 top) (E := E) (a := 124) (ci := 4) (fs := [.ref (b0 + (125)), .ref (b0 + (125 + 1 + 10)), zi 0, zi 0, zi 0]) (N := 5) (by decide +kernel) rfl] at hP
  exact W.vret hx hb hr (fun t ht hW => ⟨rfl, by rw [ht]; exact hP, hS.F ht⟩) hS.2.2 d_Finds_init_28 hlocks
def rm_Quern_init : Room := { frames := 1, cells := 36, slots := 218, locals := 12 }
set_option maxHeartbeats 4000000 in
theorem c_Quern_init_31 (l : Launch) (G : va_G) (ar : Nat → ClassId) (b0 : Nat) (top : Int) (E : Nat → va_E) (hE : E 31 = .inr (5, [zi 0, zi 0, .null, .null, .null, .null, .null, .null, .null, .null, .null, zi 0, .null])) : CtK l (Zc G ar b0 top) b0 y_Quern_init prog_6_method_1_code 1 rm_Quern_init [.ref (b0 + 31)] 32 E 68 (Ef (Zc G ar b0 top) E 31) 36 218 := by
  refine km (cc := prog_6_method_1_code) (own := R_Quern) (lv := [(0, .ref (b0 + 31))]) (by decide +kernel) rfl rfl (Nat.le_of_ble_eq_true rfl) rfl (fun p e s m args below meth c ls K hsz hP hl => ?_)
  obtain ⟨hx, hb, hml, hown, hts, hK, hO, hlocks, hr, hin⟩ := K
  have hS : va_S (zA2 b0) s.heap s.heap [] := va_S.rf
  have hb0 : b0 ≤ s.heap.size := by omega
  replace hP : va_P G classes (wq b0 (31 + 1) E) s.heap := hP
  rw [Ec_start (Z := Zc G ar b0 top) hE] at hP
  refine lv_aload_n hx hb d_Quern_init_0 rfl (lv_at hl 0 rfl) ?_
  refine W.objInit hx hb hown (hts _ kob_Quern) (hts _ ko_inst) (hts _ ko_code) rfl (by rw [hml]; exact hl.1) rfl d_Quern_init_1 (Nat.le_of_ble_eq_true rfl) (Nat.le_of_ble_eq_true rfl) ?_
  refine W.eq (g2 := F0 m 4 ls []) rfl ?_
  refine lv_aload_n hx hb d_Quern_init_4 rfl (lv_at hl 0 rfl) ?_
  refine lv_bipush (v := 6) hx hb d_Quern_init_5 (by decide +kernel) ?_
  refine lv_iconst (v := 4) hx hb d_Quern_init_7 (by decide +kernel) ?_
  refine kr_mna (Z := Zc G ar b0 top) (N := 6) (K := 4) hx hb hown hts kcl_Quern_9 karr hO hK.1 hb0 (by omega) hP hS (by decide +kernel) (by decide +kernel) (by decide +kernel) (by decide +kernel) (by decide) (by decide) (Ec_row (N' := 6) (by decide) (by decide +kernel) rfl) (fun j hj => Ec_arr (N' := 4) (by omega) ((by decide +kernel : ∀ j, j < 6 → sh (((32 + 1 + j : Nat) : Int) + 1) = (0, 4)) j hj) rfl) (Nat.le_of_ble_eq_true rfl) (Nat.le_of_ble_eq_true rfl) d_Quern_init_8 (fun H1 locs1 hP hS => ?_)
  refine kr_putF (Z := Zc G ar b0 top) hx hb hts i_Quern t_Quern t_Quern_ok n_Quern hown hin hK.1 hP hS 31 (by decide) Ec_at rfl 2 (by decide) kl_Quern_11 rfl rfl rfl rfl (Nat.le_of_ble_eq_true rfl) (Ec (Zc G ar b0 top) E 31 5 [zi 0, zi 0, .ref (b0 + (32)), .null, .null, .null, .null, .null, .null, .null, .null, zi 0, .null]) Ec_at Ec_put d_Quern_init_12 (fun H1 locs1 hP hS => ?_)
  refine lv_aload_n hx hb d_Quern_init_15 rfl (lv_at hl 0 rfl) ?_
  refine lv_bipush (v := 10) hx hb d_Quern_init_16 (by decide +kernel) ?_
  refine kr_newa (Z := Zc G ar b0 top) (N := 10) hx hb (hts _ karr) (hK.1.2 0 (_, .int) rfl).2 hb0 (by omega) hP hS (Ec_arr (N' := 10) (by decide) (by decide +kernel) rfl) (by decide +kernel) (by decide +kernel) (by decide) (Nat.le_of_ble_eq_true rfl) (Nat.le_of_ble_eq_true rfl) d_Quern_init_18 (fun H1 hP hS => ?_)
  refine kr_putF (Z := Zc G ar b0 top) hx hb hts i_Quern t_Quern t_Quern_ok n_Quern hown hin hK.1 hP hS 31 (by decide) Ec_at rfl 3 (by decide) kl_Quern_16 rfl rfl rfl rfl (Nat.le_of_ble_eq_true rfl) (Ec (Zc G ar b0 top) E 31 5 [zi 0, zi 0, .ref (b0 + (32)), .ref (b0 + (32 + 1 + 6)), .null, .null, .null, .null, .null, .null, .null, zi 0, .null]) Ec_at Ec_put d_Quern_init_20 (fun H1 locs1 hP hS => ?_)
  refine lv_aload_n hx hb d_Quern_init_23 rfl (lv_at hl 0 rfl) ?_
  refine lv_bipush (v := 10) hx hb d_Quern_init_24 (by decide +kernel) ?_
  refine kr_newa (Z := Zc G ar b0 top) (N := 10) hx hb (hts _ karr) (hK.1.2 0 (_, .int) rfl).2 hb0 (by omega) hP hS (Ec_arr (N' := 10) (by decide) (by decide +kernel) rfl) (by decide +kernel) (by decide +kernel) (by decide) (Nat.le_of_ble_eq_true rfl) (Nat.le_of_ble_eq_true rfl) d_Quern_init_26 (fun H1 hP hS => ?_)
  refine kr_putF (Z := Zc G ar b0 top) hx hb hts i_Quern t_Quern t_Quern_ok n_Quern hown hin hK.1 hP hS 31 (by decide) Ec_at rfl 4 (by decide) kl_Quern_20 rfl rfl rfl rfl (Nat.le_of_ble_eq_true rfl) (Ec (Zc G ar b0 top) E 31 5 [zi 0, zi 0, .ref (b0 + (32)), .ref (b0 + (32 + 1 + 6)), .ref (b0 + (32 + 1 + 6 + 1)), .null, .null, .null, .null, .null, .null, zi 0, .null]) Ec_at Ec_put d_Quern_init_28 (fun H1 locs1 hP hS => ?_)
  refine lv_aload_n hx hb d_Quern_init_31 rfl (lv_at hl 0 rfl) ?_
  refine lv_bipush (v := 10) hx hb d_Quern_init_32 (by decide +kernel) ?_
  refine kr_newa (Z := Zc G ar b0 top) (N := 10) hx hb (hts _ karr) (hK.1.2 0 (_, .int) rfl).2 hb0 (by omega) hP hS (Ec_arr (N' := 10) (by decide) (by decide +kernel) rfl) (by decide +kernel) (by decide +kernel) (by decide) (Nat.le_of_ble_eq_true rfl) (Nat.le_of_ble_eq_true rfl) d_Quern_init_34 (fun H1 hP hS => ?_)
  refine kr_putF (Z := Zc G ar b0 top) hx hb hts i_Quern t_Quern t_Quern_ok n_Quern hown hin hK.1 hP hS 31 (by decide) Ec_at rfl 5 (by decide) kl_Quern_23 rfl rfl rfl rfl (Nat.le_of_ble_eq_true rfl) (Ec (Zc G ar b0 top) E 31 5 [zi 0, zi 0, .ref (b0 + (32)), .ref (b0 + (32 + 1 + 6)), .ref (b0 + (32 + 1 + 6 + 1)), .ref (b0 + (32 + 1 + 6 + 1 + 1)), .null, .null, .null, .null, .null, zi 0, .null]) Ec_at Ec_put d_Quern_init_36 (fun H1 locs1 hP hS => ?_)
  refine lv_aload_n hx hb d_Quern_init_39 rfl (lv_at hl 0 rfl) ?_
  refine lv_bipush (v := 10) hx hb d_Quern_init_40 (by decide +kernel) ?_
  refine kr_newa (Z := Zc G ar b0 top) (N := 10) hx hb (hts _ karr) (hK.1.2 0 (_, .int) rfl).2 hb0 (by omega) hP hS (Ec_arr (N' := 10) (by decide) (by decide +kernel) rfl) (by decide +kernel) (by decide +kernel) (by decide) (Nat.le_of_ble_eq_true rfl) (Nat.le_of_ble_eq_true rfl) d_Quern_init_42 (fun H1 hP hS => ?_)
  refine kr_putF (Z := Zc G ar b0 top) hx hb hts i_Quern t_Quern t_Quern_ok n_Quern hown hin hK.1 hP hS 31 (by decide) Ec_at rfl 6 (by decide) kl_Quern_26 rfl rfl rfl rfl (Nat.le_of_ble_eq_true rfl) (Ec (Zc G ar b0 top) E 31 5 [zi 0, zi 0, .ref (b0 + (32)), .ref (b0 + (32 + 1 + 6)), .ref (b0 + (32 + 1 + 6 + 1)), .ref (b0 + (32 + 1 + 6 + 1 + 1)), .ref (b0 + (32 + 1 + 6 + 1 + 1 + 1)), .null, .null, .null, .null, zi 0, .null]) Ec_at Ec_put d_Quern_init_44 (fun H1 locs1 hP hS => ?_)
  refine lv_aload_n hx hb d_Quern_init_47 rfl (lv_at hl 0 rfl) ?_
  refine lv_bipush (v := 10) hx hb d_Quern_init_48 (by decide +kernel) ?_
  refine lv_bipush (v := 6) hx hb d_Quern_init_50 (by decide +kernel) ?_
  refine kr_mna (Z := Zc G ar b0 top) (N := 10) (K := 6) hx hb hown hts kcl_Quern_9 karr hO hK.1 hb0 (by omega) hP hS (by decide +kernel) (by decide +kernel) (by decide +kernel) (by decide +kernel) (by decide) (by decide) (Ec_row (N' := 10) (by decide) (by decide +kernel) rfl) (fun j hj => Ec_arr (N' := 6) (by omega) ((by decide +kernel : ∀ j, j < 10 → sh (((32 + 1 + 6 + 1 + 1 + 1 + 1 + 1 + j : Nat) : Int) + 1) = (0, 6)) j hj) rfl) (Nat.le_of_ble_eq_true rfl) (Nat.le_of_ble_eq_true rfl) d_Quern_init_52 (fun H1 locs1 hP hS => ?_)
  refine kr_putF (Z := Zc G ar b0 top) hx hb hts i_Quern t_Quern t_Quern_ok n_Quern hown hin hK.1 hP hS 31 (by decide) Ec_at rfl 7 (by decide) kl_Quern_29 rfl rfl rfl rfl (Nat.le_of_ble_eq_true rfl) (Ec (Zc G ar b0 top) E 31 5 [zi 0, zi 0, .ref (b0 + (32)), .ref (b0 + (32 + 1 + 6)), .ref (b0 + (32 + 1 + 6 + 1)), .ref (b0 + (32 + 1 + 6 + 1 + 1)), .ref (b0 + (32 + 1 + 6 + 1 + 1 + 1)), .ref (b0 + (32 + 1 + 6 + 1 + 1 + 1 + 1)), .null, .null, .null, zi 0, .null]) Ec_at Ec_put d_Quern_init_56 (fun H1 locs1 hP hS => ?_)
  refine lv_aload_n hx hb d_Quern_init_59 rfl (lv_at hl 0 rfl) ?_
  refine lv_iconst (v := 4) hx hb d_Quern_init_60 (by decide +kernel) ?_
  refine lv_bipush (v := 6) hx hb d_Quern_init_61 (by decide +kernel) ?_
  refine kr_mna (Z := Zc G ar b0 top) (N := 4) (K := 6) hx hb hown hts kcl_Quern_9 karr hO hK.1 hb0 (by omega) hP hS (by decide +kernel) (by decide +kernel) (by decide +kernel) (by decide +kernel) (by decide) (by decide) (Ec_row (N' := 4) (by decide) (by decide +kernel) rfl) (fun j hj => Ec_arr (N' := 6) (by omega) ((by decide +kernel : ∀ j, j < 4 → sh (((32 + 1 + 6 + 1 + 1 + 1 + 1 + 1 + 10 + 1 + j : Nat) : Int) + 1) = (0, 6)) j hj) rfl) (Nat.le_of_ble_eq_true rfl) (Nat.le_of_ble_eq_true rfl) d_Quern_init_63 (fun H1 locs1 hP hS => ?_)
  refine kr_putF (Z := Zc G ar b0 top) hx hb hts i_Quern t_Quern t_Quern_ok n_Quern hown hin hK.1 hP hS 31 (by decide) Ec_at rfl 8 (by decide) kl_Quern_32 rfl rfl rfl rfl (Nat.le_of_ble_eq_true rfl) (Ec (Zc G ar b0 top) E 31 5 [zi 0, zi 0, .ref (b0 + (32)), .ref (b0 + (32 + 1 + 6)), .ref (b0 + (32 + 1 + 6 + 1)), .ref (b0 + (32 + 1 + 6 + 1 + 1)), .ref (b0 + (32 + 1 + 6 + 1 + 1 + 1)), .ref (b0 + (32 + 1 + 6 + 1 + 1 + 1 + 1)), .ref (b0 + (32 + 1 + 6 + 1 + 1 + 1 + 1 + 1 + 10)), .null, .null, zi 0, .null]) Ec_at Ec_put d_Quern_init_67 (fun H1 locs1 hP hS => ?_)
  refine lv_aload_n hx hb d_Quern_init_70 rfl (lv_at hl 0 rfl) ?_
  refine lv_iconst (v := 4) hx hb d_Quern_init_71 (by decide +kernel) ?_
  refine kr_newa (Z := Zc G ar b0 top) (N := 4) hx hb (hts _ karr) (hK.1.2 0 (_, .int) rfl).2 hb0 (by omega) hP hS (Ec_arr (N' := 4) (by decide) (by decide +kernel) rfl) (by decide +kernel) (by decide +kernel) (by decide) (Nat.le_of_ble_eq_true rfl) (Nat.le_of_ble_eq_true rfl) d_Quern_init_72 (fun H1 hP hS => ?_)
  refine kr_putF (Z := Zc G ar b0 top) hx hb hts i_Quern t_Quern t_Quern_ok n_Quern hown hin hK.1 hP hS 31 (by decide) Ec_at rfl 9 (by decide) kl_Quern_35 rfl rfl rfl rfl (Nat.le_of_ble_eq_true rfl) (Ec (Zc G ar b0 top) E 31 5 [zi 0, zi 0, .ref (b0 + (32)), .ref (b0 + (32 + 1 + 6)), .ref (b0 + (32 + 1 + 6 + 1)), .ref (b0 + (32 + 1 + 6 + 1 + 1)), .ref (b0 + (32 + 1 + 6 + 1 + 1 + 1)), .ref (b0 + (32 + 1 + 6 + 1 + 1 + 1 + 1)), .ref (b0 + (32 + 1 + 6 + 1 + 1 + 1 + 1 + 1 + 10)), .ref (b0 + (32 + 1 + 6 + 1 + 1 + 1 + 1 + 1 + 10 + 1 + 4)), .null, zi 0, .null]) Ec_at Ec_put d_Quern_init_74 (fun H1 locs1 hP hS => ?_)
  refine lv_aload_n hx hb d_Quern_init_77 rfl (lv_at hl 0 rfl) ?_
  refine lv_iconst (v := 4) hx hb d_Quern_init_78 (by decide +kernel) ?_
  refine kr_newa (Z := Zc G ar b0 top) (N := 4) hx hb (hts _ karr) (hK.1.2 0 (_, .int) rfl).2 hb0 (by omega) hP hS (Ec_arr (N' := 4) (by decide) (by decide +kernel) rfl) (by decide +kernel) (by decide +kernel) (by decide) (Nat.le_of_ble_eq_true rfl) (Nat.le_of_ble_eq_true rfl) d_Quern_init_79 (fun H1 hP hS => ?_)
  refine kr_putF (Z := Zc G ar b0 top) hx hb hts i_Quern t_Quern t_Quern_ok n_Quern hown hin hK.1 hP hS 31 (by decide) Ec_at rfl 10 (by decide) kl_Quern_38 rfl rfl rfl rfl (Nat.le_of_ble_eq_true rfl) (Ec (Zc G ar b0 top) E 31 5 [zi 0, zi 0, .ref (b0 + (32)), .ref (b0 + (32 + 1 + 6)), .ref (b0 + (32 + 1 + 6 + 1)), .ref (b0 + (32 + 1 + 6 + 1 + 1)), .ref (b0 + (32 + 1 + 6 + 1 + 1 + 1)), .ref (b0 + (32 + 1 + 6 + 1 + 1 + 1 + 1)), .ref (b0 + (32 + 1 + 6 + 1 + 1 + 1 + 1 + 1 + 10)), .ref (b0 + (32 + 1 + 6 + 1 + 1 + 1 + 1 + 1 + 10 + 1 + 4)), .ref (b0 + (32 + 1 + 6 + 1 + 1 + 1 + 1 + 1 + 10 + 1 + 4 + 1)), zi 0, .null]) Ec_at Ec_put d_Quern_init_81 (fun H1 locs1 hP hS => ?_)
  refine lv_aload_n hx hb d_Quern_init_84 rfl (lv_at hl 0 rfl) ?_
  refine lv_bipush (v := 6) hx hb d_Quern_init_85 (by decide +kernel) ?_
  refine lv_bipush (v := 6) hx hb d_Quern_init_87 (by decide +kernel) ?_
  refine kr_mna (Z := Zc G ar b0 top) (N := 6) (K := 6) hx hb hown hts kcl_Quern_9 karr hO hK.1 hb0 (by omega) hP hS (by decide +kernel) (by decide +kernel) (by decide +kernel) (by decide +kernel) (by decide) (by decide) (Ec_row (N' := 6) (by decide) (by decide +kernel) rfl) (fun j hj => Ec_arr (N' := 6) (by omega) ((by decide +kernel : ∀ j, j < 6 → sh (((32 + 1 + 6 + 1 + 1 + 1 + 1 + 1 + 10 + 1 + 4 + 1 + 1 + 1 + j : Nat) : Int) + 1) = (0, 6)) j hj) rfl) (Nat.le_of_ble_eq_true rfl) (Nat.le_of_ble_eq_true rfl) d_Quern_init_89 (fun H1 locs1 hP hS => ?_)
  refine kr_putF (Z := Zc G ar b0 top) hx hb hts i_Quern t_Quern t_Quern_ok n_Quern hown hin hK.1 hP hS 31 (by decide) Ec_at rfl 12 (by decide) kl_Quern_41 rfl rfl rfl rfl (Nat.le_of_ble_eq_true rfl) (Ec (Zc G ar b0 top) E 31 5 [zi 0, zi 0, .ref (b0 + (32)), .ref (b0 + (32 + 1 + 6)), .ref (b0 + (32 + 1 + 6 + 1)), .ref (b0 + (32 + 1 + 6 + 1 + 1)), .ref (b0 + (32 + 1 + 6 + 1 + 1 + 1)), .ref (b0 + (32 + 1 + 6 + 1 + 1 + 1 + 1)), .ref (b0 + (32 + 1 + 6 + 1 + 1 + 1 + 1 + 1 + 10)), .ref (b0 + (32 + 1 + 6 + 1 + 1 + 1 + 1 + 1 + 10 + 1 + 4)), .ref (b0 + (32 + 1 + 6 + 1 + 1 + 1 + 1 + 1 + 10 + 1 + 4 + 1)), zi 0, .ref (b0 + (32 + 1 + 6 + 1 + 1 + 1 + 1 + 1 + 10 + 1 + 4 + 1 + 1))]) Ec_at Ec_put d_Quern_init_93 (fun H1 locs1 hP hS => ?_)
  rw [Ec_end (Z := Zc G ar b0 top) (E := E) (a := 31) (ci := 5) (fs := [zi 0, zi 0, .ref (b0 + (32)), .ref (b0 + (32 + 1 + 6)), .ref (b0 + (32 + 1 + 6 + 1)), .ref (b0 + (32 + 1 + 6 + 1 + 1)), .ref (b0 + (32 + 1 + 6 + 1 + 1 + 1)), .ref (b0 + (32 + 1 + 6 + 1 + 1 + 1 + 1)), .ref (b0 + (32 + 1 + 6 + 1 + 1 + 1 + 1 + 1 + 10)), .ref (b0 + (32 + 1 + 6 + 1 + 1 + 1 + 1 + 1 + 10 + 1 + 4)), .ref (b0 + (32 + 1 + 6 + 1 + 1 + 1 + 1 + 1 + 10 + 1 + 4 + 1)), zi 0, .ref (b0 + (32 + 1 + 6 + 1 + 1 + 1 + 1 + 1 + 10 + 1 + 4 + 1 + 1))]) (N := 13) (by decide +kernel) rfl] at hP
  exact W.vret hx hb hr (fun t ht hW => ⟨rfl, by rw [ht]; exact hP, hS.F ht⟩) hS.2.2 d_Quern_init_96 hlocks
set_option maxHeartbeats 4000000 in
theorem c_Quern_init_68 (l : Launch) (G : va_G) (ar : Nat → ClassId) (b0 : Nat) (top : Int) (E : Nat → va_E) (hE : E 68 = .inr (5, [zi 0, zi 0, .null, .null, .null, .null, .null, .null, .null, .null, .null, zi 0, .null])) : CtK l (Zc G ar b0 top) b0 y_Quern_init prog_6_method_1_code 1 rm_Quern_init [.ref (b0 + 68)] 69 E 105 (Ef (Zc G ar b0 top) E 68) 36 218 := by
  refine km (cc := prog_6_method_1_code) (own := R_Quern) (lv := [(0, .ref (b0 + 68))]) (by decide +kernel) rfl rfl (Nat.le_of_ble_eq_true rfl) rfl (fun p e s m args below meth c ls K hsz hP hl => ?_)
  obtain ⟨hx, hb, hml, hown, hts, hK, hO, hlocks, hr, hin⟩ := K
  have hS : va_S (zA2 b0) s.heap s.heap [] := va_S.rf
  have hb0 : b0 ≤ s.heap.size := by omega
  replace hP : va_P G classes (wq b0 (68 + 1) E) s.heap := hP
  rw [Ec_start (Z := Zc G ar b0 top) hE] at hP
  refine lv_aload_n hx hb d_Quern_init_0 rfl (lv_at hl 0 rfl) ?_
  refine W.objInit hx hb hown (hts _ kob_Quern) (hts _ ko_inst) (hts _ ko_code) rfl (by rw [hml]; exact hl.1) rfl d_Quern_init_1 (Nat.le_of_ble_eq_true rfl) (Nat.le_of_ble_eq_true rfl) ?_
  refine W.eq (g2 := F0 m 4 ls []) rfl ?_
  refine lv_aload_n hx hb d_Quern_init_4 rfl (lv_at hl 0 rfl) ?_
  refine lv_bipush (v := 6) hx hb d_Quern_init_5 (by decide +kernel) ?_
  refine lv_iconst (v := 4) hx hb d_Quern_init_7 (by decide +kernel) ?_
  refine kr_mna (Z := Zc G ar b0 top) (N := 6) (K := 4) hx hb hown hts kcl_Quern_9 karr hO hK.1 hb0 (by omega) hP hS (by decide +kernel) (by decide +kernel) (by decide +kernel) (by decide +kernel) (by decide) (by decide) (Ec_row (N' := 6) (by decide) (by decide +kernel) rfl) (fun j hj => Ec_arr (N' := 4) (by omega) ((by decide +kernel : ∀ j, j < 6 → sh (((69 + 1 + j : Nat) : Int) + 1) = (0, 4)) j hj) rfl) (Nat.le_of_ble_eq_true rfl) (Nat.le_of_ble_eq_true rfl) d_Quern_init_8 (fun H1 locs1 hP hS => ?_)
  refine kr_putF (Z := Zc G ar b0 top) hx hb hts i_Quern t_Quern t_Quern_ok n_Quern hown hin hK.1 hP hS 68 (by decide) Ec_at rfl 2 (by decide) kl_Quern_11 rfl rfl rfl rfl (Nat.le_of_ble_eq_true rfl) (Ec (Zc G ar b0 top) E 68 5 [zi 0, zi 0, .ref (b0 + (69)), .null, .null, .null, .null, .null, .null, .null, .null, zi 0, .null]) Ec_at Ec_put d_Quern_init_12 (fun H1 locs1 hP hS => ?_)
  refine lv_aload_n hx hb d_Quern_init_15 rfl (lv_at hl 0 rfl) ?_
  refine lv_bipush (v := 10) hx hb d_Quern_init_16 (by decide +kernel) ?_
  refine kr_newa (Z := Zc G ar b0 top) (N := 10) hx hb (hts _ karr) (hK.1.2 0 (_, .int) rfl).2 hb0 (by omega) hP hS (Ec_arr (N' := 10) (by decide) (by decide +kernel) rfl) (by decide +kernel) (by decide +kernel) (by decide) (Nat.le_of_ble_eq_true rfl) (Nat.le_of_ble_eq_true rfl) d_Quern_init_18 (fun H1 hP hS => ?_)
  refine kr_putF (Z := Zc G ar b0 top) hx hb hts i_Quern t_Quern t_Quern_ok n_Quern hown hin hK.1 hP hS 68 (by decide) Ec_at rfl 3 (by decide) kl_Quern_16 rfl rfl rfl rfl (Nat.le_of_ble_eq_true rfl) (Ec (Zc G ar b0 top) E 68 5 [zi 0, zi 0, .ref (b0 + (69)), .ref (b0 + (69 + 1 + 6)), .null, .null, .null, .null, .null, .null, .null, zi 0, .null]) Ec_at Ec_put d_Quern_init_20 (fun H1 locs1 hP hS => ?_)
  refine lv_aload_n hx hb d_Quern_init_23 rfl (lv_at hl 0 rfl) ?_
  refine lv_bipush (v := 10) hx hb d_Quern_init_24 (by decide +kernel) ?_
  refine kr_newa (Z := Zc G ar b0 top) (N := 10) hx hb (hts _ karr) (hK.1.2 0 (_, .int) rfl).2 hb0 (by omega) hP hS (Ec_arr (N' := 10) (by decide) (by decide +kernel) rfl) (by decide +kernel) (by decide +kernel) (by decide) (Nat.le_of_ble_eq_true rfl) (Nat.le_of_ble_eq_true rfl) d_Quern_init_26 (fun H1 hP hS => ?_)
  refine kr_putF (Z := Zc G ar b0 top) hx hb hts i_Quern t_Quern t_Quern_ok n_Quern hown hin hK.1 hP hS 68 (by decide) Ec_at rfl 4 (by decide) kl_Quern_20 rfl rfl rfl rfl (Nat.le_of_ble_eq_true rfl) (Ec (Zc G ar b0 top) E 68 5 [zi 0, zi 0, .ref (b0 + (69)), .ref (b0 + (69 + 1 + 6)), .ref (b0 + (69 + 1 + 6 + 1)), .null, .null, .null, .null, .null, .null, zi 0, .null]) Ec_at Ec_put d_Quern_init_28 (fun H1 locs1 hP hS => ?_)
  refine lv_aload_n hx hb d_Quern_init_31 rfl (lv_at hl 0 rfl) ?_
  refine lv_bipush (v := 10) hx hb d_Quern_init_32 (by decide +kernel) ?_
  refine kr_newa (Z := Zc G ar b0 top) (N := 10) hx hb (hts _ karr) (hK.1.2 0 (_, .int) rfl).2 hb0 (by omega) hP hS (Ec_arr (N' := 10) (by decide) (by decide +kernel) rfl) (by decide +kernel) (by decide +kernel) (by decide) (Nat.le_of_ble_eq_true rfl) (Nat.le_of_ble_eq_true rfl) d_Quern_init_34 (fun H1 hP hS => ?_)
  refine kr_putF (Z := Zc G ar b0 top) hx hb hts i_Quern t_Quern t_Quern_ok n_Quern hown hin hK.1 hP hS 68 (by decide) Ec_at rfl 5 (by decide) kl_Quern_23 rfl rfl rfl rfl (Nat.le_of_ble_eq_true rfl) (Ec (Zc G ar b0 top) E 68 5 [zi 0, zi 0, .ref (b0 + (69)), .ref (b0 + (69 + 1 + 6)), .ref (b0 + (69 + 1 + 6 + 1)), .ref (b0 + (69 + 1 + 6 + 1 + 1)), .null, .null, .null, .null, .null, zi 0, .null]) Ec_at Ec_put d_Quern_init_36 (fun H1 locs1 hP hS => ?_)
  refine lv_aload_n hx hb d_Quern_init_39 rfl (lv_at hl 0 rfl) ?_
  refine lv_bipush (v := 10) hx hb d_Quern_init_40 (by decide +kernel) ?_
  refine kr_newa (Z := Zc G ar b0 top) (N := 10) hx hb (hts _ karr) (hK.1.2 0 (_, .int) rfl).2 hb0 (by omega) hP hS (Ec_arr (N' := 10) (by decide) (by decide +kernel) rfl) (by decide +kernel) (by decide +kernel) (by decide) (Nat.le_of_ble_eq_true rfl) (Nat.le_of_ble_eq_true rfl) d_Quern_init_42 (fun H1 hP hS => ?_)
  refine kr_putF (Z := Zc G ar b0 top) hx hb hts i_Quern t_Quern t_Quern_ok n_Quern hown hin hK.1 hP hS 68 (by decide) Ec_at rfl 6 (by decide) kl_Quern_26 rfl rfl rfl rfl (Nat.le_of_ble_eq_true rfl) (Ec (Zc G ar b0 top) E 68 5 [zi 0, zi 0, .ref (b0 + (69)), .ref (b0 + (69 + 1 + 6)), .ref (b0 + (69 + 1 + 6 + 1)), .ref (b0 + (69 + 1 + 6 + 1 + 1)), .ref (b0 + (69 + 1 + 6 + 1 + 1 + 1)), .null, .null, .null, .null, zi 0, .null]) Ec_at Ec_put d_Quern_init_44 (fun H1 locs1 hP hS => ?_)
  refine lv_aload_n hx hb d_Quern_init_47 rfl (lv_at hl 0 rfl) ?_
  refine lv_bipush (v := 10) hx hb d_Quern_init_48 (by decide +kernel) ?_
  refine lv_bipush (v := 6) hx hb d_Quern_init_50 (by decide +kernel) ?_
  refine kr_mna (Z := Zc G ar b0 top) (N := 10) (K := 6) hx hb hown hts kcl_Quern_9 karr hO hK.1 hb0 (by omega) hP hS (by decide +kernel) (by decide +kernel) (by decide +kernel) (by decide +kernel) (by decide) (by decide) (Ec_row (N' := 10) (by decide) (by decide +kernel) rfl) (fun j hj => Ec_arr (N' := 6) (by omega) ((by decide +kernel : ∀ j, j < 10 → sh (((69 + 1 + 6 + 1 + 1 + 1 + 1 + 1 + j : Nat) : Int) + 1) = (0, 6)) j hj) rfl) (Nat.le_of_ble_eq_true rfl) (Nat.le_of_ble_eq_true rfl) d_Quern_init_52 (fun H1 locs1 hP hS => ?_)
  refine kr_putF (Z := Zc G ar b0 top) hx hb hts i_Quern t_Quern t_Quern_ok n_Quern hown hin hK.1 hP hS 68 (by decide) Ec_at rfl 7 (by decide) kl_Quern_29 rfl rfl rfl rfl (Nat.le_of_ble_eq_true rfl) (Ec (Zc G ar b0 top) E 68 5 [zi 0, zi 0, .ref (b0 + (69)), .ref (b0 + (69 + 1 + 6)), .ref (b0 + (69 + 1 + 6 + 1)), .ref (b0 + (69 + 1 + 6 + 1 + 1)), .ref (b0 + (69 + 1 + 6 + 1 + 1 + 1)), .ref (b0 + (69 + 1 + 6 + 1 + 1 + 1 + 1)), .null, .null, .null, zi 0, .null]) Ec_at Ec_put d_Quern_init_56 (fun H1 locs1 hP hS => ?_)
  refine lv_aload_n hx hb d_Quern_init_59 rfl (lv_at hl 0 rfl) ?_
  refine lv_iconst (v := 4) hx hb d_Quern_init_60 (by decide +kernel) ?_
  refine lv_bipush (v := 6) hx hb d_Quern_init_61 (by decide +kernel) ?_
  refine kr_mna (Z := Zc G ar b0 top) (N := 4) (K := 6) hx hb hown hts kcl_Quern_9 karr hO hK.1 hb0 (by omega) hP hS (by decide +kernel) (by decide +kernel) (by decide +kernel) (by decide +kernel) (by decide) (by decide) (Ec_row (N' := 4) (by decide) (by decide +kernel) rfl) (fun j hj => Ec_arr (N' := 6) (by omega) ((by decide +kernel : ∀ j, j < 4 → sh (((69 + 1 + 6 + 1 + 1 + 1 + 1 + 1 + 10 + 1 + j : Nat) : Int) + 1) = (0, 6)) j hj) rfl) (Nat.le_of_ble_eq_true rfl) (Nat.le_of_ble_eq_true rfl) d_Quern_init_63 (fun H1 locs1 hP hS => ?_)
  refine kr_putF (Z := Zc G ar b0 top) hx hb hts i_Quern t_Quern t_Quern_ok n_Quern hown hin hK.1 hP hS 68 (by decide) Ec_at rfl 8 (by decide) kl_Quern_32 rfl rfl rfl rfl (Nat.le_of_ble_eq_true rfl) (Ec (Zc G ar b0 top) E 68 5 [zi 0, zi 0, .ref (b0 + (69)), .ref (b0 + (69 + 1 + 6)), .ref (b0 + (69 + 1 + 6 + 1)), .ref (b0 + (69 + 1 + 6 + 1 + 1)), .ref (b0 + (69 + 1 + 6 + 1 + 1 + 1)), .ref (b0 + (69 + 1 + 6 + 1 + 1 + 1 + 1)), .ref (b0 + (69 + 1 + 6 + 1 + 1 + 1 + 1 + 1 + 10)), .null, .null, zi 0, .null]) Ec_at Ec_put d_Quern_init_67 (fun H1 locs1 hP hS => ?_)
  refine lv_aload_n hx hb d_Quern_init_70 rfl (lv_at hl 0 rfl) ?_
  refine lv_iconst (v := 4) hx hb d_Quern_init_71 (by decide +kernel) ?_
  refine kr_newa (Z := Zc G ar b0 top) (N := 4) hx hb (hts _ karr) (hK.1.2 0 (_, .int) rfl).2 hb0 (by omega) hP hS (Ec_arr (N' := 4) (by decide) (by decide +kernel) rfl) (by decide +kernel) (by decide +kernel) (by decide) (Nat.le_of_ble_eq_true rfl) (Nat.le_of_ble_eq_true rfl) d_Quern_init_72 (fun H1 hP hS => ?_)
  refine kr_putF (Z := Zc G ar b0 top) hx hb hts i_Quern t_Quern t_Quern_ok n_Quern hown hin hK.1 hP hS 68 (by decide) Ec_at rfl 9 (by decide) kl_Quern_35 rfl rfl rfl rfl (Nat.le_of_ble_eq_true rfl) (Ec (Zc G ar b0 top) E 68 5 [zi 0, zi 0, .ref (b0 + (69)), .ref (b0 + (69 + 1 + 6)), .ref (b0 + (69 + 1 + 6 + 1)), .ref (b0 + (69 + 1 + 6 + 1 + 1)), .ref (b0 + (69 + 1 + 6 + 1 + 1 + 1)), .ref (b0 + (69 + 1 + 6 + 1 + 1 + 1 + 1)), .ref (b0 + (69 + 1 + 6 + 1 + 1 + 1 + 1 + 1 + 10)), .ref (b0 + (69 + 1 + 6 + 1 + 1 + 1 + 1 + 1 + 10 + 1 + 4)), .null, zi 0, .null]) Ec_at Ec_put d_Quern_init_74 (fun H1 locs1 hP hS => ?_)
  refine lv_aload_n hx hb d_Quern_init_77 rfl (lv_at hl 0 rfl) ?_
  refine lv_iconst (v := 4) hx hb d_Quern_init_78 (by decide +kernel) ?_
  refine kr_newa (Z := Zc G ar b0 top) (N := 4) hx hb (hts _ karr) (hK.1.2 0 (_, .int) rfl).2 hb0 (by omega) hP hS (Ec_arr (N' := 4) (by decide) (by decide +kernel) rfl) (by decide +kernel) (by decide +kernel) (by decide) (Nat.le_of_ble_eq_true rfl) (Nat.le_of_ble_eq_true rfl) d_Quern_init_79 (fun H1 hP hS => ?_)
  refine kr_putF (Z := Zc G ar b0 top) hx hb hts i_Quern t_Quern t_Quern_ok n_Quern hown hin hK.1 hP hS 68 (by decide) Ec_at rfl 10 (by decide) kl_Quern_38 rfl rfl rfl rfl (Nat.le_of_ble_eq_true rfl) (Ec (Zc G ar b0 top) E 68 5 [zi 0, zi 0, .ref (b0 + (69)), .ref (b0 + (69 + 1 + 6)), .ref (b0 + (69 + 1 + 6 + 1)), .ref (b0 + (69 + 1 + 6 + 1 + 1)), .ref (b0 + (69 + 1 + 6 + 1 + 1 + 1)), .ref (b0 + (69 + 1 + 6 + 1 + 1 + 1 + 1)), .ref (b0 + (69 + 1 + 6 + 1 + 1 + 1 + 1 + 1 + 10)), .ref (b0 + (69 + 1 + 6 + 1 + 1 + 1 + 1 + 1 + 10 + 1 + 4)), .ref (b0 + (69 + 1 + 6 + 1 + 1 + 1 + 1 + 1 + 10 + 1 + 4 + 1)), zi 0, .null]) Ec_at Ec_put d_Quern_init_81 (fun H1 locs1 hP hS => ?_)
  refine lv_aload_n hx hb d_Quern_init_84 rfl (lv_at hl 0 rfl) ?_
  refine lv_bipush (v := 6) hx hb d_Quern_init_85 (by decide +kernel) ?_
  refine lv_bipush (v := 6) hx hb d_Quern_init_87 (by decide +kernel) ?_
  refine kr_mna (Z := Zc G ar b0 top) (N := 6) (K := 6) hx hb hown hts kcl_Quern_9 karr hO hK.1 hb0 (by omega) hP hS (by decide +kernel) (by decide +kernel) (by decide +kernel) (by decide +kernel) (by decide) (by decide) (Ec_row (N' := 6) (by decide) (by decide +kernel) rfl) (fun j hj => Ec_arr (N' := 6) (by omega) ((by decide +kernel : ∀ j, j < 6 → sh (((69 + 1 + 6 + 1 + 1 + 1 + 1 + 1 + 10 + 1 + 4 + 1 + 1 + 1 + j : Nat) : Int) + 1) = (0, 6)) j hj) rfl) (Nat.le_of_ble_eq_true rfl) (Nat.le_of_ble_eq_true rfl) d_Quern_init_89 (fun H1 locs1 hP hS => ?_)
  refine kr_putF (Z := Zc G ar b0 top) hx hb hts i_Quern t_Quern t_Quern_ok n_Quern hown hin hK.1 hP hS 68 (by decide) Ec_at rfl 12 (by decide) kl_Quern_41 rfl rfl rfl rfl (Nat.le_of_ble_eq_true rfl) (Ec (Zc G ar b0 top) E 68 5 [zi 0, zi 0, .ref (b0 + (69)), .ref (b0 + (69 + 1 + 6)), .ref (b0 + (69 + 1 + 6 + 1)), .ref (b0 + (69 + 1 + 6 + 1 + 1)), .ref (b0 + (69 + 1 + 6 + 1 + 1 + 1)), .ref (b0 + (69 + 1 + 6 + 1 + 1 + 1 + 1)), .ref (b0 + (69 + 1 + 6 + 1 + 1 + 1 + 1 + 1 + 10)), .ref (b0 + (69 + 1 + 6 + 1 + 1 + 1 + 1 + 1 + 10 + 1 + 4)), .ref (b0 + (69 + 1 + 6 + 1 + 1 + 1 + 1 + 1 + 10 + 1 + 4 + 1)), zi 0, .ref (b0 + (69 + 1 + 6 + 1 + 1 + 1 + 1 + 1 + 10 + 1 + 4 + 1 + 1))]) Ec_at Ec_put d_Quern_init_93 (fun H1 locs1 hP hS => ?_)
  rw [Ec_end (Z := Zc G ar b0 top) (E := E) (a := 68) (ci := 5) (fs := [zi 0, zi 0, .ref (b0 + (69)), .ref (b0 + (69 + 1 + 6)), .ref (b0 + (69 + 1 + 6 + 1)), .ref (b0 + (69 + 1 + 6 + 1 + 1)), .ref (b0 + (69 + 1 + 6 + 1 + 1 + 1)), .ref (b0 + (69 + 1 + 6 + 1 + 1 + 1 + 1)), .ref (b0 + (69 + 1 + 6 + 1 + 1 + 1 + 1 + 1 + 10)), .ref (b0 + (69 + 1 + 6 + 1 + 1 + 1 + 1 + 1 + 10 + 1 + 4)), .ref (b0 + (69 + 1 + 6 + 1 + 1 + 1 + 1 + 1 + 10 + 1 + 4 + 1)), zi 0, .ref (b0 + (69 + 1 + 6 + 1 + 1 + 1 + 1 + 1 + 10 + 1 + 4 + 1 + 1))]) (N := 13) (by decide +kernel) rfl] at hP
  exact W.vret hx hb hr (fun t ht hW => ⟨rfl, by rw [ht]; exact hP, hS.F ht⟩) hS.2.2 d_Quern_init_96 hlocks

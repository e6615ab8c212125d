theorem d_Law_law_0 : decode code 0 = .ok (.new 7, 3) := by decide +kernel
theorem d_Law_law_3 : decode code 3 = .ok (.dup, 1) := by decide +kernel
theorem d_Law_law_4 : decode code 4 = .ok (.invokespecial 9, 3) := by decide +kernel
theorem d_Law_law_7 : decode code 7 = .ok (.astore_n 1, 1) := by decide +kernel
theorem d_Law_law_8 : decode code 8 = .ok (.new 10, 3) := by decide +kernel
theorem d_Law_law_11 : decode code 11 = .ok (.dup, 1) := by decide +kernel
theorem d_Law_law_12 : decode code 12 = .ok (.invokespecial 12, 3) := by decide +kernel
theorem d_Law_law_15 : decode code 15 = .ok (.astore_n 2, 1) := by decide +kernel
theorem d_Law_law_16 : decode code 16 = .ok (.iconst 0, 1) := by decide +kernel
theorem d_Law_law_17 : decode code 17 = .ok (.istore_n 3, 1) := by decide +kernel
theorem kao_A : Cond.arrayOver (.array .int) ∈ lw_tbl := (List.mem_of_getElem? (i := 145) (by decide +kernel))
theorem kao_F : Cond.arrayOver (.object "QuernGrains$Finds") ∈ lw_tbl := (List.mem_of_getElem? (i := 168) (by decide +kernel))
/-- what the tables say of the classes and the array classes -/
theorem k_known {s : State} {args : Array Value} (hts : ∀ w ∈ lw_tbl, w.before args s = true) : ∃ (G : va_G) (ar : Nat → ClassId), (∀ b0 top, zK (Zc G ar b0 top) s) ∧ zO s := by
  have htz : ∀ w ∈ zT, w.before args s = true := fun w hw => hts w (List.mem_filter.mp hw).1
  obtain ⟨c0, i0, k0⟩ := u_known htz i_Text (htz _ kmake_Text)
  obtain ⟨c1, i1, k1⟩ := u_known htz i_Scribe (htz _ kmake_Scribe)
  obtain ⟨c2, i2, k2⟩ := u_known htz i_Books (htz _ kmake_Books)
  obtain ⟨c3, i3, k3⟩ := u_known htz i_Heap (htz _ kmake_Heap)
  obtain ⟨c4, i4, k4⟩ := u_known htz i_Finds (htz _ kmake_Finds)
  obtain ⟨c5, i5, k5⟩ := u_known htz i_Quern (htz _ kmake_Quern)
  obtain ⟨c6, i6, k6⟩ := u_known htz i_Main (htz _ kmake_Main)
  obtain ⟨c7, i7, k7⟩ := u_known htz i_Model (htz _ kmake_Model)
  obtain ⟨cI, kI, cmI, a1, a2, a3⟩ := Cond.arrayClass_spec (htz _ karr)
  obtain ⟨cmA, cA, kA, b1, b2, b3, b4, b5⟩ := arrayOverA_spec (hts _ kao_A)
  obtain ⟨cmF, cF, kF, f1, f2, f3, f4, f5⟩ := Cond.arrayOver_spec (hts _ kao_F)
  refine ⟨(fun k => match k with | 0 => c0 | 1 => c1 | 2 => c2 | 3 => c3 | 4 => c4 | 5 => c5 | 6 => c6 | _ => c7, fun k => match k with | 0 => i0 | 1 => i1 | 2 => i2 | 3 => i3 | 4 => i4 | 5 => i5 | 6 => i6 | _ => i7), (fun k => match k with | 0 => cI | 1 => cA | _ => cF), fun b0 top => ⟨⟨fun c q hq => ?_, fun k q hk => ?_⟩, fun w hw => va_Nw.of (z_nest_t w hw) (hts w (z_nest_in w hw))⟩, va_AO.of (hts _ kao_F), hts _ kao_A⟩
  · match c, hq with
    | 0, hq => cases hq; exact k0
    | 1, hq => cases hq; exact k1
    | 2, hq => cases hq; exact k2
    | 3, hq => cases hq; exact k3
    | 4, hq => cases hq; exact k4
    | 5, hq => cases hq; exact k5
    | 6, hq => cases hq; exact k6
    | 7, hq => cases hq; exact k7
    | n + 8, hq => cases hq
  · match k, hk with
    | 0, hk => cases hk; exact ⟨fun N z => ⟨(fun k h => by cases h), kI, a2, cmI, a3⟩, a1⟩
    | 1, hk => cases hk; exact ⟨fun N z => ⟨(fun k h => by cases h), kA, b3, cmA, b4⟩, b5⟩
    | 2, hk => cases hk; exact ⟨fun N z => ⟨(fun k h => by cases h), kF, f3, cmF, f4⟩, kF, cmF, f3, f4, f1, f5⟩
    | n + 3, hk => cases hk
set_option maxHeartbeats 8000000 in
theorem whole_start {p : Program} {e : Env} {s : State} {m : MethodId} {below : List Frame} {meth : Method} {c : Code} (l : Launch) (hflags : l.flags = flags0) {b L : Nat} {xs : Nat → Int32} (hL : L ≤ 3584) (C0 : lw_At p s m meth c b L xs) : W p l e room_1 s m #[Value.ref b] below meth c s.heap [] 0 0 (lw_Z below #[Value.ref b] s) (entryFrame m ([Value.ref b] : List Value).toArray 4) := by
  obtain ⟨hx, hb, hr, hml, hown, hts, hX, hbl, hlocks, hgv⟩ := C0
  have htz : ∀ w ∈ zT, w.before #[Value.ref b] s = true := fun w hw => hts w (List.mem_filter.mp hw).1
  obtain ⟨G, ar, hKa, hO⟩ := k_known hts
  obtain ⟨D1, hD1, hIv⟩ := iv_0
  generalize hbs : s.heap.size = b0
  have hb0 : b0 ≤ s.heap.size := by omega
  have hS : va_S (zA2 b0) s.heap s.heap [] := va_S.rf
  have hl := lv_entry ([.ref b]) (n := 4) (Nat.le_of_ble_eq_true rfl)
  rw [lg_entry_eq]
  generalize (lg_sl ([.ref b]) ++ List.replicate (4 - (lg_sl ([.ref b])).length) Slot.unset).toArray = ls at hl ⊢
  have hl : lv_has ls 4 [(0, .ref b)] := hl
  have hP : va_P G classes (wq b0 0 (fun _ => .inr (6, [.null, .null, .null, .null, .null, .null, zi 0, .null, .null]))) s.heap := fun k q h => by cases h
  refine kr_new (Z := Zc G ar b0 143) (n := 0) (ci := 6) (fs := [.null, .null, .null, .null, .null, .null, zi 0, .null, .null]) hx hb htz i_Main t_Main t_Main_ok hown kcl_Law_7 kmake_Main kini_Main (hKa b0 143).1 hb0 (by omega) hP hS rfl rfl (by decide +kernel) (Nat.le_of_ble_eq_true rfl) (Nat.le_of_ble_eq_true rfl) d_Law_law_0 (fun H1 hP hS => ?_)
  refine lv_dup hx hb d_Law_law_3 rfl ?_
  refine kr_initL (Z := Zc G ar b0 143) (n := 1) (n' := 143) (mc := 142) (ms := 1382) ⟨hx, hb, hml, hown, htz⟩ (hKa b0 143) hO (c_Main_init l G ar b0 _ rfl) km_Law_Main kinst_Main kini_Main kcode_Main ⟨by decide +kernel, by decide +kernel, by decide +kernel⟩ rfl rfl rfl ⟨Nat.le_of_ble_eq_true rfl, Nat.le_of_ble_eq_true rfl⟩ hb0 (by omega) hP hS hl.1 (Nat.le_of_ble_eq_true rfl) d_Law_law_4 ⟨Nat.le_of_ble_eq_true rfl, Nat.le_of_ble_eq_true rfl⟩ (fun H1 locs1 hP hS => ?_)
  refine lv_astore_n (lv' := [(1, .ref (b0 + 0)), (0, .ref b)]) hx hb d_Law_law_7 rfl hl (by decide) rfl (fun ls hl => ?_)
  rw [Et_lt (i := 143) (ci := 7) (ns := [zi 0, .null, .null, .null, .null, .null, .null, .null, .null, .null, .null, .null, .null, .null, .null, .null, .null, .null, .null, zi 0, zi 0, .null, .null, .null, .null])] at hP
  refine kr_new (Z := Zc G ar b0 143) (n := 143) (ci := 7) (fs := [zi 0, .null, .null, .null, .null, .null, .null, .null, .null, .null, .null, .null, .null, .null, .null, .null, .null, .null, .null, zi 0, zi 0, .null, .null, .null, .null]) hx hb htz i_Model t_Model t_Model_ok hown kcl_Law_10 kmake_Model kini_Model (hKa b0 143).1 hb0 (by omega) hP hS rfl Et_at (by decide +kernel) (Nat.le_of_ble_eq_true rfl) (Nat.le_of_ble_eq_true rfl) d_Law_law_8 (fun H1 hP hS => ?_)
  refine lv_dup hx hb d_Law_law_11 rfl ?_
  refine kr_initL (Z := Zc G ar b0 166) (n := 144) (n' := 166) (mc := 22) (ms := 1235) ⟨hx, hb, hml, hown, htz⟩ (hKa b0 166) hO (c_Model_init l G ar b0 _ Et_at (fun k hk => by unfold Et; rw [if_neg (by omega)]; rfl) D1 hD1) km_Law_Model kinst_Model kini_Model kcode_Model ⟨by decide +kernel, by decide +kernel, by decide +kernel⟩ rfl rfl rfl ⟨Nat.le_of_ble_eq_true rfl, Nat.le_of_ble_eq_true rfl⟩ hb0 (by omega) hP hS hl.1 (Nat.le_of_ble_eq_true rfl) d_Law_law_12 ⟨Nat.le_of_ble_eq_true rfl, Nat.le_of_ble_eq_true rfl⟩ (fun H1 locs1 hP hS => ?_)
  refine lv_astore_n (lv' := [(2, .ref (b0 + 143)), (1, .ref (b0 + 0)), (0, .ref b)]) hx hb d_Law_law_15 rfl hl (by decide) rfl (fun ls hl => ?_)
  refine lv_iconst (v := zI 0) hx hb d_Law_law_16 rfl ?_
  refine lv_istore_n (lv' := [(3, .int (zI 0)), (2, .ref (b0 + 143)), (1, .ref (b0 + 0)), (0, .ref b)]) hx hb d_Law_law_17 rfl hl (by decide) rfl (fun ls hl => ?_)
  have hD : Wd (Zc G ar b0 166) (mF D1) H1 := by
    unfold Wd
    have ew : wl (Zc G ar b0 166) (mF D1) = wq b0 166 (fun k => em (Zc G ar b0 166) (mF D1) ((k : Int) + 1) (sh ((k : Int) + 1))) := wl_wq (n := 166)
    rw [ew]
    exact hP
  have hl2 : lv_has ls 4 [(0, Value.ref b), (1, zr (Zc G ar b0 166) 1), (2, zr (Zc G ar b0 166) 144), (3, zi 0)] := lv_sub hl [3, 2, 1, 0] rfl
  have X : Cx (p, l, e, room_1, s, m, #[Value.ref b], below, meth, c, 166, 2651) (Zc G ar b0 166) code R_law 4 (some .boolean) room_1 := ⟨hx, hb, hml, hown, htz, hKa b0 166, hlocks, Zc_ok, hr, rfl, Nat.le_of_ble_eq_true rfl, Nat.le_of_ble_eq_true rfl⟩
  have hLx : Lx (p, l, e, room_1, s, m, #[Value.ref b], below, meth, c, 166, 2651) (Zc G ar b0 166) b L xs := ⟨hX, hbl, fun h => by have h : b0 ≤ b := h; omega, hL, rfl, by show s.heap.size ≤ b0; omega⟩
  exact v_Law_law_18 X (Int.le_refl _) hLx zF 0 (mF D1) () (e_law hL ((L : Int) - 0).toNat zF 0 (mF D1) (Nat.le_refl _) (zF_pos (by omega)) (by decide) (by decide) hIv) H1 _ ls hD hS hl2

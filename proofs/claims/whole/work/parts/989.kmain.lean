/-- the class's object under construction: the object itself at 0, the row of kept finds at 30 -/
def Eg (Z : Zt) (fs : List Value) (f : Nat → Option Nat) : Nat → va_E := fun k => if k = 0 then .inr (6, fs) else if k = 30 then .inl (Z.2.1 2, 2, .inr (.inr (.inr (.inr f)))) else em Z m0 ((k : Int) + 1) (sh ((k : Int) + 1))
def Et (E : Nat → va_E) (i ci : Nat) (ns : List Value) : Nat → va_E := fun k => if k = i then .inr (ci, ns) else E k
theorem Et_at {E : Nat → va_E} {i ci : Nat} {ns : List Value} : Et E i ci ns i = .inr (ci, ns) := if_pos rfl
theorem Et_lt {E : Nat → va_E} {b0 i ci : Nat} {ns : List Value} : wq b0 i E = wq b0 i (Et E i ci ns) := by
  refine (wq_cong (fun j hj => ?_)).symm
  unfold Et
  rw [if_neg (by omega)]
theorem Et_back {Z : Zt} {b0 i ci n : Nat} {ns fs : List Value} {f : Nat → Option Nat} (h0 : 0 < i) (h : i ≤ 30 → n ≤ 30) (h30 : i ≠ 30) : wq b0 n (Ef Z (Et (Eg Z fs f) i ci ns) i) = wq b0 n (Eg Z fs f) := by
  refine wq_cong (fun j hj => ?_)
  unfold Ef Et Eg
  by_cases c : i ≤ j
  · rw [if_pos c, if_neg (by omega), if_neg (by omega)]
  · rw [if_neg c, if_neg (by omega)]
theorem Eg_0 {Z : Zt} {fs : List Value} {f : Nat → Option Nat} : Eg Z fs f 0 = .inr (6, fs) := if_pos rfl
theorem Eg_30 {Z : Zt} {fs : List Value} {f : Nat → Option Nat} : Eg Z fs f 30 = .inl (Z.2.1 2, 2, .inr (.inr (.inr (.inr f)))) := by
  unfold Eg
  rw [if_neg (by decide), if_pos rfl]
theorem Eg_put {Z : Zt} {fs fs' : List Value} {f : Nat → Option Nat} {n : Nat} : ∀ j, j < n → j ≠ 0 → Eg Z fs' f j = Eg Z fs f j := by
  intro j _ hj
  unfold Eg
  rw [if_neg hj, if_neg hj]
theorem Eg_kept {Z : Zt} {fs : List Value} {f f' : Nat → Option Nat} {n : Nat} : ∀ j, j < n → j ≠ 30 → Eg Z fs f' j = Eg Z fs f j := by
  intro j _ hj
  unfold Eg
  rw [if_neg hj, if_neg hj]
theorem Eg_obj {Z : Zt} {fs : List Value} {f : Nat → Option Nat} {k ci : Nat} {N : Int} (h0 : k ≠ 0) (h30 : k ≠ 30) (hs : sh ((k : Int) + 1) = (10 + ci, N)) : Eg Z fs f k = .inr (ci, fl ci Z m0 ((k : Int) + 1)) := by
  unfold Eg
  rw [if_neg h0, if_neg h30, hs, em_obj]
theorem wl_wq {G : va_G} {ar : Nat → ClassId} {b0 n : Nat} {D : Mm} : wl (Zc G ar b0 (n : Int)) D = wq b0 n (fun k => em (Zc G ar b0 (n : Int)) D ((k : Int) + 1) (sh ((k : Int) + 1))) := by
  unfold wl wq
  show (List.range ((n : Int)).toNat).map _ = _
  rw [Int.toNat_natCast]
  apply List.map_congr_left
  intro k _
  have e : ((k : Int) + 1 - 1).toNat = k := by omega
  show (b0 + ((k : Int) + 1 - 1).toNat, _) = _
  rw [e]
theorem Zc_ok {G : va_G} {ar : Nat → ClassId} {b0 : Nat} {top : Int} : Zok (Zc G ar b0 top) := by
  refine ⟨fun a b a0 a1 b1 b2 h => ?_, fun a a0 a1 => ?_⟩
  · have h : b0 + (a - 1).toNat = b0 + (b - 1).toNat := h
    omega
  · show b0 ≤ b0 + (a - 1).toNat
    omega
def mA : Mm := stm (stm m0 1 7 32) 1 8 69
/-- all is made: the world of the layer -/
theorem Eg_end {G : va_G} {ar : Nat → ClassId} {b0 : Nat} {H : Heap} {f : Nat → Option Nat} {fs : List Value} (hf0 : f 0 = some (b0 + 105)) (hf1 : f 1 = some (b0 + 124)) (hfs : fl 6 (Zc G ar b0 143) mA 1 = fs) (hP : va_P G classes (wq b0 143 (Eg (Zc G ar b0 143) fs f)) H) : Wd (Zc G ar b0 143) mA H := by
  unfold Wd
  have ew : wl (Zc G ar b0 143) mA = wq b0 143 (fun k => em (Zc G ar b0 143) mA ((k : Int) + 1) (sh ((k : Int) + 1))) := wl_wq (n := 143)
  rw [ew]
  intro k q hk
  obtain ⟨hk1, rfl⟩ := wq_get hk
  have h := hP k _ (wq_at hk1)
  show va_at _ _ (b0 + k, em (Zc G ar b0 143) mA ((k : Int) + 1) (sh ((k : Int) + 1))) H
  by_cases c0 : k = 0
  · subst c0
    rw [show sh (((0 : Nat) : Int) + 1) = (10 + 6, 9) by decide +kernel, em_obj]
    rw [Eg_0, ← hfs] at h
    exact h
  · by_cases c1 : k = 30
    · subst c1
      rw [show sh (((30 : Nat) : Int) + 1) = (2, 2) by decide +kernel, em_fnd]
      rw [Eg_30] at h
      show H[b0 + 30]? = some (vp_cell _ _)
      have h : H[b0 + 30]? = some (vp_cell ((Zc G ar b0 143).2.1 2) (2, .inr (.inr (.inr (.inr f))))) := h
      rw [h, vp_cell_q, vp_cell_q]
      unfold arrV
      congr 2
      apply Array.ext
      · simp
      · intro i h1 h2
        have hi : i < 2 := by simpa using h1
        simp only [Array.getElem_ofFn]
        rcases (show i = 0 ∨ i = 1 by omega) with e | e
        · subst e
          rw [hf0]
          rfl
        · subst e
          rw [hf1]
          rfl
    · have e2 : Eg (Zc G ar b0 143) fs f k = em (Zc G ar b0 143) mA ((k : Int) + 1) (sh ((k : Int) + 1)) := by
        unfold Eg mA
        rw [if_neg c0, if_neg c1, em_oth (by omega), em_oth (by omega)]
      rw [e2] at h
      exact h

theorem mk_Main_58 : zVt "QuernGrains" 58 y_Quern_beAsAtFirst prog_6_method_3_code 1 none 0 := ⟨zT_in (List.mem_of_getElem? (i := 227) (by decide +kernel)) (by decide +kernel), zT_in (List.mem_of_getElem? (i := 228) (by decide +kernel)) (by decide +kernel), zT_in (List.mem_of_getElem? (i := 229) (by decide +kernel)) (by decide +kernel), zT_in (List.mem_of_getElem? (i := 56) (by decide +kernel)) (by decide +kernel), zT_in (List.mem_of_getElem? (i := 230) (by decide +kernel)) (by decide +kernel), ⟨by decide +kernel, by decide +kernel, by decide +kernel⟩⟩
def rm_Main_init : Room := { frames := 2, cells := 142, slots := 1382, locals := 32 }
def mB : Mm := stm (stm (stm (stm mA 34 0 100) 32 0 1) 42 0 1) 32 1 1
/-- the end of Main's constructor: laid.beAsAtFirst() -/
theorem k_tail (l : Launch) {G : va_G} {ar : Nat → ClassId} {b0 : Nat} {Γ : Gt} (hΓ : Γ.2.1 = l) (X : Cx Γ (Zc G ar b0 143) prog_1_method_1_code R_Main 2 none rm_Main_init) (H : Heap) (locs : List Loc) (ls : Array Slot) (hD : Wd (Zc G ar b0 143) mA H) (hS : va_S (zA2 b0) Γ.2.2.2.2.1.heap H locs) (hl : lv_has ls 2 [(1, .int 2), (0, .ref (b0 + 0))]) : zW Γ H locs (MQ Γ.2.2.2.2.2.2.2.1 (Qk (Zc G ar b0 143) b0 143 (fun k => em (Zc G ar b0 143) mB ((k : Int) + 1) (sh ((k : Int) + 1)))) Γ.2.2.2.2.2.2.1 Γ.2.2.2.2.1 Γ.2.2.2.2.2.2.2.2.2.2.1 Γ.2.2.2.2.2.2.2.2.2.2.2 (zA2 b0)) 115 ls [] := by
  have hN : 143 ≤ (Zc G ar b0 143).2.2.2.1 := Int.le_refl _
  have key : Zv Γ (Zc G ar b0 143) 2 (fun x => MQ Γ.2.2.2.2.2.2.2.1 (Qk (Zc G ar b0 143) b0 143 (fun k => em (Zc G ar b0 143) x.2 ((k : Int) + 1) (sh ((k : Int) + 1)))) Γ.2.2.2.2.2.2.1 Γ.2.2.2.2.1 Γ.2.2.2.2.2.2.2.2.2.2.1 Γ.2.2.2.2.2.2.2.2.2.2.2 (zA2 b0)) (zb (f_Quern_beAsAtFirst 32 mA) fun r D1 => some (r, D1)) mA 115 [(1, .int 2), (0, .ref (b0 + 0))] [] := by
    refine zv_aload_n (x := 1) X d_Main_init_115 rfl 1 rfl ?_
    refine zv_get X (ci := 6) rfl i_Main (za_1 hN) 7 (by decide) kl_Main_51 rfl (v := zr (Zc G ar b0 143) 32) rfl d_Main_init_116 ?_
    refine zv_cVM0 X (av := []) (st := []) (ci := 5) (c_Quern_beAsAtFirst Γ.2.1 X.2.2.2.2.2.2.2.1 hN 32 (Or.inl rfl) mA) mk_Main_58 rfl (zq_0 hN (Or.inl rfl)) ⟨rfl, rfl, Nat.le_of_ble_eq_true rfl, Nat.le_of_ble_eq_true rfl⟩ rfl (Nat.le_of_ble_eq_true rfl) d_Main_init_119 (fun r D1 _ => ?_)
    intro x hx H locs ls hw hs hl
    cases hx
    have ew : wl (Zc G ar b0 143) D1 = wq b0 143 (fun k => em (Zc G ar b0 143) D1 ((k : Int) + 1) (sh ((k : Int) + 1))) := wl_wq (n := 143)
    unfold Wd at hw
    rw [ew] at hw
    exact W.vret X.1 X.2.1 X.2.2.2.2.2.2.2.2.1 (fun t ht hW => ⟨rfl, by rw [ht]; exact hw, hs.F ht⟩) hs.2.2 d_Main_init_122 X.2.2.2.2.2.2.1
  exact key (0, mB) rfl H locs ls hD hS hl
set_option maxHeartbeats 8000000 in
theorem c_Main_init (l : Launch) (G : va_G) (ar : Nat → ClassId) (b0 : Nat) (E : Nat → va_E) (hE : E 0 = .inr (6, [.null, .null, .null, .null, .null, .null, zi 0, .null, .null])) : CtK l (Zc G ar b0 143) b0 y_Main_init prog_1_method_1_code 2 rm_Main_init [.ref (b0 + 0)] 1 E 143 (fun k => em (Zc G ar b0 143) mB ((k : Int) + 1) (sh ((k : Int) + 1))) 142 1382 := by
  refine km (cc := prog_1_method_1_code) (own := R_Main) (lv := [(0, .ref (b0 + 0))]) (by decide +kernel) rfl rfl (Nat.le_of_ble_eq_true rfl) rfl (fun p e s m args below meth c ls K hsz hP hl => ?_)
  obtain ⟨hx, hb, hml, hown, hts, hK, hO, hlocks, hr, hin⟩ := K
  have hS : va_S (zA2 b0) s.heap s.heap [] := va_S.rf
  have hb0 : b0 ≤ s.heap.size := by omega
  replace hP : va_P G classes (wq b0 1 (Eg (Zc G ar b0 143) [.null, .null, .null, .null, .null, .null, zi 0, .null, .null] (fun _ => none))) s.heap := by
    rw [wq_cong (E := E) (fun j hj => by rw [show j = 0 by omega, Eg_0, hE])]
    exact hP
  refine lv_aload_n hx hb d_Main_init_0 rfl (lv_at hl 0 rfl) ?_
  refine W.objInit hx hb hown (hts _ kob_Main) (hts _ ko_inst) (hts _ ko_code) rfl (by rw [hml]; exact hl.1) rfl d_Main_init_1 (Nat.le_of_ble_eq_true rfl) (Nat.le_of_ble_eq_true rfl) ?_
  refine W.eq (g2 := F0 m 4 ls []) rfl ?_
  refine lv_aload_n hx hb d_Main_init_4 rfl (lv_at hl 0 rfl) ?_
  rw [Et_lt (E := Eg (Zc G ar b0 143) [.null, .null, .null, .null, .null, .null, zi 0, .null, .null] (fun _ => none)) (i := 1) (ci := 0) (ns := [.null, zi 0])] at hP
  refine kr_new (Z := Zc G ar b0 143) (n := 1) (ci := 0) (fs := [.null, zi 0]) hx hb hts i_Text t_Text t_Text_ok hown kcl_Main_7 kmake_Text kini_Text hK.1 hb0 (by omega) hP hS rfl Et_at (by decide +kernel) (Nat.le_of_ble_eq_true rfl) (Nat.le_of_ble_eq_true rfl) d_Main_init_5 (fun H1 hP hS => ?_)
  refine lv_dup hx hb d_Main_init_8 rfl ?_
  refine kr_initN (Z := Zc G ar b0 143) (n := 2) (n' := 3) (mc := 1) (ms := 500) ⟨hx, hb, hml, hown, hts⟩ hK hO (c_Text_init_1 l G ar b0 143 _ Et_at) kn_Main_9 kinst_Text kini_Text kcode_Text ⟨by decide +kernel, by decide +kernel, by decide +kernel⟩ rfl rfl rfl ⟨Nat.le_of_ble_eq_true rfl, Nat.le_of_ble_eq_true rfl⟩ hb0 (by omega) hP hS hl.1 (Nat.le_of_ble_eq_true rfl) d_Main_init_9 ⟨Nat.le_of_ble_eq_true rfl, Nat.le_of_ble_eq_true rfl⟩ (fun H1 locs1 hP hS => ?_)
  rw [Et_back (by decide) (by decide) (by decide)] at hP
  refine kr_putF (Z := Zc G ar b0 143) (n := 3) hx hb hts i_Main t_Main t_Main_ok n_Main hown hin hK.1 hP hS 0 (by decide) Eg_0 rfl 0 (by decide) kl_Main_10 rfl rfl rfl rfl (Nat.le_of_ble_eq_true rfl) (Eg (Zc G ar b0 143) [.ref (b0 + 1), .null, .null, .null, .null, .null, zi 0, .null, .null] (fun _ => none)) Eg_0 Eg_put d_Main_init_12 (fun H1 locs1 hP hS => ?_)
  refine lv_aload_n hx hb d_Main_init_15 rfl (lv_at hl 0 rfl) ?_
  rw [Et_lt (E := Eg (Zc G ar b0 143) [.ref (b0 + 1), .null, .null, .null, .null, .null, zi 0, .null, .null] (fun _ => none)) (i := 3) (ci := 1) (ns := [.null])] at hP
  refine kr_new (Z := Zc G ar b0 143) (n := 3) (ci := 1) (fs := [.null]) hx hb hts i_Scribe t_Scribe t_Scribe_ok hown kcl_Main_16 kmake_Scribe kini_Scribe hK.1 hb0 (by omega) hP hS rfl Et_at (by decide +kernel) (Nat.le_of_ble_eq_true rfl) (Nat.le_of_ble_eq_true rfl) d_Main_init_16 (fun H1 hP hS => ?_)
  refine lv_dup hx hb d_Main_init_19 rfl ?_
  refine kr_initN (Z := Zc G ar b0 143) (n := 4) (n' := 5) (mc := 1) (ms := 4) ⟨hx, hb, hml, hown, hts⟩ hK hO (c_Scribe_init_3 l G ar b0 143 _ Et_at) kn_Main_18 kinst_Scribe kini_Scribe kcode_Scribe ⟨by decide +kernel, by decide +kernel, by decide +kernel⟩ rfl rfl rfl ⟨Nat.le_of_ble_eq_true rfl, Nat.le_of_ble_eq_true rfl⟩ hb0 (by omega) hP hS hl.1 (Nat.le_of_ble_eq_true rfl) d_Main_init_20 ⟨Nat.le_of_ble_eq_true rfl, Nat.le_of_ble_eq_true rfl⟩ (fun H1 locs1 hP hS => ?_)
  rw [Et_back (by decide) (by decide) (by decide)] at hP
  refine kr_putF (Z := Zc G ar b0 143) (n := 5) hx hb hts i_Main t_Main t_Main_ok n_Main hown hin hK.1 hP hS 0 (by decide) Eg_0 rfl 1 (by decide) kl_Main_19 rfl rfl rfl rfl (Nat.le_of_ble_eq_true rfl) (Eg (Zc G ar b0 143) [.ref (b0 + 1), .ref (b0 + 3), .null, .null, .null, .null, zi 0, .null, .null] (fun _ => none)) Eg_0 Eg_put d_Main_init_23 (fun H1 locs1 hP hS => ?_)
  refine lv_aload_n hx hb d_Main_init_26 rfl (lv_at hl 0 rfl) ?_
  rw [Et_lt (E := Eg (Zc G ar b0 143) [.ref (b0 + 1), .ref (b0 + 3), .null, .null, .null, .null, zi 0, .null, .null] (fun _ => none)) (i := 5) (ci := 2) (ns := [.null, .null, .null, zi 0, zi 0, zi 0, zi 0])] at hP
  refine kr_new (Z := Zc G ar b0 143) (n := 5) (ci := 2) (fs := [.null, .null, .null, zi 0, zi 0, zi 0, zi 0]) hx hb hts i_Books t_Books t_Books_ok hown kcl_Main_23 kmake_Books kini_Books hK.1 hb0 (by omega) hP hS rfl Et_at (by decide +kernel) (Nat.le_of_ble_eq_true rfl) (Nat.le_of_ble_eq_true rfl) d_Main_init_27 (fun H1 hP hS => ?_)
  refine lv_dup hx hb d_Main_init_30 rfl ?_
  refine kr_initN (Z := Zc G ar b0 143) (n := 6) (n' := 9) (mc := 3) (ms := 48) ⟨hx, hb, hml, hown, hts⟩ hK hO (c_Books_init_5 l G ar b0 143 _ Et_at) kn_Main_25 kinst_Books kini_Books kcode_Books ⟨by decide +kernel, by decide +kernel, by decide +kernel⟩ rfl rfl rfl ⟨Nat.le_of_ble_eq_true rfl, Nat.le_of_ble_eq_true rfl⟩ hb0 (by omega) hP hS hl.1 (Nat.le_of_ble_eq_true rfl) d_Main_init_31 ⟨Nat.le_of_ble_eq_true rfl, Nat.le_of_ble_eq_true rfl⟩ (fun H1 locs1 hP hS => ?_)
  rw [Et_back (by decide) (by decide) (by decide)] at hP
  refine kr_putF (Z := Zc G ar b0 143) (n := 9) hx hb hts i_Main t_Main t_Main_ok n_Main hown hin hK.1 hP hS 0 (by decide) Eg_0 rfl 2 (by decide) kl_Main_26 rfl rfl rfl rfl (Nat.le_of_ble_eq_true rfl) (Eg (Zc G ar b0 143) [.ref (b0 + 1), .ref (b0 + 3), .ref (b0 + 5), .null, .null, .null, zi 0, .null, .null] (fun _ => none)) Eg_0 Eg_put d_Main_init_34 (fun H1 locs1 hP hS => ?_)
  refine lv_aload_n hx hb d_Main_init_37 rfl (lv_at hl 0 rfl) ?_
  rw [Et_lt (E := Eg (Zc G ar b0 143) [.ref (b0 + 1), .ref (b0 + 3), .ref (b0 + 5), .null, .null, .null, zi 0, .null, .null] (fun _ => none)) (i := 9) (ci := 3) (ns := [.null])] at hP
  refine kr_new (Z := Zc G ar b0 143) (n := 9) (ci := 3) (fs := [.null]) hx hb hts i_Heap t_Heap t_Heap_ok hown kcl_Main_30 kmake_Heap kini_Heap hK.1 hb0 (by omega) hP hS rfl Et_at (by decide +kernel) (Nat.le_of_ble_eq_true rfl) (Nat.le_of_ble_eq_true rfl) d_Main_init_38 (fun H1 hP hS => ?_)
  refine lv_dup hx hb d_Main_init_41 rfl ?_
  refine kr_initN (Z := Zc G ar b0 143) (n := 10) (n' := 11) (mc := 1) (ms := 4) ⟨hx, hb, hml, hown, hts⟩ hK hO (c_Heap_init_9 l G ar b0 143 _ Et_at) kn_Main_32 kinst_Heap kini_Heap kcode_Heap ⟨by decide +kernel, by decide +kernel, by decide +kernel⟩ rfl rfl rfl ⟨Nat.le_of_ble_eq_true rfl, Nat.le_of_ble_eq_true rfl⟩ hb0 (by omega) hP hS hl.1 (Nat.le_of_ble_eq_true rfl) d_Main_init_42 ⟨Nat.le_of_ble_eq_true rfl, Nat.le_of_ble_eq_true rfl⟩ (fun H1 locs1 hP hS => ?_)
  rw [Et_back (by decide) (by decide) (by decide)] at hP
  refine kr_putF (Z := Zc G ar b0 143) (n := 11) hx hb hts i_Main t_Main t_Main_ok n_Main hown hin hK.1 hP hS 0 (by decide) Eg_0 rfl 3 (by decide) kl_Main_33 rfl rfl rfl rfl (Nat.le_of_ble_eq_true rfl) (Eg (Zc G ar b0 143) [.ref (b0 + 1), .ref (b0 + 3), .ref (b0 + 5), .ref (b0 + 9), .null, .null, zi 0, .null, .null] (fun _ => none)) Eg_0 Eg_put d_Main_init_45 (fun H1 locs1 hP hS => ?_)
  refine lv_aload_n hx hb d_Main_init_48 rfl (lv_at hl 0 rfl) ?_
  rw [Et_lt (E := Eg (Zc G ar b0 143) [.ref (b0 + 1), .ref (b0 + 3), .ref (b0 + 5), .ref (b0 + 9), .null, .null, zi 0, .null, .null] (fun _ => none)) (i := 11) (ci := 4) (ns := [.null, .null, zi 0, zi 0, zi 0])] at hP
  refine kr_new (Z := Zc G ar b0 143) (n := 11) (ci := 4) (fs := [.null, .null, zi 0, zi 0, zi 0]) hx hb hts i_Finds t_Finds t_Finds_ok hown kcl_Main_37 kmake_Finds kini_Finds hK.1 hb0 (by omega) hP hS rfl Et_at (by decide +kernel) (Nat.le_of_ble_eq_true rfl) (Nat.le_of_ble_eq_true rfl) d_Main_init_49 (fun H1 hP hS => ?_)
  refine lv_dup hx hb d_Main_init_52 rfl ?_
  refine kr_initN (Z := Zc G ar b0 143) (n := 12) (n' := 30) (mc := 18) (ms := 112) ⟨hx, hb, hml, hown, hts⟩ hK hO (c_Finds_init_11 l G ar b0 143 _ Et_at) kn_Main_39 kinst_Finds kini_Finds kcode_Finds ⟨by decide +kernel, by decide +kernel, by decide +kernel⟩ rfl rfl rfl ⟨Nat.le_of_ble_eq_true rfl, Nat.le_of_ble_eq_true rfl⟩ hb0 (by omega) hP hS hl.1 (Nat.le_of_ble_eq_true rfl) d_Main_init_53 ⟨Nat.le_of_ble_eq_true rfl, Nat.le_of_ble_eq_true rfl⟩ (fun H1 locs1 hP hS => ?_)
  rw [Et_back (by decide) (by decide) (by decide)] at hP
  refine kr_putF (Z := Zc G ar b0 143) (n := 30) hx hb hts i_Main t_Main t_Main_ok n_Main hown hin hK.1 hP hS 0 (by decide) Eg_0 rfl 4 (by decide) kl_Main_40 rfl rfl rfl rfl (Nat.le_of_ble_eq_true rfl) (Eg (Zc G ar b0 143) [.ref (b0 + 1), .ref (b0 + 3), .ref (b0 + 5), .ref (b0 + 9), .ref (b0 + 11), .null, zi 0, .null, .null] (fun _ => none)) Eg_0 Eg_put d_Main_init_56 (fun H1 locs1 hP hS => ?_)
  refine lv_aload_n hx hb d_Main_init_59 rfl (lv_at hl 0 rfl) ?_
  refine lv_iconst (v := 2) hx hb d_Main_init_60 (by decide +kernel) ?_
  refine kr_newq (Z := Zc G ar b0 143) (n := 30) (N := 2) hx hb hown hts kcl_Main_37 hO hK.1 hb0 (by omega) hP hS Eg_30 (by decide +kernel) (by decide +kernel) (by decide) (Nat.le_of_ble_eq_true rfl) (Nat.le_of_ble_eq_true rfl) d_Main_init_61 (fun H1 hP hS => ?_)
  refine kr_putF (Z := Zc G ar b0 143) (n := 31) hx hb hts i_Main t_Main t_Main_ok n_Main hown hin hK.1 hP hS 0 (by decide) Eg_0 rfl 5 (by decide) kl_Main_44 rfl rfl rfl rfl (Nat.le_of_ble_eq_true rfl) (Eg (Zc G ar b0 143) [.ref (b0 + 1), .ref (b0 + 3), .ref (b0 + 5), .ref (b0 + 9), .ref (b0 + 11), .ref (b0 + 30), zi 0, .null, .null] (fun _ => none)) Eg_0 Eg_put d_Main_init_64 (fun H1 locs1 hP hS => ?_)
  refine lv_aload_n hx hb d_Main_init_67 rfl (lv_at hl 0 rfl) ?_
  rw [Et_lt (E := Eg (Zc G ar b0 143) [.ref (b0 + 1), .ref (b0 + 3), .ref (b0 + 5), .ref (b0 + 9), .ref (b0 + 11), .ref (b0 + 30), zi 0, .null, .null] (fun _ => none)) (i := 31) (ci := 5) (ns := [zi 0, zi 0, .null, .null, .null, .null, .null, .null, .null, .null, .null, zi 0, .null])] at hP
  refine kr_new (Z := Zc G ar b0 143) (n := 31) (ci := 5) (fs := [zi 0, zi 0, .null, .null, .null, .null, .null, .null, .null, .null, .null, zi 0, .null]) hx hb hts i_Quern t_Quern t_Quern_ok hown kcl_Main_48 kmake_Quern kini_Quern hK.1 hb0 (by omega) hP hS rfl Et_at (by decide +kernel) (Nat.le_of_ble_eq_true rfl) (Nat.le_of_ble_eq_true rfl) d_Main_init_68 (fun H1 hP hS => ?_)
  refine lv_dup hx hb d_Main_init_71 rfl ?_
  refine kr_initN (Z := Zc G ar b0 143) (n := 32) (n' := 68) (mc := 36) (ms := 218) ⟨hx, hb, hml, hown, hts⟩ hK hO (c_Quern_init_31 l G ar b0 143 _ Et_at) kn_Main_50 kinst_Quern kini_Quern kcode_Quern ⟨by decide +kernel, by decide +kernel, by decide +kernel⟩ rfl rfl rfl ⟨Nat.le_of_ble_eq_true rfl, Nat.le_of_ble_eq_true rfl⟩ hb0 (by omega) hP hS hl.1 (Nat.le_of_ble_eq_true rfl) d_Main_init_72 ⟨Nat.le_of_ble_eq_true rfl, Nat.le_of_ble_eq_true rfl⟩ (fun H1 locs1 hP hS => ?_)
  rw [Et_back (by decide) (by decide) (by decide)] at hP
  refine kr_put (Z := Zc G ar b0 143) (n := 68) hx hb hts i_Main t_Main t_Main_ok n_Main hown hK.1 hP hS 0 (by decide) Eg_0 rfl 7 (by decide) kl_Main_51 rfl rfl rfl rfl (Nat.le_of_ble_eq_true rfl) (Eg (Zc G ar b0 143) [.ref (b0 + 1), .ref (b0 + 3), .ref (b0 + 5), .ref (b0 + 9), .ref (b0 + 11), .ref (b0 + 30), zi 0, .ref (b0 + 31), .null] (fun _ => none)) Eg_0 Eg_put d_Main_init_75 (fun H1 locs1 hP hS => ?_)
  refine lv_aload_n hx hb d_Main_init_78 rfl (lv_at hl 0 rfl) ?_
  rw [Et_lt (E := Eg (Zc G ar b0 143) [.ref (b0 + 1), .ref (b0 + 3), .ref (b0 + 5), .ref (b0 + 9), .ref (b0 + 11), .ref (b0 + 30), zi 0, .ref (b0 + 31), .null] (fun _ => none)) (i := 68) (ci := 5) (ns := [zi 0, zi 0, .null, .null, .null, .null, .null, .null, .null, .null, .null, zi 0, .null])] at hP
  refine kr_new (Z := Zc G ar b0 143) (n := 68) (ci := 5) (fs := [zi 0, zi 0, .null, .null, .null, .null, .null, .null, .null, .null, .null, zi 0, .null]) hx hb hts i_Quern t_Quern t_Quern_ok hown kcl_Main_48 kmake_Quern kini_Quern hK.1 hb0 (by omega) hP hS rfl Et_at (by decide +kernel) (Nat.le_of_ble_eq_true rfl) (Nat.le_of_ble_eq_true rfl) d_Main_init_79 (fun H1 hP hS => ?_)
  refine lv_dup hx hb d_Main_init_82 rfl ?_
  refine kr_initN (Z := Zc G ar b0 143) (n := 69) (n' := 105) (mc := 36) (ms := 218) ⟨hx, hb, hml, hown, hts⟩ hK hO (c_Quern_init_68 l G ar b0 143 _ Et_at) kn_Main_50 kinst_Quern kini_Quern kcode_Quern ⟨by decide +kernel, by decide +kernel, by decide +kernel⟩ rfl rfl rfl ⟨Nat.le_of_ble_eq_true rfl, Nat.le_of_ble_eq_true rfl⟩ hb0 (by omega) hP hS hl.1 (Nat.le_of_ble_eq_true rfl) d_Main_init_83 ⟨Nat.le_of_ble_eq_true rfl, Nat.le_of_ble_eq_true rfl⟩ (fun H1 locs1 hP hS => ?_)
  rw [Et_back (by decide) (by decide) (by decide)] at hP
  refine kr_put (Z := Zc G ar b0 143) (n := 105) hx hb hts i_Main t_Main t_Main_ok n_Main hown hK.1 hP hS 0 (by decide) Eg_0 rfl 8 (by decide) kl_Main_55 rfl rfl rfl rfl (Nat.le_of_ble_eq_true rfl) (Eg (Zc G ar b0 143) [.ref (b0 + 1), .ref (b0 + 3), .ref (b0 + 5), .ref (b0 + 9), .ref (b0 + 11), .ref (b0 + 30), zi 0, .ref (b0 + 31), .ref (b0 + 68)] (fun _ => none)) Eg_0 Eg_put d_Main_init_86 (fun H1 locs1 hP hS => ?_)
  refine lv_iconst (v := 0) hx hb d_Main_init_89 (by decide +kernel) ?_
  refine lv_istore_n (lv' := [(1, .int 0), (0, .ref (b0 + 0))]) hx hb d_Main_init_90 rfl hl (by decide) rfl (fun ls hl => ?_)
  refine lv_iload_n hx hb d_Main_init_91 rfl (lv_at hl 0 rfl) ?_
  refine lv_iconst (v := 2) hx hb d_Main_init_92 (by decide +kernel) ?_
  refine lv_icmp_ge (tgt := 115) hx hb d_Main_init_93 (by decide) (fun h => absurd h (by decide +kernel)) (fun _ => ?_)
  refine lv_aload_n hx hb d_Main_init_96 rfl (lv_at hl 1 rfl) ?_
  refine va_get hx hb hts i_Main hown hK.1 hP 0 (by rw [wq_at (by decide), Eg_0]) rfl 5 (by decide) (hts _ kl_Main_44) (fun x h => h) rfl d_Main_init_97 ?_
  refine lv_iload_n hx hb d_Main_init_100 rfl (lv_at hl 0 rfl) ?_
  rw [Et_lt (E := Eg (Zc G ar b0 143) [.ref (b0 + 1), .ref (b0 + 3), .ref (b0 + 5), .ref (b0 + 9), .ref (b0 + 11), .ref (b0 + 30), zi 0, .ref (b0 + 31), .ref (b0 + 68)] (fun _ => none)) (i := 105) (ci := 4) (ns := [.null, .null, zi 0, zi 0, zi 0])] at hP
  refine kr_new (Z := Zc G ar b0 143) (n := 105) (ci := 4) (fs := [.null, .null, zi 0, zi 0, zi 0]) hx hb hts i_Finds t_Finds t_Finds_ok hown kcl_Main_37 kmake_Finds kini_Finds hK.1 hb0 (by omega) hP hS rfl Et_at (by decide +kernel) (Nat.le_of_ble_eq_true rfl) (Nat.le_of_ble_eq_true rfl) d_Main_init_101 (fun H1 hP hS => ?_)
  refine lv_dup hx hb d_Main_init_104 rfl ?_
  refine kr_initN (Z := Zc G ar b0 143) (n := 106) (n' := 124) (mc := 18) (ms := 112) ⟨hx, hb, hml, hown, hts⟩ hK hO (c_Finds_init_105 l G ar b0 143 _ Et_at) kn_Main_39 kinst_Finds kini_Finds kcode_Finds ⟨by decide +kernel, by decide +kernel, by decide +kernel⟩ rfl rfl rfl ⟨Nat.le_of_ble_eq_true rfl, Nat.le_of_ble_eq_true rfl⟩ hb0 (by omega) hP hS hl.1 (Nat.le_of_ble_eq_true rfl) d_Main_init_105 ⟨Nat.le_of_ble_eq_true rfl, Nat.le_of_ble_eq_true rfl⟩ (fun H1 locs1 hP hS => ?_)
  rw [Et_back (by decide) (by decide) (by decide)] at hP
  refine kr_astq (Z := Zc G ar b0 143) (n := 124) hx hb hK.1 hP hS 30 105 (by decide) (by decide) Eg_30 (Eg_obj (ci := 4) (N := 5) (by decide) (by decide) (by decide +kernel)) (vp_in_iff.mpr (by decide +kernel)) (Eg (Zc G ar b0 143) [.ref (b0 + 1), .ref (b0 + 3), .ref (b0 + 5), .ref (b0 + 9), .ref (b0 + 11), .ref (b0 + 30), zi 0, .ref (b0 + 31), .ref (b0 + 68)] (va_up (fun _ => none) 0 (some (b0 + 105)))) Eg_30 Eg_kept d_Main_init_108 (fun H1 locs1 hP hS => ?_)
  refine lv_iinc (k := 0) (v := 1) (lv' := [(1, .int 1), (0, .ref (b0 + 0))]) hx hb d_Main_init_109 hl rfl (by decide +kernel) (by decide) rfl (fun ls hl => ?_)
  refine lv_goto (tgt := 91) hx hb d_Main_init_112 (by decide) ?_
  refine lv_iload_n hx hb d_Main_init_91 rfl (lv_at hl 0 rfl) ?_
  refine lv_iconst (v := 2) hx hb d_Main_init_92 (by decide +kernel) ?_
  refine lv_icmp_ge (tgt := 115) hx hb d_Main_init_93 (by decide) (fun h => absurd h (by decide +kernel)) (fun _ => ?_)
  refine lv_aload_n hx hb d_Main_init_96 rfl (lv_at hl 1 rfl) ?_
  refine va_get hx hb hts i_Main hown hK.1 hP 0 (by rw [wq_at (by decide), Eg_0]) rfl 5 (by decide) (hts _ kl_Main_44) (fun x h => h) rfl d_Main_init_97 ?_
  refine lv_iload_n hx hb d_Main_init_100 rfl (lv_at hl 0 rfl) ?_
  rw [Et_lt (E := Eg (Zc G ar b0 143) [.ref (b0 + 1), .ref (b0 + 3), .ref (b0 + 5), .ref (b0 + 9), .ref (b0 + 11), .ref (b0 + 30), zi 0, .ref (b0 + 31), .ref (b0 + 68)] (va_up (fun _ => none) 0 (some (b0 + 105)))) (i := 124) (ci := 4) (ns := [.null, .null, zi 0, zi 0, zi 0])] at hP
  refine kr_new (Z := Zc G ar b0 143) (n := 124) (ci := 4) (fs := [.null, .null, zi 0, zi 0, zi 0]) hx hb hts i_Finds t_Finds t_Finds_ok hown kcl_Main_37 kmake_Finds kini_Finds hK.1 hb0 (by omega) hP hS rfl Et_at (by decide +kernel) (Nat.le_of_ble_eq_true rfl) (Nat.le_of_ble_eq_true rfl) d_Main_init_101 (fun H1 hP hS => ?_)
  refine lv_dup hx hb d_Main_init_104 rfl ?_
  refine kr_initN (Z := Zc G ar b0 143) (n := 125) (n' := 143) (mc := 18) (ms := 112) ⟨hx, hb, hml, hown, hts⟩ hK hO (c_Finds_init_124 l G ar b0 143 _ Et_at) kn_Main_39 kinst_Finds kini_Finds kcode_Finds ⟨by decide +kernel, by decide +kernel, by decide +kernel⟩ rfl rfl rfl ⟨Nat.le_of_ble_eq_true rfl, Nat.le_of_ble_eq_true rfl⟩ hb0 (by omega) hP hS hl.1 (Nat.le_of_ble_eq_true rfl) d_Main_init_105 ⟨Nat.le_of_ble_eq_true rfl, Nat.le_of_ble_eq_true rfl⟩ (fun H1 locs1 hP hS => ?_)
  rw [Et_back (by decide) (by decide) (by decide)] at hP
  refine kr_astq (Z := Zc G ar b0 143) (n := 143) hx hb hK.1 hP hS 30 124 (by decide) (by decide) Eg_30 (Eg_obj (ci := 4) (N := 5) (by decide) (by decide) (by decide +kernel)) (vp_in_iff.mpr (by decide +kernel)) (Eg (Zc G ar b0 143) [.ref (b0 + 1), .ref (b0 + 3), .ref (b0 + 5), .ref (b0 + 9), .ref (b0 + 11), .ref (b0 + 30), zi 0, .ref (b0 + 31), .ref (b0 + 68)] (va_up (va_up (fun _ => none) 0 (some (b0 + 105))) 1 (some (b0 + 124)))) Eg_30 Eg_kept d_Main_init_108 (fun H1 locs1 hP hS => ?_)
  refine lv_iinc (k := 0) (v := 2) (lv' := [(1, .int 2), (0, .ref (b0 + 0))]) hx hb d_Main_init_109 hl rfl (by decide +kernel) (by decide) rfl (fun ls hl => ?_)
  refine lv_goto (tgt := 91) hx hb d_Main_init_112 (by decide) ?_
  refine lv_iload_n hx hb d_Main_init_91 rfl (lv_at hl 0 rfl) ?_
  refine lv_iconst (v := 2) hx hb d_Main_init_92 (by decide +kernel) ?_
  refine lv_icmp_ge (tgt := 115) hx hb d_Main_init_93 (by decide) (fun _ => ?_) (fun h => absurd (by decide +kernel) h)
  have hD := Eg_end (G := G) (ar := ar) rfl rfl rfl hP
  exact k_tail l (Γ := (p, l, e, rm_Main_init, s, m, args, below, meth, c, 142, 1382)) rfl ⟨hx, hb, hml, hown, hts, hK, hlocks, Zc_ok, hr, rfl, Nat.le_of_ble_eq_true rfl, Nat.le_of_ble_eq_true rfl⟩ _ _ _ hD hS hl

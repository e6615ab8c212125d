section ZC
variable {α : Type} {Γ : Gt} {Z : Zt} {nL : Nat} {Qf : α → State → Prop} {o o1 o2 : Option α} {D : Mm} {pc : Nat} {lv lv2 : List (Nat × Value)} {st : List Value} {cc : ByteArray} {own : String} {ret : Option FieldType} {R : Room}
def zrv (rk : Nat) (r : Int) : Option Value := match rk with
  | 0 => none
  | 1 => some (zi r)
  | _ => some (zl r)
def Qz (rk : Nat) (r : Int) (Z : Zt) (D : Mm) : Array Value → State → Outcome → State → Prop := fun _ st oc t => oc = .returned (zrv rk r) ∧ Wd Z D t.heap ∧ va_F (zA Z) st t
def Pz (av : List Value) (Z : Zt) (D : Mm) : Array Value → State → Prop := va_Pc av (fun U => Wd Z D U.heap ∧ zK Z U)
def QfM (Γ : Gt) (Z : Zt) (rk : Nat) : Int × Mm → State → Prop := fun x => MQ Γ.2.2.2.2.2.2.2.1 (Qz rk x.1 Z x.2) Γ.2.2.2.2.2.2.1 Γ.2.2.2.2.1 Γ.2.2.2.2.2.2.2.2.2.2.1 Γ.2.2.2.2.2.2.2.2.2.2.2 (zA Z)
def QfP (Γ : Gt) (Z : Zt) (rk : Nat) (D : Mm) : Int → State → Prop := fun x => MQ Γ.2.2.2.2.2.2.2.1 (Qz rk x Z D) Γ.2.2.2.2.2.2.1 Γ.2.2.2.2.1 Γ.2.2.2.2.2.2.2.2.2.2.1 Γ.2.2.2.2.2.2.2.2.2.2.2 (zA Z)
def CtM (l : Launch) (Z : Zt) (y : MethodName) (bytes : ByteArray) (mL : Nat) (ret : Option FieldType) (rm : Room) (rk : Nat) (av : List Value) (D : Mm) (o : Option (Int × Mm)) : Prop :=
  ∀ x, o = some x → Met l y (Cond.code y bytes mL ret :: zT) rm (Pz av Z D) (Qz rk x.1 Z x.2) 0 0 (zA Z)
def CtP (l : Launch) (Z : Zt) (y : MethodName) (bytes : ByteArray) (mL : Nat) (ret : Option FieldType) (rm : Room) (rk : Nat) (av : List Value) (D : Mm) (o : Option Int) : Prop :=
  ∀ x, o = some x → Met l y (Cond.code y bytes mL ret :: zT) rm (Pz av Z D) (Qz rk x Z D) 0 0 (zA Z)
theorem zK.warm {s U : State} (h : zK Z s) (hW : s.WarmedH U.vm) : zK Z U := by
  refine ⟨va_K.moved hW.alike h.1, fun w hw => ?_⟩
  have h2 := h.2 w hw
  simp only [z_nest, List.mem_cons, List.not_mem_nil, or_false] at hw
  rcases hw with rfl | rfl | rfl | rfl | rfl | rfl | rfl | rfl <;> exact va_Nw.warmM hW h2
theorem zPz_blind {av : List Value} : FrameBlind (Pz av Z D) := by
  intro a U g mk q
  refine ⟨q.1, q.2.1, va_K.moved (u := U) (U := U.calling g mk a) (Vm.Alike.refl U.vm) q.2.2.1, fun w hw => ?_⟩
  exact va_Nw.same (u := U) (U := U.calling g mk a) (z_nest_t w hw) rfl (q.2.2.2 w hw)
-- returns
theorem zv_iretM (X : Cx Γ Z cc own nL (some .int) R) {x : Int} (hdg : decode cc pc = .ok (.ireturn, 1)) : Zv Γ Z nL (QfM Γ Z 1) (some (x, D)) D pc lv [zi x] := by
  intro r hr H locs ls hw hs hl
  cases hr
  exact W.iret X.1 X.2.1 X.2.2.2.2.2.2.2.2.1 (fun t ht hW => ⟨rfl, by rw [ht]; exact hw, hs.F ht⟩) hs.2.2 hdg X.2.2.2.2.2.2.1
theorem zv_iretP (X : Cx Γ Z cc own nL (some .int) R) {x : Int} (hdg : decode cc pc = .ok (.ireturn, 1)) : Zv Γ Z nL (QfP Γ Z 1 D) (some x) D pc lv [zi x] := by
  intro r hr H locs ls hw hs hl
  cases hr
  exact W.iret X.1 X.2.1 X.2.2.2.2.2.2.2.2.1 (fun t ht hW => ⟨rfl, by rw [ht]; exact hw, hs.F ht⟩) hs.2.2 hdg X.2.2.2.2.2.2.1
theorem zv_lretM (X : Cx Γ Z cc own nL (some .long) R) {x : Int} (hdg : decode cc pc = .ok (.lreturn, 1)) : Zv Γ Z nL (QfM Γ Z 2) (some (x, D)) D pc lv [zl x] := by
  intro r hr H locs ls hw hs hl
  cases hr
  exact W.lret X.1 X.2.1 X.2.2.2.2.2.2.2.2.1 (fun t ht hW => ⟨rfl, by rw [ht]; exact hw, hs.F ht⟩) hs.2.2 hdg X.2.2.2.2.2.2.1
theorem zv_lretP (X : Cx Γ Z cc own nL (some .long) R) {x : Int} (hdg : decode cc pc = .ok (.lreturn, 1)) : Zv Γ Z nL (QfP Γ Z 2 D) (some x) D pc lv [zl x] := by
  intro r hr H locs ls hw hs hl
  cases hr
  exact W.lret X.1 X.2.1 X.2.2.2.2.2.2.2.2.1 (fun t ht hW => ⟨rfl, by rw [ht]; exact hw, hs.F ht⟩) hs.2.2 hdg X.2.2.2.2.2.2.1
theorem zv_vretM (X : Cx Γ Z cc own nL none R) (hdg : decode cc pc = .ok (.return_, 1)) : Zv Γ Z nL (QfM Γ Z 0) (some (0, D)) D pc lv [] := by
  intro r hr H locs ls hw hs hl
  cases hr
  exact W.vret X.1 X.2.1 X.2.2.2.2.2.2.2.2.1 (fun t ht hW => ⟨rfl, by rw [ht]; exact hw, hs.F ht⟩) hs.2.2 hdg X.2.2.2.2.2.2.1
theorem z_bool {x : Int} (h : x = 0 ∨ x = 1) : narrow .boolean (.int (zI x)) = .int (zI x) := by
  rcases h with rfl | rfl <;> decide +kernel
theorem zv_zretMK (X : Cx Γ Z cc own nL (some .boolean) R) {x : Int} (hx : x = 0 ∨ x = 1) (hdg : decode cc pc = .ok (.ireturn, 1)) : Zv Γ Z nL (QfM Γ Z 1) (some (x, D)) D pc lv [zi x] := by
  intro r hr H locs ls hw hs hl
  cases hr
  exact W.zret X.1 X.2.1 X.2.2.2.2.2.2.2.2.1 (z_bool hx) (fun t ht hW => ⟨rfl, by rw [ht]; exact hw, hs.F ht⟩) hs.2.2 hdg X.2.2.2.2.2.2.1
theorem zv_zretPK (X : Cx Γ Z cc own nL (some .boolean) R) {x : Int} (hx : x = 0 ∨ x = 1) (hdg : decode cc pc = .ok (.ireturn, 1)) : Zv Γ Z nL (QfP Γ Z 1 D) (some x) D pc lv [zi x] := by
  intro r hr H locs ls hw hs hl
  cases hr
  exact W.zret X.1 X.2.1 X.2.2.2.2.2.2.2.2.1 (z_bool hx) (fun t ht hW => ⟨rfl, by rw [ht]; exact hw, hs.F ht⟩) hs.2.2 hdg X.2.2.2.2.2.2.1
theorem zv_zretM (X : Cx Γ Z cc own nL (some .boolean) R) {x : Int} {inst : Decidable (x = 0 ∨ x = 1)} (hdg : decode cc pc = .ok (.ireturn, 1)) : Zv Γ Z nL (QfM Γ Z 1) (@ite _ (x = 0 ∨ x = 1) inst (some (x, D)) none) D pc lv [zi x] := by
  by_cases hx : x = 0 ∨ x = 1
  · rw [if_pos hx]; exact zv_zretMK X hx hdg
  · rw [if_neg hx]; intro r hr; cases hr
theorem zv_zretP (X : Cx Γ Z cc own nL (some .boolean) R) {x : Int} {inst : Decidable (x = 0 ∨ x = 1)} (hdg : decode cc pc = .ok (.ireturn, 1)) : Zv Γ Z nL (QfP Γ Z 1 D) (@ite _ (x = 0 ∨ x = 1) inst (some x) none) D pc lv [zi x] := by
  by_cases hx : x = 0 ∨ x = 1
  · rw [if_pos hx]; exact zv_zretPK X hx hdg
  · rw [if_neg hx]; intro r hr; cases hr
-- splitting ahead of a switch, a dead end
theorem zv_none : Zv Γ Z nL Qf none D pc lv st := fun r hr => by cases hr
theorem zv_split {P : Prop} {inst : Decidable P} (h1 : P → Zv Γ Z nL Qf o1 D pc lv st) (h2 : ¬ P → Zv Γ Z nL Qf o2 D pc lv st) : Zv Γ Z nL Qf (@ite _ P inst o1 o2) D pc lv st := by
  by_cases h : P
  · rw [if_pos h]; exact h1 h
  · rw [if_neg h]; exact h2 h
theorem zv_guard {P : Prop} {inst : Decidable P} (h1 : P → Zv Γ Z nL Qf o D pc lv st) : Zv Γ Z nL Qf (@ite _ P inst o none) D pc lv st := zv_split h1 (fun _ => zv_none)
theorem zv_tin (X : Cx Γ Z cc own nL ret R) {dflt lo hi : Int} {offs : Array Int} {len : Nat} {x j : Int} {off : Int} {tgt : Nat} (hdg : decode cc pc = .ok (.tableswitch dflt lo hi offs, len)) (hx : zI x = zI j) (h : (¬ (zI j).toInt < lo) ∧ (¬ hi < (zI j).toInt) ∧ offs[((zI j).toInt - lo).toNat]? = some off) (ht : (pc : Int) + off = (tgt : Int)) (k : Zv Γ Z nL Qf o D tgt lv st) : Zv Γ Z nL Qf o D pc lv (zi x :: st) := by
  intro r hr H locs ls hw hs hl
  have k2 := k r hr H locs ls hw hs hl
  unfold zi
  rw [hx]
  exact lv_tableIn X.1 X.2.1 hdg h.1 h.2.1 h.2.2 ht k2
theorem zv_tout (X : Cx Γ Z cc own nL ret R) {dflt lo hi : Int} {offs : Array Int} {len : Nat} {x : Int} {tgt : Nat} (hdg : decode cc pc = .ok (.tableswitch dflt lo hi offs, len)) (h : (zI x).toInt < lo ∨ hi < (zI x).toInt) (ht : (pc : Int) + dflt = (tgt : Int)) (k : Zv Γ Z nL Qf o D tgt lv st) : Zv Γ Z nL Qf o D pc lv (zi x :: st) := by
  intro r hr H locs ls hw hs hl
  exact lv_tableOut X.1 X.2.1 hdg h ht (k r hr H locs ls hw hs hl)
theorem zI_ne {x j : Int} (h : ¬ zI x = zI j) : ¬ (zI x).toInt = (zI j).toInt := fun q => h (Int32.toInt_inj.mp q)
-- long compares
theorem lg_lt {x y : Int64} : lg_cmp x y < 0 ↔ x < y := by
  unfold lg_cmp
  by_cases h1 : y < x
  · simp only [h1, if_true]
    exact ⟨fun h => absurd h (by decide), fun h => absurd h (by rw [Int64.lt_iff_toInt_lt] at *; omega)⟩
  · by_cases h2 : x = y
    · subst h2; simp
    · simp only [h1, if_false, h2]
      have h3 : ¬ x.toInt = y.toInt := fun q => h2 (Int64.toInt_inj.mp q)
      rw [Int64.lt_iff_toInt_lt] at h1
      exact ⟨fun _ => by rw [Int64.lt_iff_toInt_lt]; omega, fun _ => by decide⟩
theorem lg_eq {x y : Int64} : lg_cmp x y = 0 ↔ x = y := by
  unfold lg_cmp
  by_cases h1 : y < x
  · simp only [h1, if_true]
    exact ⟨fun h => absurd h (by decide), fun h => absurd h (by rintro rfl; rw [Int64.lt_iff_toInt_lt] at h1; omega)⟩
  · by_cases h2 : x = y
    · subst h2; simp
    · simp only [h1, if_false, h2]
      exact ⟨fun h => absurd h (by decide), fun h => absurd h id⟩
theorem lg_gt {x y : Int64} : 0 < lg_cmp x y ↔ y < x := by
  unfold lg_cmp
  by_cases h1 : y < x
  · simp only [h1, if_true]
    exact ⟨fun _ => trivial, fun _ => by decide⟩
  · by_cases h2 : x = y
    · subst h2; simp
    · simp only [h1, if_false, h2]
      exact ⟨fun h => absurd h (by decide), fun h => absurd h id⟩
end ZC

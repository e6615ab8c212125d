section ZD
variable {α : Type} {Γ : Gt} {Z : Zt} {nL : Nat} {Qf : α → State → Prop} {o o1 o2 : Option α} {D : Mm} {pc : Nat} {lv lv2 : List (Nat × Value)} {st : List Value} {cc : ByteArray} {own : String} {ret : Option FieldType} {R : Room}
theorem zv_lcmp_eq (X : Cx Γ Z cc own nL ret R) {x y : Int} {off : Int} {tgt : Nat} {inst : Decidable (zL x = zL y)} (hd1 : decode cc pc = .ok (.lcmp, 1)) (hdg : decode cc (pc + 1) = .ok (.ifCond .eq off, 3)) (ht : ((pc + 1 : Nat) : Int) + off = (tgt : Int)) (kt : zL x = zL y → Zv Γ Z nL Qf o1 D tgt lv st) (kf : ¬ zL x = zL y → Zv Γ Z nL Qf o2 D (pc + 1 + 3) lv st) : Zv Γ Z nL Qf (@ite _ (zL x = zL y) inst o1 o2) D pc lv (zl y :: zl x :: st) := by
  intro r hr H locs ls hw hs hl
  refine W.lcmp X.1 X.2.1 hd1 ?_
  refine lv_if_eq X.1 X.2.1 hdg ht (fun h => ?_) (fun h => ?_)
  · rw [lg_eq] at h; rw [if_pos h] at hr; exact kt h r hr H locs ls hw hs hl
  · rw [lg_eq] at h; rw [if_neg h] at hr; exact kf h r hr H locs ls hw hs hl
theorem zv_lcmp_ne (X : Cx Γ Z cc own nL ret R) {x y : Int} {off : Int} {tgt : Nat} {inst : Decidable (zL x = zL y)} (hd1 : decode cc pc = .ok (.lcmp, 1)) (hdg : decode cc (pc + 1) = .ok (.ifCond .ne off, 3)) (ht : ((pc + 1 : Nat) : Int) + off = (tgt : Int)) (kt : ¬ zL x = zL y → Zv Γ Z nL Qf o1 D tgt lv st) (kf : zL x = zL y → Zv Γ Z nL Qf o2 D (pc + 1 + 3) lv st) : Zv Γ Z nL Qf (@ite _ (zL x = zL y) inst o2 o1) D pc lv (zl y :: zl x :: st) := by
  intro r hr H locs ls hw hs hl
  refine W.lcmp X.1 X.2.1 hd1 ?_
  refine lv_if_ne X.1 X.2.1 hdg ht (fun h => ?_) (fun h => ?_)
  · rw [lg_eq] at h; rw [if_neg h] at hr; exact kt h r hr H locs ls hw hs hl
  · rw [lg_eq] at h; rw [if_pos h] at hr; exact kf h r hr H locs ls hw hs hl
theorem zv_lcmp_lt (X : Cx Γ Z cc own nL ret R) {x y : Int} {off : Int} {tgt : Nat} {inst : Decidable (zL x < zL y)} (hd1 : decode cc pc = .ok (.lcmp, 1)) (hdg : decode cc (pc + 1) = .ok (.ifCond .lt off, 3)) (ht : ((pc + 1 : Nat) : Int) + off = (tgt : Int)) (kt : zL x < zL y → Zv Γ Z nL Qf o1 D tgt lv st) (kf : ¬ zL x < zL y → Zv Γ Z nL Qf o2 D (pc + 1 + 3) lv st) : Zv Γ Z nL Qf (@ite _ (zL x < zL y) inst o1 o2) D pc lv (zl y :: zl x :: st) := by
  intro r hr H locs ls hw hs hl
  refine W.lcmp X.1 X.2.1 hd1 ?_
  refine lv_if_lt X.1 X.2.1 hdg ht (fun h => ?_) (fun h => ?_)
  · rw [lg_lt] at h; rw [if_pos h] at hr; exact kt h r hr H locs ls hw hs hl
  · rw [lg_lt] at h; rw [if_neg h] at hr; exact kf h r hr H locs ls hw hs hl
theorem lg_ge {x y : Int64} : 0 ≤ lg_cmp x y ↔ y ≤ x := by
  rw [← Int32.not_lt, ← Int64.not_lt]; exact not_congr lg_lt
theorem zv_lcmp_ge (X : Cx Γ Z cc own nL ret R) {x y : Int} {off : Int} {tgt : Nat} {inst : Decidable (zL y ≤ zL x)} (hd1 : decode cc pc = .ok (.lcmp, 1)) (hdg : decode cc (pc + 1) = .ok (.ifCond .ge off, 3)) (ht : ((pc + 1 : Nat) : Int) + off = (tgt : Int)) (kt : zL y ≤ zL x → Zv Γ Z nL Qf o1 D tgt lv st) (kf : ¬ zL y ≤ zL x → Zv Γ Z nL Qf o2 D (pc + 1 + 3) lv st) : Zv Γ Z nL Qf (@ite _ (zL y ≤ zL x) inst o1 o2) D pc lv (zl y :: zl x :: st) := by
  intro r hr H locs ls hw hs hl
  refine W.lcmp X.1 X.2.1 hd1 ?_
  refine lv_if_ge X.1 X.2.1 hdg ht (fun h => ?_) (fun h => ?_)
  · rw [lg_ge] at h; rw [if_pos h] at hr; exact kt h r hr H locs ls hw hs hl
  · rw [lg_ge] at h; rw [if_neg h] at hr; exact kf h r hr H locs ls hw hs hl
theorem zv_lcmp_gt (X : Cx Γ Z cc own nL ret R) {x y : Int} {off : Int} {tgt : Nat} {inst : Decidable (zL y < zL x)} (hd1 : decode cc pc = .ok (.lcmp, 1)) (hdg : decode cc (pc + 1) = .ok (.ifCond .gt off, 3)) (ht : ((pc + 1 : Nat) : Int) + off = (tgt : Int)) (kt : zL y < zL x → Zv Γ Z nL Qf o1 D tgt lv st) (kf : ¬ zL y < zL x → Zv Γ Z nL Qf o2 D (pc + 1 + 3) lv st) : Zv Γ Z nL Qf (@ite _ (zL y < zL x) inst o1 o2) D pc lv (zl y :: zl x :: st) := by
  intro r hr H locs ls hw hs hl
  refine W.lcmp X.1 X.2.1 hd1 ?_
  refine lv_if_gt X.1 X.2.1 hdg ht (fun h => ?_) (fun h => ?_)
  · rw [lg_gt] at h; rw [if_pos h] at hr; exact kt h r hr H locs ls hw hs hl
  · rw [lg_gt] at h; rw [if_neg h] at hr; exact kf h r hr H locs ls hw hs hl
theorem lg_le {x y : Int64} : lg_cmp x y ≤ 0 ↔ x ≤ y := by
  rw [← Int32.not_lt, ← Int64.not_lt]; exact not_congr lg_gt
theorem zv_lcmp_le (X : Cx Γ Z cc own nL ret R) {x y : Int} {off : Int} {tgt : Nat} {inst : Decidable (zL x ≤ zL y)} (hd1 : decode cc pc = .ok (.lcmp, 1)) (hdg : decode cc (pc + 1) = .ok (.ifCond .le off, 3)) (ht : ((pc + 1 : Nat) : Int) + off = (tgt : Int)) (kt : zL x ≤ zL y → Zv Γ Z nL Qf o1 D tgt lv st) (kf : ¬ zL x ≤ zL y → Zv Γ Z nL Qf o2 D (pc + 1 + 3) lv st) : Zv Γ Z nL Qf (@ite _ (zL x ≤ zL y) inst o1 o2) D pc lv (zl y :: zl x :: st) := by
  intro r hr H locs ls hw hs hl
  refine W.lcmp X.1 X.2.1 hd1 ?_
  refine lv_if_le X.1 X.2.1 hdg ht (fun h => ?_) (fun h => ?_)
  · rw [lg_le] at h; rw [if_pos h] at hr; exact kt h r hr H locs ls hw hs hl
  · rw [lg_le] at h; rw [if_neg h] at hr; exact kf h r hr H locs ls hw hs hl
def zb {α : Type} (o : Option (Int × Mm)) (k : Int → Mm → Option α) : Option α := o.bind (fun x => k x.1 x.2)
theorem zT_sub {y : MethodName} {bytes : ByteArray} {mL : Nat} {ret : Option FieldType} (h : Cond.code y bytes mL ret ∈ zT) : GoodIn zT (Cond.code y bytes mL ret :: zT) := fun w hw => by
  rcases List.mem_cons.mp hw with rfl | h2
  · exact ⟨h, zT_good _ h⟩
  · exact ⟨h2, zT_good _ h2⟩
def zD (y : MethodName) (n : Nat) : Prop := y.cls ≠ "java/lang/invoke/MethodHandle" ∧ y.cls ≠ "java/lang/invoke/VarHandle" ∧ (parseMethodDescriptor y.desc).map (fun d => d.parameters.length) = some n
def zSt (own : String) (idx : Nat) (y : MethodName) (bytes : ByteArray) (mL : Nat) (ret : Option FieldType) (n : Nat) : Prop := Cond.methodLink own idx y ∈ zT ∧ Cond.static y ∈ zT ∧ Cond.initialized y.cls ∈ zT ∧ Cond.code y bytes mL ret ∈ zT ∧ zD y n
def zSn (own : String) (idx : Nat) (y : MethodName) (bytes : ByteArray) (mL : Nat) (ret : Option FieldType) (n : Nat) (host : String) : Prop := Cond.methodLinkNest own idx y host ∈ z_nest ∧ Cond.static y ∈ zT ∧ Cond.initialized y.cls ∈ zT ∧ Cond.code y bytes mL ret ∈ zT ∧ zD y n
def zVt (own : String) (idx : Nat) (y : MethodName) (bytes : ByteArray) (mL : Nat) (ret : Option FieldType) (n : Nat) : Prop := Cond.methodLink own idx y ∈ zT ∧ Cond.instanceMethod y ∈ zT ∧ Cond.selects y.cls y y ∈ zT ∧ Cond.initialized y.cls ∈ zT ∧ Cond.code y bytes mL ret ∈ zT ∧ zD y n
def zRm (rm R : Room) (mL : Nat) : Prop := rm.cells = 0 ∧ rm.slots = 0 ∧ rm.frames + 1 ≤ R.frames ∧ 8 + (mL + 11) + rm.locals ≤ R.locals
theorem zc_go {p : Program} {l : Launch} {e : Env} {s : State} {m : MethodId} {args : Array Value} {below : List Frame} {meth : Method} {c : Code} {H : Heap} {locs : List Loc} {Q : State → Prop} {ls : Array Slot} {rest st0 : List Value} {a : Array Value} {rk nc ns : Nat} {r : Int} {D1 : Mm}
    (hr : va_Run p l e R s m args below meth c H locs nc ns 0 0 (F0 m pc ls st0) rest (Qz rk r Z D1 a) (zA Z)) (hS : va_S (zA Z) s.heap H locs)
    (kk : ∀ (H1 : Heap) (locs1 : List Loc), Wd Z D1 H1 → va_S (zA Z) s.heap H1 locs1 → W p l e R s m args below meth c H1 locs1 nc ns Q (F0 m (pc + 3) ls ((zrv rk r).toList ++ rest))) : W p l e R s m args below meth c H locs nc ns Q (F0 m pc ls st0) := by
  intro T hT X
  obtain ⟨v, st₀, t, T', L, h0, X', hL, e1, e2, ⟨hv, hp, hz, hk⟩, st⟩ := hr T hT X
  cases hv
  rw [h0] at hz hk
  obtain ⟨t2, a1, b1⟩ := kk T'.heap (locs ++ L) (by rw [e1]; exact hp)
    ⟨Nat.le_trans hS.1 (by rw [e1]; exact hz), fun q h1 h2 => by rw [e1, hk q (Nat.lt_of_lt_of_le h1 hS.1) h2]; exact hS.2.1 q h1 h2, fun q hq => by
      rcases List.mem_append.mp hq with h | h
      · exact hS.2.2 q h
      · exact hL q h⟩ T' rfl X'
  exact ⟨t2, st t2 a1, b1⟩
theorem zc_S (X : Cx Γ Z cc own nL ret R) {y : MethodName} {bytes : ByteArray} {mL idx : Nat} {retc : Option FieldType} {rm : Room} {rk : Nat} {av st0 : List Value} {r : Int} {D1 : Mm} {Q : State → Prop} {H : Heap} {locs : List Loc} {ls : Array Slot}
    (hM : Met Γ.2.1 y (Cond.code y bytes mL retc :: zT) rm (Pz av Z D) (Qz rk r Z D1) 0 0 (zA Z)) (hw : zSt own idx y bytes mL retc av.length) (hR : zRm rm R mL) (hst : st0 = av.reverse ++ st) (hcat : (st.map fun v => v.category).sum ≤ 8) (hdg : decode cc pc = .ok (.invokestatic idx, 3))
    (hd : Wd Z D H) (hS : va_S (zA Z) Γ.2.2.2.2.1.heap H locs) (hl : lv_has ls nL lv) (kk : ∀ (H1 : Heap) (locs1 : List Loc), Wd Z D1 H1 → va_S (zA Z) Γ.2.2.2.2.1.heap H1 locs1 → zW Γ H1 locs1 Q (pc + 3) ls ((zrv rk r).toList ++ st)) : zW Γ H locs Q pc ls st0 := by
  obtain ⟨p, l, e, R', s, m, args, below, meth, c, nc, ns⟩ := Γ
  obtain ⟨hx, hb, hml, hown, hts, hK, hlk, hz, hrt, rfl, hnc, hns⟩ := X
  obtain ⟨w1, w2, w3, w4, w5⟩ := hw
  obtain ⟨r1, r2, r3, r4⟩ := hR
  subst hst
  refine zc_go (va_runS (As := av) (rest := st) (n := av.length) ⟨hx, hb, hml, hown, hts⟩ hM ⟨callB_of av.length hts (zT_sub w4) rfl r1 r2 (hts _ w3) (hts _ w1) w5 ⟨r3, r4⟩, hts _ w2⟩ ⟨zPz_blind, fun U hU hW => ⟨rfl, by rw [hU]; exact hd, hK.warm hW⟩⟩ rfl rfl hl.1 rfl (lv_room hcat) hdg ⟨hnc, hns⟩) hS kk
theorem zc_N (X : Cx Γ Z cc own nL ret R) {y : MethodName} {host : String} {bytes : ByteArray} {mL idx : Nat} {retc : Option FieldType} {rm : Room} {rk : Nat} {av st0 : List Value} {r : Int} {D1 : Mm} {Q : State → Prop} {H : Heap} {locs : List Loc} {ls : Array Slot}
    (hM : Met Γ.2.1 y (Cond.code y bytes mL retc :: zT) rm (Pz av Z D) (Qz rk r Z D1) 0 0 (zA Z)) (hw : zSn own idx y bytes mL retc av.length host) (hR : zRm rm R mL) (hst : st0 = av.reverse ++ st) (hcat : (st.map fun v => v.category).sum ≤ 8) (hdg : decode cc pc = .ok (.invokestatic idx, 3))
    (hd : Wd Z D H) (hS : va_S (zA Z) Γ.2.2.2.2.1.heap H locs) (hl : lv_has ls nL lv) (kk : ∀ (H1 : Heap) (locs1 : List Loc), Wd Z D1 H1 → va_S (zA Z) Γ.2.2.2.2.1.heap H1 locs1 → zW Γ H1 locs1 Q (pc + 3) ls ((zrv rk r).toList ++ st)) : zW Γ H locs Q pc ls st0 := by
  obtain ⟨p, l, e, R', s, m, args, below, meth, c, nc, ns⟩ := Γ
  obtain ⟨hx, hb, hml, hown, hts, hK, hlk, hz, hrt, rfl, hnc, hns⟩ := X
  obtain ⟨w1, w2, w3, w4, w5⟩ := hw
  obtain ⟨r1, r2, r3, r4⟩ := hR
  subst hst
  refine zc_go (va_runSN (As := av) (rest := st) (n := av.length) ⟨hx, hb, hml, hown, hts⟩ hM ⟨va_cnB av.length hts (zT_sub w4) rfl r1 r2 (hK.2 _ w1) (hts _ w3) w5 ⟨r3, r4⟩, hts _ w2, trivial⟩ ⟨zPz_blind, fun U hU hW => ⟨rfl, by rw [hU]; exact hd, hK.warm hW⟩⟩ rfl rfl hl.1 rfl (lv_room hcat) hdg ⟨hnc, hns⟩) hS kk
theorem zc_V (X : Cx Γ Z cc own nL ret R) {y : MethodName} {bytes : ByteArray} {mL idx : Nat} {retc : Option FieldType} {rm : Room} {rk : Nat} {av st0 : List Value} {r a n : Int} {D1 : Mm} {Q : State → Prop} {H : Heap} {locs : List Loc} {ls : Array Slot} {ci N : Nat} {T : u_T}
    (hM : Met Γ.2.1 y (Cond.code y bytes mL retc :: zT) rm (Pz (zr Z a :: av) Z D) (Qz rk r Z D1) 0 0 (zA Z)) (hw : zVt own idx y bytes mL retc av.length) (hc : classes[ci]? = some (y.cls, T, N)) (ha : Zin Z a (10 + ci) n) (hR : zRm rm R mL) (hst : st0 = av.reverse ++ zr Z a :: st) (hcat : (st.map fun v => v.category).sum ≤ 8) (hdg : decode cc pc = .ok (.invokevirtual idx, 3))
    (hd : Wd Z D H) (hS : va_S (zA Z) Γ.2.2.2.2.1.heap H locs) (hl : lv_has ls nL lv) (kk : ∀ (H1 : Heap) (locs1 : List Loc), Wd Z D1 H1 → va_S (zA Z) Γ.2.2.2.2.1.heap H1 locs1 → zW Γ H1 locs1 Q (pc + 3) ls ((zrv rk r).toList ++ st)) : zW Γ H locs Q pc ls st0 := by
  obtain ⟨p, l, e, R', s, m, args, below, meth, c, nc, ns⟩ := Γ
  obtain ⟨hx, hb, hml, hown, hts, hK, hlk, hz, hrt, rfl, hnc, hns⟩ := X
  obtain ⟨w1, w2, w3, w4, w5, w6⟩ := hw
  obtain ⟨r1, r2, r3, r4⟩ := hR
  subst hst
  have e0 := wl_at (D := D) ha.2.1 ha.2.2
  rw [ha.1, em_obj] at e0
  refine zc_go (va_runV (As := av) (rest := st) (n := av.length) (C := y.cls) ⟨hx, hb, hml, hown, hts⟩ hM ⟨callB_of av.length hts (zT_sub w5) rfl r1 r2 (hts _ w4) (hts _ w1) w6 ⟨r3, r4⟩, hts _ w2, hts _ w3⟩ ⟨zPz_blind, va_recv hK.1 hd hc e0, fun U hU hW => ⟨rfl, by rw [hU]; exact hd, hK.warm hW⟩⟩ rfl rfl hl.1 rfl (lv_room hcat) hdg ⟨hnc, hns⟩) hS kk
theorem zv_cSM0 (X : Cx Γ Z cc own nL ret R) {y : MethodName} {bytes : ByteArray} {mL idx : Nat} {retc : Option FieldType} {rm : Room} {av st0 : List Value} {oc : Option (Int × Mm)} {kf : Int → Mm → Option α}  (hC : CtM Γ.2.1 Z y bytes mL retc rm 0 av D oc) (hw : zSt own idx y bytes mL retc av.length)  (hR : zRm rm R mL) (hst : st0 = av.reverse ++ st) (hcat : (st.map fun v => v.category).sum ≤ 8) (hdg : decode cc pc = .ok (.invokestatic idx, 3)) (kk : ∀ r D1, oc = some (r, D1) → Zv Γ Z nL Qf (kf r D1) D1 (pc + 3) lv st) : Zv Γ Z nL Qf (zb oc kf) D pc lv st0 := by
  intro r hr H locs ls hd hS hl
  obtain ⟨x, hx, hk⟩ := Option.bind_eq_some_iff.mp hr
  exact zc_S X (hC x hx) hw hR hst hcat hdg hd hS hl (fun H1 locs1 h1 h2 => kk x.1 x.2 hx r hk H1 locs1 ls h1 h2 hl)
theorem zv_cSP1 (X : Cx Γ Z cc own nL ret R) {y : MethodName} {bytes : ByteArray} {mL idx : Nat} {retc : Option FieldType} {rm : Room} {av st0 : List Value} {oc : Option Int} {kf : Int → Option α}  (hC : CtP Γ.2.1 Z y bytes mL retc rm 1 av D oc) (hw : zSt own idx y bytes mL retc av.length)  (hR : zRm rm R mL) (hst : st0 = av.reverse ++ st) (hcat : (st.map fun v => v.category).sum ≤ 8) (hdg : decode cc pc = .ok (.invokestatic idx, 3)) (kk : ∀ r, oc = some r → Zv Γ Z nL Qf (kf r) D (pc + 3) lv (zi r :: st)) : Zv Γ Z nL Qf (oc.bind kf) D pc lv st0 := by
  intro r hr H locs ls hd hS hl
  obtain ⟨x, hx, hk⟩ := Option.bind_eq_some_iff.mp hr
  exact zc_S X (hC x hx) hw hR hst hcat hdg hd hS hl (fun H1 locs1 h1 h2 => kk x hx r hk H1 locs1 ls h1 h2 hl)
theorem zv_cSM1 (X : Cx Γ Z cc own nL ret R) {y : MethodName} {bytes : ByteArray} {mL idx : Nat} {retc : Option FieldType} {rm : Room} {av st0 : List Value} {oc : Option (Int × Mm)} {kf : Int → Mm → Option α}  (hC : CtM Γ.2.1 Z y bytes mL retc rm 1 av D oc) (hw : zSt own idx y bytes mL retc av.length)  (hR : zRm rm R mL) (hst : st0 = av.reverse ++ st) (hcat : (st.map fun v => v.category).sum ≤ 8) (hdg : decode cc pc = .ok (.invokestatic idx, 3)) (kk : ∀ r D1, oc = some (r, D1) → Zv Γ Z nL Qf (kf r D1) D1 (pc + 3) lv (zi r :: st)) : Zv Γ Z nL Qf (zb oc kf) D pc lv st0 := by
  intro r hr H locs ls hd hS hl
  obtain ⟨x, hx, hk⟩ := Option.bind_eq_some_iff.mp hr
  exact zc_S X (hC x hx) hw hR hst hcat hdg hd hS hl (fun H1 locs1 h1 h2 => kk x.1 x.2 hx r hk H1 locs1 ls h1 h2 hl)
theorem zv_cSP2 (X : Cx Γ Z cc own nL ret R) {y : MethodName} {bytes : ByteArray} {mL idx : Nat} {retc : Option FieldType} {rm : Room} {av st0 : List Value} {oc : Option Int} {kf : Int → Option α}  (hC : CtP Γ.2.1 Z y bytes mL retc rm 2 av D oc) (hw : zSt own idx y bytes mL retc av.length)  (hR : zRm rm R mL) (hst : st0 = av.reverse ++ st) (hcat : (st.map fun v => v.category).sum ≤ 8) (hdg : decode cc pc = .ok (.invokestatic idx, 3)) (kk : ∀ r, oc = some r → Zv Γ Z nL Qf (kf r) D (pc + 3) lv (zl r :: st)) : Zv Γ Z nL Qf (oc.bind kf) D pc lv st0 := by
  intro r hr H locs ls hd hS hl
  obtain ⟨x, hx, hk⟩ := Option.bind_eq_some_iff.mp hr
  exact zc_S X (hC x hx) hw hR hst hcat hdg hd hS hl (fun H1 locs1 h1 h2 => kk x hx r hk H1 locs1 ls h1 h2 hl)
theorem zv_cSM2 (X : Cx Γ Z cc own nL ret R) {y : MethodName} {bytes : ByteArray} {mL idx : Nat} {retc : Option FieldType} {rm : Room} {av st0 : List Value} {oc : Option (Int × Mm)} {kf : Int → Mm → Option α}  (hC : CtM Γ.2.1 Z y bytes mL retc rm 2 av D oc) (hw : zSt own idx y bytes mL retc av.length)  (hR : zRm rm R mL) (hst : st0 = av.reverse ++ st) (hcat : (st.map fun v => v.category).sum ≤ 8) (hdg : decode cc pc = .ok (.invokestatic idx, 3)) (kk : ∀ r D1, oc = some (r, D1) → Zv Γ Z nL Qf (kf r D1) D1 (pc + 3) lv (zl r :: st)) : Zv Γ Z nL Qf (zb oc kf) D pc lv st0 := by
  intro r hr H locs ls hd hS hl
  obtain ⟨x, hx, hk⟩ := Option.bind_eq_some_iff.mp hr
  exact zc_S X (hC x hx) hw hR hst hcat hdg hd hS hl (fun H1 locs1 h1 h2 => kk x.1 x.2 hx r hk H1 locs1 ls h1 h2 hl)
theorem zv_cNM0 (X : Cx Γ Z cc own nL ret R) {y : MethodName} {bytes : ByteArray} {mL idx : Nat} {retc : Option FieldType} {rm : Room} {av st0 : List Value} {oc : Option (Int × Mm)} {kf : Int → Mm → Option α} {host : String} (hC : CtM Γ.2.1 Z y bytes mL retc rm 0 av D oc) (hw : zSn own idx y bytes mL retc av.length host)  (hR : zRm rm R mL) (hst : st0 = av.reverse ++ st) (hcat : (st.map fun v => v.category).sum ≤ 8) (hdg : decode cc pc = .ok (.invokestatic idx, 3)) (kk : ∀ r D1, oc = some (r, D1) → Zv Γ Z nL Qf (kf r D1) D1 (pc + 3) lv st) : Zv Γ Z nL Qf (zb oc kf) D pc lv st0 := by
  intro r hr H locs ls hd hS hl
  obtain ⟨x, hx, hk⟩ := Option.bind_eq_some_iff.mp hr
  exact zc_N X (hC x hx) hw hR hst hcat hdg hd hS hl (fun H1 locs1 h1 h2 => kk x.1 x.2 hx r hk H1 locs1 ls h1 h2 hl)
theorem zv_cNP1 (X : Cx Γ Z cc own nL ret R) {y : MethodName} {bytes : ByteArray} {mL idx : Nat} {retc : Option FieldType} {rm : Room} {av st0 : List Value} {oc : Option Int} {kf : Int → Option α} {host : String} (hC : CtP Γ.2.1 Z y bytes mL retc rm 1 av D oc) (hw : zSn own idx y bytes mL retc av.length host)  (hR : zRm rm R mL) (hst : st0 = av.reverse ++ st) (hcat : (st.map fun v => v.category).sum ≤ 8) (hdg : decode cc pc = .ok (.invokestatic idx, 3)) (kk : ∀ r, oc = some r → Zv Γ Z nL Qf (kf r) D (pc + 3) lv (zi r :: st)) : Zv Γ Z nL Qf (oc.bind kf) D pc lv st0 := by
  intro r hr H locs ls hd hS hl
  obtain ⟨x, hx, hk⟩ := Option.bind_eq_some_iff.mp hr
  exact zc_N X (hC x hx) hw hR hst hcat hdg hd hS hl (fun H1 locs1 h1 h2 => kk x hx r hk H1 locs1 ls h1 h2 hl)
theorem zv_cNM1 (X : Cx Γ Z cc own nL ret R) {y : MethodName} {bytes : ByteArray} {mL idx : Nat} {retc : Option FieldType} {rm : Room} {av st0 : List Value} {oc : Option (Int × Mm)} {kf : Int → Mm → Option α} {host : String} (hC : CtM Γ.2.1 Z y bytes mL retc rm 1 av D oc) (hw : zSn own idx y bytes mL retc av.length host)  (hR : zRm rm R mL) (hst : st0 = av.reverse ++ st) (hcat : (st.map fun v => v.category).sum ≤ 8) (hdg : decode cc pc = .ok (.invokestatic idx, 3)) (kk : ∀ r D1, oc = some (r, D1) → Zv Γ Z nL Qf (kf r D1) D1 (pc + 3) lv (zi r :: st)) : Zv Γ Z nL Qf (zb oc kf) D pc lv st0 := by
  intro r hr H locs ls hd hS hl
  obtain ⟨x, hx, hk⟩ := Option.bind_eq_some_iff.mp hr
  exact zc_N X (hC x hx) hw hR hst hcat hdg hd hS hl (fun H1 locs1 h1 h2 => kk x.1 x.2 hx r hk H1 locs1 ls h1 h2 hl)
theorem zv_cNP2 (X : Cx Γ Z cc own nL ret R) {y : MethodName} {bytes : ByteArray} {mL idx : Nat} {retc : Option FieldType} {rm : Room} {av st0 : List Value} {oc : Option Int} {kf : Int → Option α} {host : String} (hC : CtP Γ.2.1 Z y bytes mL retc rm 2 av D oc) (hw : zSn own idx y bytes mL retc av.length host)  (hR : zRm rm R mL) (hst : st0 = av.reverse ++ st) (hcat : (st.map fun v => v.category).sum ≤ 8) (hdg : decode cc pc = .ok (.invokestatic idx, 3)) (kk : ∀ r, oc = some r → Zv Γ Z nL Qf (kf r) D (pc + 3) lv (zl r :: st)) : Zv Γ Z nL Qf (oc.bind kf) D pc lv st0 := by
  intro r hr H locs ls hd hS hl
  obtain ⟨x, hx, hk⟩ := Option.bind_eq_some_iff.mp hr
  exact zc_N X (hC x hx) hw hR hst hcat hdg hd hS hl (fun H1 locs1 h1 h2 => kk x hx r hk H1 locs1 ls h1 h2 hl)
theorem zv_cNM2 (X : Cx Γ Z cc own nL ret R) {y : MethodName} {bytes : ByteArray} {mL idx : Nat} {retc : Option FieldType} {rm : Room} {av st0 : List Value} {oc : Option (Int × Mm)} {kf : Int → Mm → Option α} {host : String} (hC : CtM Γ.2.1 Z y bytes mL retc rm 2 av D oc) (hw : zSn own idx y bytes mL retc av.length host)  (hR : zRm rm R mL) (hst : st0 = av.reverse ++ st) (hcat : (st.map fun v => v.category).sum ≤ 8) (hdg : decode cc pc = .ok (.invokestatic idx, 3)) (kk : ∀ r D1, oc = some (r, D1) → Zv Γ Z nL Qf (kf r D1) D1 (pc + 3) lv (zl r :: st)) : Zv Γ Z nL Qf (zb oc kf) D pc lv st0 := by
  intro r hr H locs ls hd hS hl
  obtain ⟨x, hx, hk⟩ := Option.bind_eq_some_iff.mp hr
  exact zc_N X (hC x hx) hw hR hst hcat hdg hd hS hl (fun H1 locs1 h1 h2 => kk x.1 x.2 hx r hk H1 locs1 ls h1 h2 hl)
theorem zv_cVM0 (X : Cx Γ Z cc own nL ret R) {y : MethodName} {bytes : ByteArray} {mL idx : Nat} {retc : Option FieldType} {rm : Room} {av st0 : List Value} {oc : Option (Int × Mm)} {kf : Int → Mm → Option α} {a n : Int} {ci N : Nat} {T : u_T} (hC : CtM Γ.2.1 Z y bytes mL retc rm 0 (zr Z a :: av) D oc) (hw : zVt own idx y bytes mL retc av.length) (hc : classes[ci]? = some (y.cls, T, N)) (ha : Zin Z a (10 + ci) n) (hR : zRm rm R mL) (hst : st0 = av.reverse ++ zr Z a :: st) (hcat : (st.map fun v => v.category).sum ≤ 8) (hdg : decode cc pc = .ok (.invokevirtual idx, 3)) (kk : ∀ r D1, oc = some (r, D1) → Zv Γ Z nL Qf (kf r D1) D1 (pc + 3) lv st) : Zv Γ Z nL Qf (zb oc kf) D pc lv st0 := by
  intro r hr H locs ls hd hS hl
  obtain ⟨x, hx, hk⟩ := Option.bind_eq_some_iff.mp hr
  exact zc_V X (hC x hx) hw hc ha hR hst hcat hdg hd hS hl (fun H1 locs1 h1 h2 => kk x.1 x.2 hx r hk H1 locs1 ls h1 h2 hl)
theorem zv_cVP1 (X : Cx Γ Z cc own nL ret R) {y : MethodName} {bytes : ByteArray} {mL idx : Nat} {retc : Option FieldType} {rm : Room} {av st0 : List Value} {oc : Option Int} {kf : Int → Option α} {a n : Int} {ci N : Nat} {T : u_T} (hC : CtP Γ.2.1 Z y bytes mL retc rm 1 (zr Z a :: av) D oc) (hw : zVt own idx y bytes mL retc av.length) (hc : classes[ci]? = some (y.cls, T, N)) (ha : Zin Z a (10 + ci) n) (hR : zRm rm R mL) (hst : st0 = av.reverse ++ zr Z a :: st) (hcat : (st.map fun v => v.category).sum ≤ 8) (hdg : decode cc pc = .ok (.invokevirtual idx, 3)) (kk : ∀ r, oc = some r → Zv Γ Z nL Qf (kf r) D (pc + 3) lv (zi r :: st)) : Zv Γ Z nL Qf (oc.bind kf) D pc lv st0 := by
  intro r hr H locs ls hd hS hl
  obtain ⟨x, hx, hk⟩ := Option.bind_eq_some_iff.mp hr
  exact zc_V X (hC x hx) hw hc ha hR hst hcat hdg hd hS hl (fun H1 locs1 h1 h2 => kk x hx r hk H1 locs1 ls h1 h2 hl)
theorem zv_cVM1 (X : Cx Γ Z cc own nL ret R) {y : MethodName} {bytes : ByteArray} {mL idx : Nat} {retc : Option FieldType} {rm : Room} {av st0 : List Value} {oc : Option (Int × Mm)} {kf : Int → Mm → Option α} {a n : Int} {ci N : Nat} {T : u_T} (hC : CtM Γ.2.1 Z y bytes mL retc rm 1 (zr Z a :: av) D oc) (hw : zVt own idx y bytes mL retc av.length) (hc : classes[ci]? = some (y.cls, T, N)) (ha : Zin Z a (10 + ci) n) (hR : zRm rm R mL) (hst : st0 = av.reverse ++ zr Z a :: st) (hcat : (st.map fun v => v.category).sum ≤ 8) (hdg : decode cc pc = .ok (.invokevirtual idx, 3)) (kk : ∀ r D1, oc = some (r, D1) → Zv Γ Z nL Qf (kf r D1) D1 (pc + 3) lv (zi r :: st)) : Zv Γ Z nL Qf (zb oc kf) D pc lv st0 := by
  intro r hr H locs ls hd hS hl
  obtain ⟨x, hx, hk⟩ := Option.bind_eq_some_iff.mp hr
  exact zc_V X (hC x hx) hw hc ha hR hst hcat hdg hd hS hl (fun H1 locs1 h1 h2 => kk x.1 x.2 hx r hk H1 locs1 ls h1 h2 hl)
theorem zv_cVP2 (X : Cx Γ Z cc own nL ret R) {y : MethodName} {bytes : ByteArray} {mL idx : Nat} {retc : Option FieldType} {rm : Room} {av st0 : List Value} {oc : Option Int} {kf : Int → Option α} {a n : Int} {ci N : Nat} {T : u_T} (hC : CtP Γ.2.1 Z y bytes mL retc rm 2 (zr Z a :: av) D oc) (hw : zVt own idx y bytes mL retc av.length) (hc : classes[ci]? = some (y.cls, T, N)) (ha : Zin Z a (10 + ci) n) (hR : zRm rm R mL) (hst : st0 = av.reverse ++ zr Z a :: st) (hcat : (st.map fun v => v.category).sum ≤ 8) (hdg : decode cc pc = .ok (.invokevirtual idx, 3)) (kk : ∀ r, oc = some r → Zv Γ Z nL Qf (kf r) D (pc + 3) lv (zl r :: st)) : Zv Γ Z nL Qf (oc.bind kf) D pc lv st0 := by
  intro r hr H locs ls hd hS hl
  obtain ⟨x, hx, hk⟩ := Option.bind_eq_some_iff.mp hr
  exact zc_V X (hC x hx) hw hc ha hR hst hcat hdg hd hS hl (fun H1 locs1 h1 h2 => kk x hx r hk H1 locs1 ls h1 h2 hl)
theorem zv_cVM2 (X : Cx Γ Z cc own nL ret R) {y : MethodName} {bytes : ByteArray} {mL idx : Nat} {retc : Option FieldType} {rm : Room} {av st0 : List Value} {oc : Option (Int × Mm)} {kf : Int → Mm → Option α} {a n : Int} {ci N : Nat} {T : u_T} (hC : CtM Γ.2.1 Z y bytes mL retc rm 2 (zr Z a :: av) D oc) (hw : zVt own idx y bytes mL retc av.length) (hc : classes[ci]? = some (y.cls, T, N)) (ha : Zin Z a (10 + ci) n) (hR : zRm rm R mL) (hst : st0 = av.reverse ++ zr Z a :: st) (hcat : (st.map fun v => v.category).sum ≤ 8) (hdg : decode cc pc = .ok (.invokevirtual idx, 3)) (kk : ∀ r D1, oc = some (r, D1) → Zv Γ Z nL Qf (kf r D1) D1 (pc + 3) lv (zl r :: st)) : Zv Γ Z nL Qf (zb oc kf) D pc lv st0 := by
  intro r hr H locs ls hd hS hl
  obtain ⟨x, hx, hk⟩ := Option.bind_eq_some_iff.mp hr
  exact zc_V X (hC x hx) hw hc ha hR hst hcat hdg hd hS hl (fun H1 locs1 h1 h2 => kk x.1 x.2 hx r hk H1 locs1 ls h1 h2 hl)
theorem zm_M {l : Launch} {y : MethodName} {rm : Room} {rk : Nat} {av : List Value} {om : Option (Int × Mm)} (hZ : Zok Z) (hy : plainName y.cls = true) (hcls : y.cls = own) (hlen : (lg_sl av).length ≤ nL) (hlv : lv_args 0 av = lv) (body : ∀ Γ, Γ.2.1 = l → Cx Γ Z cc own nL ret rm → Zv Γ Z nL (QfM Γ Z rk) om D 0 lv []) : CtM l Z y cc nL ret rm rk av D om := by
  intro x hx
  refine Met.ofW (cc := cc) (maxL := nL) (ret := ret) hy rfl ?_
  intro p e s m args below meth c s₁ B hml hv
  obtain ⟨rfl, hd, hK⟩ := hv
  have hts := atoms_spec (ws := Cond.code y cc nL ret :: zT) B.pre
  have hown : s.vm.findClass y.cls = some m.cls := findClass_of_methodNamed B.named
  rw [hcls] at hown
  have hl := lv_entry av (n := nL) hlen
  rw [lg_entry_eq]
  rw [hlv] at hl
  exact body (p, l, e, rm, s, m, av.toArray, below, meth, c, 0, 0) rfl ⟨B.exec, B.bytes, hml, hown, fun w hw => hts w (List.mem_cons_of_mem _ hw), hK, B.notSynchronized, hZ, B.returns, rfl, Nat.zero_le _, Nat.zero_le _⟩ x hx s.heap [] _ hd va_S.rf hl
theorem zm_P {l : Launch} {y : MethodName} {rm : Room} {rk : Nat} {av : List Value} {om : Option Int} (hZ : Zok Z) (hy : plainName y.cls = true) (hcls : y.cls = own) (hlen : (lg_sl av).length ≤ nL) (hlv : lv_args 0 av = lv) (body : ∀ Γ, Γ.2.1 = l → Cx Γ Z cc own nL ret rm → Zv Γ Z nL (QfP Γ Z rk D) om D 0 lv []) : CtP l Z y cc nL ret rm rk av D om := by
  intro x hx
  refine Met.ofW (cc := cc) (maxL := nL) (ret := ret) hy rfl ?_
  intro p e s m args below meth c s₁ B hml hv
  obtain ⟨rfl, hd, hK⟩ := hv
  have hts := atoms_spec (ws := Cond.code y cc nL ret :: zT) B.pre
  have hown : s.vm.findClass y.cls = some m.cls := findClass_of_methodNamed B.named
  rw [hcls] at hown
  have hl := lv_entry av (n := nL) hlen
  rw [lg_entry_eq]
  rw [hlv] at hl
  exact body (p, l, e, rm, s, m, av.toArray, below, meth, c, 0, 0) rfl ⟨B.exec, B.bytes, hml, hown, fun w hw => hts w (List.mem_cons_of_mem _ hw), hK, B.notSynchronized, hZ, B.returns, rfl, Nat.zero_le _, Nat.zero_le _⟩ x hx s.heap [] _ hd va_S.rf hl
end ZD

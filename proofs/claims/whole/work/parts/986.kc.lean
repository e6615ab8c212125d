def Zc (G : va_G) (ar : Nat → ClassId) (b0 : Nat) (top : Int) : Zt := (G, ar, (fun x => b0 + (x - 1).toNat), top, b0)
def m0 : Mm := fun _ _ => 0
def Pk (av : List Value) (Z : Zt) (b0 n : Nat) (E : Nat → va_E) : Array Value → State → Prop := va_Pc av (fun U => va_P Z.1 classes (wq b0 n E) U.heap ∧ U.heap.size = b0 + n ∧ zK Z U ∧ zO U)
def Qk (Z : Zt) (b0 n : Nat) (E : Nat → va_E) : Array Value → State → Outcome → State → Prop := fun _ st oc t => oc = .returned none ∧ va_P Z.1 classes (wq b0 n E) t.heap ∧ va_F (zA2 b0) st t
def CtK (l : Launch) (Z : Zt) (b0 : Nat) (y : MethodName) (bytes : ByteArray) (mL : Nat) (rm : Room) (av : List Value) (n : Nat) (E : Nat → va_E) (n' : Nat) (E' : Nat → va_E) (mc ms : Nat) : Prop :=
  Met l y (Cond.code y bytes mL none :: zT) rm (Pk av Z b0 n E) (Qk Z b0 n' E') mc ms (zA2 b0)
def Kc (p : Program) (s : State) (m : MethodId) (args : Array Value) (meth : Method) (c : Code) (cc : ByteArray) (own : String) (nL : Nat) (Z : Zt) : Prop :=
  p.tables.exec = Jvm.exec ∧ c.code = cc ∧ c.maxLocals = nL ∧ s.vm.findClass own = some m.cls ∧ (∀ w ∈ zT, w.before args s = true) ∧ zK Z s ∧ zO s ∧ meth.locks = false ∧ meth.sig.returnType = none ∧ meth.name = "<init>"
theorem zPk_blind {av : List Value} {Z : Zt} {b0 n : Nat} {E : Nat → va_E} : FrameBlind (Pk av Z b0 n E) := by
  intro a U g mk q
  refine ⟨q.1, q.2.1, q.2.2.1, ⟨va_K.moved (u := U) (U := U.calling g mk a) (Vm.Alike.refl U.vm) q.2.2.2.1.1, fun w hw => ?_⟩, zO.moved (u := U) (U := U.calling g mk a) (Vm.Alike.refl U.vm) q.2.2.2.2⟩
  exact va_Nw.same (u := U) (U := U.calling g mk a) (z_nest_t w hw) rfl (q.2.2.2.1.2 w hw)
theorem km {l : Launch} {Z : Zt} {b0 : Nat} {y : MethodName} {cc : ByteArray} {own : String} {nL : Nat} {rm : Room} {av : List Value} {lv : List (Nat × Value)} {n n' mc ms : Nat} {E E' : Nat → va_E} (hy : plainFor y = true) (hcls : y.cls = own) (hname : y.name = "<init>") (hlen : (lg_sl av).length ≤ nL) (hlv : lv_args 0 av = lv)
    (body : ∀ (p : Program) (e : Env) (s : State) (m : MethodId) (args : Array Value) (below : List Frame) (meth : Method) (c : Code) (ls : Array Slot), Kc p s m args meth c cc own nL Z → s.heap.size = b0 + n → va_P Z.1 classes (wq b0 n E) s.heap → lv_has ls nL lv → W p l e rm s m args below meth c s.heap [] 0 0 (MQ below (Qk Z b0 n' E') args s mc ms (zA2 b0)) (F0 m 0 ls [])) : CtK l Z b0 y cc nL rm av n E n' E' mc ms := by
  refine va_MetF (cc := cc) (maxL := nL) (ret := none) hy rfl ?_
  intro p e s m args below meth c s₁ B hml hv
  obtain ⟨rfl, hP, hsz, hK, hO⟩ := hv
  have hts := atoms_spec (ws := Cond.code y cc nL none :: zT) B.pre
  have hown : s.vm.findClass y.cls = some m.cls := findClass_of_methodNamed B.named
  rw [hcls] at hown
  have hin : meth.name = "<init>" := by rw [← hname]; exact (name_of_methodNamed B.named B.method).1
  have hl := lv_entry av (n := nL) hlen
  rw [lg_entry_eq]
  rw [hlv] at hl
  exact body p e s m av.toArray below meth c _ ⟨B.exec, B.bytes, hml, hown, fun w hw => hts w (List.mem_cons_of_mem _ hw), hK, hO, B.notSynchronized, B.returns, hin⟩ hsz hP hl
section KT
variable {p : Program} {l : Launch} {e : Env} {R : Room} {s : State} {m : MethodId} {args : Array Value} {below : List Frame} {meth : Method} {c : Code} {H : Heap} {locs : List Loc} {cells slots : Nat} {Q : State → Prop} {cc : ByteArray} {pc : Nat} {ls : Array Slot} {rest : List Value} {Z : Zt} {b0 n : Nat} {E : Nat → va_E}
theorem kr_go {n' mc ms : Nat} {E' : Nat → va_E} {a : Array Value} {st0 : List Value} (hr : va_Run p l e R s m args below meth c H locs cells slots mc ms (F0 m pc ls st0) rest (Qk Z b0 n' E' a) (zA2 b0)) (hS : va_S (zA2 b0) s.heap H locs) (kk : ∀ (H1 : Heap) (locs1 : List Loc), va_P Z.1 classes (wq b0 n' E') H1 → va_S (zA2 b0) s.heap H1 locs1 → W p l e R s m args below meth c H1 locs1 (cells + mc) (slots + ms) Q (F0 m (pc + 3) ls rest)) : W p l e R s m args below meth c H locs cells slots Q (F0 m pc ls st0) := by
  intro T hT X
  obtain ⟨v, st₀, t, T', L, h0, X', hL, e1, e2, ⟨hv, hp, hz, hk⟩, st⟩ := hr T hT X
  cases hv
  rw [h0] at hz hk
  obtain ⟨t2, a1, b1⟩ := kk T'.heap (locs ++ L) (by rw [e1]; exact hp)
    ⟨Nat.le_trans hS.1 (by rw [e1]; exact hz), fun q h1 h2 => by rw [e1, hk q (Nat.lt_of_lt_of_le h1 hS.1) h2]; exact hS.2.1 q h1 h2, fun q hq => by
      rcases List.mem_append.mp hq with h | h
      · exact hS.2.2 q h
      · exact hL q h⟩ T' rfl X'
  exact ⟨t2, st t2 a1, b1⟩
theorem kr_initN {own host : String} {nL idx i n' mc ms : Nat} {E' : Nat → va_E} {y : MethodName} {bytes : ByteArray} {mL : Nat} {rm : Room} (S : CallFix p m c cc nL s args zT own) (hZK : zK Z s) (hO : zO s) (hM : CtK l Z b0 y bytes mL rm [.ref (b0 + i)] n E n' E' mc ms) (hnest : Cond.methodLinkNest own idx y host ∈ z_nest) (hinst : Cond.instanceMethod y ∈ zT) (hini : Cond.initialized y.cls ∈ zT) (hcode : Cond.code y bytes mL none ∈ zT) (hd : zD y 0) (hname : y.name = "<init>") (hrc : rm.cells = mc) (hrs : rm.slots = ms) (hRm : rm.frames + 1 ≤ R.frames ∧ 8 + (mL + 11) + rm.locals ≤ R.locals) (hb0 : b0 ≤ s.heap.size) (hs : s.heap.size + cells = b0 + n) (hP : va_P Z.1 classes (wq b0 n E) H) (hS : va_S (zA2 b0) s.heap H locs) (hl : ls.size = nL) (hcat : (rest.map fun v => v.category).sum ≤ 8) (hdg : decode cc pc = .ok (.invokespecial idx, 3)) (hf : cells + mc ≤ R.cells ∧ slots + ms ≤ R.slots)
    (kk : ∀ (H1 : Heap) (locs1 : List Loc), va_P Z.1 classes (wq b0 n' E') H1 → va_S (zA2 b0) s.heap H1 locs1 → W p l e R s m args below meth c H1 locs1 (cells + mc) (slots + ms) Q (F0 m (pc + 3) ls rest)) : W p l e R s m args below meth c H locs cells slots Q (F0 m pc ls (.ref (b0 + i) :: rest)) := by
  refine kr_up fun hup => ?_
  have hlo := kr_lo hP (Nat.le_trans hb0 hS.1)
  have hsz : H.size = b0 + n := by omega
  have hts := S.2.2.2.2
  exact kr_go (va_runIN (As := []) (rest := rest) (n := 0) (host := host) S hM ⟨va_cnB 0 hts (zT_sub hcode) rfl hrc hrs (hZK.2 _ hnest) (hts _ hini) hd hRm, hname, hts _ hinst⟩ ⟨zPk_blind, fun U hU hW => ⟨rfl, by rw [hU]; exact hP, by rw [hU]; exact hsz, hZK.warm hW, hO.moved hW.alike⟩⟩ rfl rfl hl rfl (lv_room hcat) hdg hf) hS kk
theorem kr_initL {own : String} {nL idx i n' mc ms : Nat} {E' : Nat → va_E} {y : MethodName} {bytes : ByteArray} {mL : Nat} {rm : Room} (S : CallFix p m c cc nL s args zT own) (hZK : zK Z s) (hO : zO s) (hM : CtK l Z b0 y bytes mL rm [.ref (b0 + i)] n E n' E' mc ms) (hlink : Cond.methodLink own idx y ∈ zT) (hinst : Cond.instanceMethod y ∈ zT) (hini : Cond.initialized y.cls ∈ zT) (hcode : Cond.code y bytes mL none ∈ zT) (hd : zD y 0) (hname : y.name = "<init>") (hrc : rm.cells = mc) (hrs : rm.slots = ms) (hRm : rm.frames + 1 ≤ R.frames ∧ 8 + (mL + 11) + rm.locals ≤ R.locals) (hb0 : b0 ≤ s.heap.size) (hs : s.heap.size + cells = b0 + n) (hP : va_P Z.1 classes (wq b0 n E) H) (hS : va_S (zA2 b0) s.heap H locs) (hl : ls.size = nL) (hcat : (rest.map fun v => v.category).sum ≤ 8) (hdg : decode cc pc = .ok (.invokespecial idx, 3)) (hf : cells + mc ≤ R.cells ∧ slots + ms ≤ R.slots)
    (kk : ∀ (H1 : Heap) (locs1 : List Loc), va_P Z.1 classes (wq b0 n' E') H1 → va_S (zA2 b0) s.heap H1 locs1 → W p l e R s m args below meth c H1 locs1 (cells + mc) (slots + ms) Q (F0 m (pc + 3) ls rest)) : W p l e R s m args below meth c H locs cells slots Q (F0 m pc ls (.ref (b0 + i) :: rest)) := by
  refine kr_up fun hup => ?_
  have hlo := kr_lo hP (Nat.le_trans hb0 hS.1)
  have hsz : H.size = b0 + n := by omega
  have hts := S.2.2.2.2
  exact kr_go (va_runI (As := []) (rest := rest) (n := 0) S hM ⟨callB_of 0 hts (zT_sub hcode) rfl hrc hrs (hts _ hini) (hts _ hlink) hd hRm, hname, hts _ hinst⟩ ⟨zPk_blind, fun U hU hW => ⟨rfl, by rw [hU]; exact hP, by rw [hU]; exact hsz, hZK.warm hW, hO.moved hW.alike⟩⟩ rfl rfl hl rfl (lv_room hcat) hdg hf) hS kk
end KT
/-- an object under construction at a: what stands behind it is already as it will be -/
def Ec (Z : Zt) (E : Nat → va_E) (a ci : Nat) (fs : List Value) : Nat → va_E := fun k => if k = a then .inr (ci, fs) else if a < k then em Z m0 ((k : Int) + 1) (sh ((k : Int) + 1)) else E k
def Ef (Z : Zt) (E : Nat → va_E) (a : Nat) : Nat → va_E := fun k => if a ≤ k then em Z m0 ((k : Int) + 1) (sh ((k : Int) + 1)) else E k
theorem zI_00 : zI 0 = 0 := by decide +kernel
theorem Ec_at {Z : Zt} {E : Nat → va_E} {a ci : Nat} {fs : List Value} : Ec Z E a ci fs a = .inr (ci, fs) := if_pos rfl
theorem Ec_arr {Z : Zt} {E : Nat → va_E} {a ci k N : Nat} {fs : List Value} {N' : Int} (h : a < k) (hs : sh ((k : Int) + 1) = (0, N')) (hN : N'.toNat = N) : Ec Z E a ci fs k = .inl (Z.2.1 0, N, .inl (fun _ => 0)) := by
  unfold Ec
  rw [if_neg (by omega), if_pos h, hs, em_arr, hN]
  unfold m0
  rw [zI_00]
theorem Ec_row {G : va_G} {ar : Nat → ClassId} {b0 : Nat} {top : Int} {E : Nat → va_E} {a ci k N : Nat} {fs : List Value} {N' : Int} (h : a < k) (hs : sh ((k : Int) + 1) = (1, N')) (hN : N'.toNat = N) : Ec (Zc G ar b0 top) E a ci fs k = .inl ((Zc G ar b0 top).2.1 1, N, .inr (.inr (.inr (.inr (fun j => some (b0 + (k + 1 + j))))))) := by
  unfold Ec
  rw [if_neg (by omega), if_pos h, hs, em_row, hN]
  congr 7
  funext j
  show some (b0 + ((k : Int) + 1 + 1 + (j : Int) - 1).toNat) = _
  congr 2
  omega
theorem Ec_put {Z : Zt} {E : Nat → va_E} {a ci n : Nat} {fs fs' : List Value} : ∀ j, j < n → j ≠ a → Ec Z E a ci fs' j = Ec Z E a ci fs j := by
  intro j _ hj
  unfold Ec
  rw [if_neg hj, if_neg hj]
theorem Ec_start {Z : Zt} {E : Nat → va_E} {a ci : Nat} {fs : List Value} (h : E a = .inr (ci, fs)) {b0 : Nat} : wq b0 (a + 1) E = wq b0 (a + 1) (Ec Z E a ci fs) := by
  refine (wq_cong (fun j hj => ?_)).symm
  unfold Ec
  by_cases e : j = a
  · rw [if_pos e, e, h]
  · rw [if_neg e, if_neg (by omega)]
theorem Ec_end {Z : Zt} {E : Nat → va_E} {a ci n : Nat} {fs : List Value} {N : Int} (hs : sh ((a : Int) + 1) = (10 + ci, N)) (hf : fl ci Z m0 ((a : Int) + 1) = fs) {b0 : Nat} : wq b0 n (Ec Z E a ci fs) = wq b0 n (Ef Z E a) := by
  refine wq_cong (fun j hj => ?_)
  unfold Ec Ef
  by_cases e : j = a
  · subst e
    rw [if_pos rfl, if_pos (Nat.le_refl _), hs, em_obj, hf]
  · rw [if_neg e]
    by_cases h : a < j
    · rw [if_pos h, if_pos (by omega)]
    · rw [if_neg h, if_neg (by omega)]

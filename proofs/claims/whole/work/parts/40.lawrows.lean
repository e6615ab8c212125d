-- ===== end of PART A; then your names; then what follows =====
/-! THE CLAIM OUT OF ONE WALK OF THE LAW'S BODY. Your part is whole_start (and what it stands on); all else here is the same for every law, but numbers. -/
def R_law : String := "QuernGrainsLaw"
def lw_P (b : Addr) (xs : List Int32) (args : Array Value) (s : State) : Prop := args = #[.ref b] ∧ s.IntsAt b xs ∧ xs.length ≤ 3584 ∧ (Jvm.Cond.and given_1 narrow_1).before args s = true
def lw_Q (_ : Array Value) (s : State) (o : Outcome) (t : State) : Prop := o = .returned (some (.int 1)) ∧ Framed s o t [] 600000 7302250
def lw_Z (below : List Frame) (a : Array Value) (s : State) : State → Prop := fun t => ∃ o, t.status = .running ∧ Ended t below o ∧ lw_Q a s o t
/-- the law's own end, with 1 on the stack, nothing written that was there before, its room as the claim has it -/
theorem lw_ret {p : Program} {l : Launch} {e : Env} {s : State} {m : MethodId} {below : List Frame} {meth : Method} {c : Code} {b : Nat} (hx : p.tables.exec = Jvm.exec) (hb : c.code = code) (hr : meth.sig.returnType = ret) (hlocks : meth.locks = false) {pc : Nat} {H : Heap} {ls : Array Slot} (hdg : decode code pc = .ok (.ireturn, 1)) : W p l e room_1 s m #[Value.ref b] below meth c H [] 600000 7302250 (lw_Z below #[Value.ref b] s) (F0 m pc ls [.int 1]) := by
  intro T hT X
  obtain ⟨fs, hret, hrun, hended, hW, hframe⟩ := X.leave (v := some (.int 1)) (hlocks := hlocks) (fun h => by rw [hr] at h; cases h)
  have hmeth' : T.vm.method? m = some meth := X.method'
  refine ⟨T.setFrames fs, ?_, .returned (some (.int 1)), hrun, hended, rfl, ⟨_, rfl⟩, hW, hframe⟩
  jvm_step X.here [X.here.top, hx, hb, hdg, hmeth', hr, ret, narrow_b1]
  (try refine ⟨rfl, ?_⟩); (try refine ⟨rfl, ?_⟩)
  first | (intro acts; rw [hret _ acts rfl rfl rfl]) | rw [hret _ _ rfl rfl rfl]
  exact Steps.refl _
/-- what holds at the law's entry: the machine, the code, the tables' words (any of lw_tbl by 'hts w (by decide +kernel)'), the script of L ints xs at the cell b, what the Statement gives of the start (any of its parts by flat_of_before) -/
def lw_At (p : Program) (s : State) (m : MethodId) (meth : Method) (c : Code) (b L : Nat) (xs : Nat → Int32) : Prop :=
  p.tables.exec = Jvm.exec ∧ c.code = code ∧ meth.sig.returnType = ret ∧ c.maxLocals = 4 ∧ s.vm.findClass R_law = some m.cls ∧ (∀ w ∈ lw_tbl, w.before #[Value.ref b] s = true) ∧ va_X b L xs s s.heap ∧ b < s.heap.size ∧ meth.locks = false ∧ (Jvm.Cond.and given_1 narrow_1).before #[Value.ref b] s = true

section ZL
def QfL (Γ : Gt) (b : Nat) : Unit → State → Prop := fun _ => lw_Z Γ.2.2.2.2.2.2.2.1 #[Value.ref b] Γ.2.2.2.2.1
def xz (xs : Nat → Int32) (i : Int) : Int := (xs i.toNat).toInt
def Lx (Γ : Gt) (Z : Zt) (b L : Nat) (xs : Nat → Int32) : Prop := va_X b L xs Γ.2.2.2.2.1 Γ.2.2.2.2.1.heap ∧ b < Γ.2.2.2.2.1.heap.size ∧ (¬ zA Z b) ∧ L ≤ 3584 ∧ Γ.2.2.2.2.2.2.1 = #[Value.ref b] ∧ Γ.2.2.2.2.1.heap.size ≤ Z.2.2.2.2
variable {α : Type} {Γ : Gt} {Z : Zt} {nL : Nat} {Qf : α → State → Prop} {o o1 o2 : Option α} {D : Mm} {pc : Nat} {lv lv2 : List (Nat × Value)} {st : List Value} {cc : ByteArray} {own : String} {ret : Option FieldType} {R : Room} {b L : Nat} {xs : Nat → Int32}
theorem zv_saload_n (X : Cx Γ Z cc own nL ret R) {k0 : Fin 4} {i : Nat} (hdg : decode cc pc = .ok (.aload_n k0, 1)) (hi : (k0 : Nat) = i) (q : Nat) (hq : lv[q]? = some (i, Value.ref b)) (k : Zv Γ Z nL Qf o D (pc + 1) lv (Value.ref b :: st)) : Zv Γ Z nL Qf o D pc lv st := by
  intro r hr H locs ls hw hs hl
  exact lv_aload_n X.1 X.2.1 hdg hi (lv_at hl q hq) (k r hr H locs ls hw hs hl)
theorem zv_slen (X : Cx Γ Z cc own nL ret R) (hL : Lx Γ Z b L xs) (hdg : decode cc pc = .ok (.arraylength, 1)) (k : Zv Γ Z nL Qf o D (pc + 1) lv (zi (L : Int) :: st)) : Zv Γ Z nL Qf o D pc lv (Value.ref b :: st) := by
  intro r hr H locs ls hw hs hl
  have k2 := k r hr H locs ls hw hs hl
  unfold zi at k2
  have e1 : zI (L : Int) = nI L := Int32.ofInt_eq_ofNat
  rw [e1] at k2
  exact va_slen X.1 X.2.1 hL.1 hL.2.1 hL.2.2.1 hs hdg k2
theorem zv_sld (X : Cx Γ Z cc own nL ret R) (hL : Lx Γ Z b L xs) {i : Int} {inst : Decidable (0 ≤ i ∧ i < (L : Int))} (hdg : decode cc pc = .ok (.iaload, 1)) (kk : 0 ≤ i → i < (L : Int) → Zv Γ Z nL Qf o D (pc + 1) lv (zi (xz xs i) :: st)) : Zv Γ Z nL Qf (@ite _ (0 ≤ i ∧ i < (L : Int)) inst o none) D pc lv (zi i :: Value.ref b :: st) := by
  intro r hr H locs ls hw hs hl
  by_cases hc : 0 ≤ i ∧ i < (L : Int)
  · rw [if_pos hc] at hr
    have hb := hL.2.2.2.1
    obtain ⟨g1, g2⟩ := vp_in_z hc.1 hc.2 (by omega)
    rw [Int.toNat_natCast] at g1
    have k2 := kk hc.1 hc.2 r hr H locs ls hw hs hl
    unfold zi xz at k2
    rw [zI_of] at k2
    refine va_sld X.1 X.2.1 hL.1 hL.2.1 hL.2.2.1 hs g1 hdg ?_
    rw [g2]
    exact k2
  · rw [if_neg hc] at hr
    cases hr
theorem zv_law1 (X : Cx Γ Z code own nL (some .boolean) room_1) (hL : Lx Γ Z b L xs) (hdg : decode code pc = .ok (.ireturn, 1)) : Zv Γ Z nL (QfL Γ b) (some ()) D pc lv [zi 1] := by
  intro r hr H locs ls hw hs hl
  obtain ⟨p, l, e, R', s, m, args, below, meth, c, nc, ns⟩ := Γ
  obtain ⟨hx, hb, hml, hown, hts, hK, hlk, hz, hrt, hR, hnc, hns⟩ := X
  obtain ⟨l1, l2, l3, l4, l5, l6⟩ := hL
  dsimp only at hR l5 l6 hs
  subst hR
  subst l5
  refine va_forget (fun q hq => Nat.le_trans l6 (hs.2.2 q hq)) ?_
  refine W.widen (k := 600000) (n := 7302250) hnc hns ?_
  exact lw_ret hx hb hrt hlk hdg
end ZL

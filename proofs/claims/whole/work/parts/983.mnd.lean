section MND
variable {p : Program} {l : Launch} {e : Env} {R : Room} {s : State} {m : MethodId} {args : Array Value} {below : List Frame} {meth : Method} {c : Code} {H : Heap} {locs : List Loc} {cells slots : Nat} {Q : State → Prop}
theorem mn_W {cc : ByteArray} (hexec : p.tables.exec = Jvm.exec) (hb : c.code = cc) {own : String} {index : Nat} (hown : s.vm.findClass own = some m.cls) (hclink : (Cond.classLink own index "[[I").before args s = true) (hover : (Cond.arrayOver (.array .int)).before args s = true) (harr : (Cond.arrayClass .int).before args s = true)
    {g : JFrame} (hg : g.method = m) (hdg : decode cc g.pc = .ok (.multianewarray index 2, 4)) {n k : Int32} {rest : List Value} (hstack : g.stack = .int k :: .int n :: rest) (hn : ¬ n < 0) (hk : ¬ k < 0) {N K : Nat} (hN : n.toNatClampNeg = N) (hK : k.toNatClampNeg = K) (hpos : 0 < N) (hsm : N + K ≤ 1000) (hcells : cells + 1 + N ≤ R.cells) (hslots : slots + N + N * K ≤ R.slots)
    (kk : ∀ (H' : Heap) (L : List Loc) (cA cI : ClassId), ArrOfT s cA (.array .int) → va_RA s cA (.array .int) → ArrOfT s cI .int → va_RA s cI .int → mPic H H' cA cI N K N → (∀ q ∈ L, q.base = H.size) → W p l e R s m args below meth c H' (locs ++ L) (cells + 1 + N) (slots + N + N * K) Q { g with pc := g.pc + 4, stack := .ref H.size :: rest }) : W p l e R s m args below meth c H locs cells slots Q g := by
  intro T hT X
  subst hT; subst hb; subst hg; subst hN; subst hK
  have hpl : e.platform.magicAccessors = ({} : Platform).magicAccessors := by rw [X.admits.platform]
  obtain ⟨comp, cA, kA, hcomp, hidx, hkA, hkindA, hnameA⟩ := arrayOverA_spec hover
  obtain ⟨comp', kC, cc', hcomp', hkC, hkindC⟩ := Cond.arrayClass_spec harr
  have ecomp : comp' = comp := Option.some.inj (hcomp'.symm.trans hcomp)
  subst ecomp
  obtain ⟨c0, hfc0, hcl⟩ := Cond.classLink_spec hown hclink e.platform hpl
  have ec0 : cA = c0 := Option.some.inj (hnameA.symm.trans hfc0)
  subst ec0
  obtain ⟨hg₁, hwarm₁, hready₁⟩ := State.classEntry (e := e) X.warmed hcl
  generalize T.vm.noted g.method.cls index (.cls cA) = vm₁ at hg₁ hwarm₁ hready₁
  have hal : s.vm.Alike vm₁ := hwarm₁.alike
  obtain ⟨kA₁, hkA₁, heA⟩ := hal.2.2 _ _ hkA
  obtain ⟨kC₁, hkC₁, heC⟩ := hal.2.2 _ _ hkC
  have hkindA₁ : kA₁.kind = .array comp' (.array .int) := by rw [heA]; exact hkindA
  have hkindC₁ : kC₁.kind = .array cc' .int := by rw [heC]; exact hkindC
  have X₁ := X.noted hwarm₁
  have hl : ∀ x : Nat, x ≤ n.toNatClampNeg + k.toNatClampNeg → ¬ x > e.platform.arrayLengthLimit := fun x hx => by rw [Launch.admits_arrayLengthLimit X.admits]; omega
  have hh : ∀ x : Nat, x ≤ n.toNatClampNeg + k.toNatClampNeg → ¬ x * 4 > e.platform.maxHeapBytes := fun x hx => by rw [Launch.admits_maxHeapBytes X.admits]; omega
  have hw : wpRun (multianewarray.sem index 2) (fun _ s₁ _ => mInv p l e R s g.method args below meth c locs cells slots { g with stack := .ref T.heap.size :: rest } vm₁ T.heap cA comp' n.toNatClampNeg k.toNatClampNeg n.toNatClampNeg s₁) (fun _ _ _ => False) e (T.setTop g) := by
    unfold wpRun
    unfold multianewarray.sem
    rw [wp_bind']
    refine (W.resolveClassAt_transfer (s := T.setTop g) (State.method?_setTop g X.here.top) hg₁ hready₁).mpr ?_
    refine (W.resolveClassAt_ready (s := (T.setTop g).setVm vm₁) (State.method?_setTop g X.here.top) hready₁).mpr ?_
    rw [wp_bind']
    refine (popN_top (args := [.int n, .int k]) (s := T.setVm vm₁) X.here.top (rest := rest) hstack).mpr ?_
    simp only [List.mapM_cons, List.mapM_nil, wp_bind', wp_pure']
    refine mn_make X₁ hkA₁ hkindA₁ hkC₁ hkindC₁ hn hk hl hh hcells hslots hpos (fun d' acts' s' hI => ?_)
    simp only [wp_bind', W.mark, W.pushRef]
    obtain ⟨T', L, rfl, X', hpic, hvm, hL⟩ := hI
    refine ⟨_, State.topJava?_setTop' _ X'.here.top, T', L, ?_, X', hpic, hvm, hL⟩
    simp
  have hrun := (wpRun_iff_run _ _ _ _ _).mp hw
  cases hr : (multianewarray.sem index 2).run e (T.setTop g) with
  | ctl x s₁ acts =>
    rw [hr] at hrun
    cases x <;> exact hrun.elim
  | ok u s₁ acts =>
    rw [hr] at hrun
    obtain ⟨T', L, hs₁, X', hpic, hvm, hL⟩ := hrun
    have hA : ArrOfT s cA (.array .int) := fun N z => ⟨(fun k h => by cases h), kA, hkA, comp', hkindA⟩
    have hI : ArrOfT s comp' .int := fun N z => ⟨(fun k h => by cases h), kC, hkC, cc', hkindC⟩
    obtain ⟨t, a1, b1⟩ := kk T'.heap L cA comp' hA hnameA hI hcomp' hpic hL T' rfl X'
    refine ⟨t, ?_, b1⟩
    refine Steps.instr (c := c) X.here ?_
    rw [hdg]
    dsimp only
    rw [hexec]
    refine (wpRun_iff_run _ _ _ _ _).mpr ?_
    have hex : exec (Instr.multianewarray index 2) = multianewarray.sem index 2 := rfl
    rw [hex, hr]
    intro acts'
    rw [hs₁, afterInstr_ok]
    exact a1
end MND

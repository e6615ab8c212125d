/-- array classes that a constructor asks for by their component -/
def zO (U : State) : Prop := va_AO "QuernGrains$Finds" U ∧ (Cond.arrayOver (.array .int)).before #[] U = true
theorem zO_A {u U : State} (hvm : u.vm.Alike U.vm) (h : (Cond.arrayOver (.array .int)).before #[] u = true) : (Cond.arrayOver (.array .int)).before #[] U = true := by
  obtain ⟨comp, c, k, h1, h2, h3, h4, h5⟩ := arrayOverA_spec h
  obtain ⟨k', hk', he⟩ := hvm.2.2 _ _ h3
  have hi : (U.vm.classes.findIdx? fun (x : Class) => match x.kind with | .array component _ => component == comp | _ => false) = some c := by
    rw [hvm.findIdx?_eq _ (fun _ => rfl)]
    exact h2
  have hkind : k'.kind = .array comp (.array .int) := by rw [he]; exact h4
  have f1 : U.vm.findClass (FieldType.array .int).toString = some comp := by rw [hvm.findClass]; exact h1
  have f2 : U.vm.findClass ("[" ++ (FieldType.array .int).toString) = some c := by rw [hvm.findClass]; exact h5
  unfold Cond.before Cond.holds
  simp only [Cond.value]
  rw [f1, Option.bind_some]
  refine (congrArg (fun o : Option Nat => (o.bind (fun c => (U.vm.classes[c]?).map fun (k : Class) => match k.kind with | .array _ ty => decide (ty = FieldType.array .int) && decide (U.vm.findClass ("[" ++ (FieldType.array .int).toString) = some c) | _ => false) == some true)) hi).trans ?_
  simp [hk', hkind, f2]
theorem zO.moved {u U : State} (hvm : u.vm.Alike U.vm) (h : zO u) : zO U := ⟨h.1.moved hvm, zO_A hvm h.2⟩
section KS
variable {p : Program} {l : Launch} {e : Env} {R : Room} {s : State} {m : MethodId} {args : Array Value} {below : List Frame} {meth : Method} {c : Code} {H : Heap} {locs : List Loc} {cells slots : Nat} {Q : State → Prop} {cc : ByteArray} {pc : Nat} {ls : Array Slot} {rest : List Value} {Z : Zt} {b0 n : Nat} {E : Nat → va_E}
theorem kr_putF (hx : p.tables.exec = Jvm.exec) (hb : c.code = cc) {own : String} {T : u_T} {N ci index : Nat} (hts : ∀ w ∈ zT, w.before args s = true) (hin : ∀ w ∈ u_ws own T N, w ∈ zT) (ty0 : Nat → FieldType) (hty : ∀ k, k < N → parseFieldDescriptor (T k).2.2.1 = some (ty0 k)) (hnm : ∀ a, a < N → ∀ b, b < N → a ≠ b → (T a).2.1 ≠ (T b).2.1) (hown : s.vm.findClass own = some m.cls) (hin2 : meth.name = "<init>") (hK : va_K Z.1 classes (zty Z) s) (hP : va_P Z.1 classes (wq b0 n E) H) (hS : va_S (zA2 b0) s.heap H locs) (i : Nat) (hi : i < n) {fs : List Value} (hE : E i = .inr (ci, fs)) (hc : classes[ci]? = some (own, T, N)) (k : Nat) (hk : k < N) (hlink : Cond.fieldLink own index own (T k).2.1 (T k).2.2.1 ∈ zT) (hfin : (T k).2.2.2 = true) (hcls : (T k).1 = own) {v : Value} (hn : narrow (ty0 k) v = v) (hfit : fits (ty0 k) v = true) (hl : k < fs.length) (E' : Nat → va_E) (h1 : E' i = .inr (ci, fs.set k v)) (h2 : ∀ j, j < n → j ≠ i → E' j = E j)
    (hdg : decode cc pc = .ok (.putfield index, 3)) (kk : ∀ (H1 : Heap) (locs1 : List Loc), va_P Z.1 classes (wq b0 n E') H1 → va_S (zA2 b0) s.heap H1 locs1 → W p l e R s m args below meth c H1 locs1 cells slots Q (F0 m (pc + 3) ls rest)) : W p l e R s m args below meth c H locs cells slots Q (F0 m pc ls (v :: .ref (b0 + i) :: rest)) := by
  have he : (wq b0 n E)[i]? = some (b0 + i, .inr (ci, fs)) := by rw [wq_at hi, hE]
  refine va_putF hx hb hts hin ty0 hty hnm hown hK hP wq_D hS i he hc k hk (hts _ hlink) (fun x h => by rw [hcls] at h; exact h) hfin hin2 hcls (hty k hk) hn hfit hl hdg (fun H1 locs1 g1 g2 g3 => ?_)
  rw [wq_set hi h1 h2] at g1
  exact kk H1 locs1 g1 g3
theorem kr_put (hx : p.tables.exec = Jvm.exec) (hb : c.code = cc) {own : String} {T : u_T} {N ci index : Nat} (hts : ∀ w ∈ zT, w.before args s = true) (hin : ∀ w ∈ u_ws own T N, w ∈ zT) (ty0 : Nat → FieldType) (hty : ∀ k, k < N → parseFieldDescriptor (T k).2.2.1 = some (ty0 k)) (hnm : ∀ a, a < N → ∀ b, b < N → a ≠ b → (T a).2.1 ≠ (T b).2.1) (hown : s.vm.findClass own = some m.cls) (hK : va_K Z.1 classes (zty Z) s) (hP : va_P Z.1 classes (wq b0 n E) H) (hS : va_S (zA2 b0) s.heap H locs) (i : Nat) (hi : i < n) {fs : List Value} (hE : E i = .inr (ci, fs)) (hc : classes[ci]? = some (own, T, N)) (k : Nat) (hk : k < N) (hlink : Cond.fieldLink own index own (T k).2.1 (T k).2.2.1 ∈ zT) (hfin : (T k).2.2.2 = false) (hcls : (T k).1 = own) {v : Value} (hn : narrow (ty0 k) v = v) (hfit : fits (ty0 k) v = true) (hl : k < fs.length) (E' : Nat → va_E) (h1 : E' i = .inr (ci, fs.set k v)) (h2 : ∀ j, j < n → j ≠ i → E' j = E j)
    (hdg : decode cc pc = .ok (.putfield index, 3)) (kk : ∀ (H1 : Heap) (locs1 : List Loc), va_P Z.1 classes (wq b0 n E') H1 → va_S (zA2 b0) s.heap H1 locs1 → W p l e R s m args below meth c H1 locs1 cells slots Q (F0 m (pc + 3) ls rest)) : W p l e R s m args below meth c H locs cells slots Q (F0 m pc ls (v :: .ref (b0 + i) :: rest)) := by
  have he : (wq b0 n E)[i]? = some (b0 + i, .inr (ci, fs)) := by rw [wq_at hi, hE]
  refine va_put hx hb hts hin ty0 hty hnm hown hK hP wq_D hS i he hc k hk (hts _ hlink) (fun x h => by rw [hcls] at h; exact h) hfin (hty k hk) hn hfit hl hdg (fun H1 locs1 g1 g2 g3 => ?_)
  rw [wq_set hi h1 h2] at g1
  exact kk H1 locs1 g1 g3
theorem kr_newq (hx : p.tables.exec = Jvm.exec) (hb : c.code = cc) {own : String} {index : Nat} (hown : s.vm.findClass own = some m.cls) (hts : ∀ w ∈ zT, w.before args s = true) (hcl : Cond.classLink own index "QuernGrains$Finds" ∈ zT) (hO : zO s) (hK : va_K Z.1 classes (zty Z) s) (hb0 : b0 ≤ s.heap.size) (hs : s.heap.size + cells = b0 + n) (hP : va_P Z.1 classes (wq b0 n E) H) (hS : va_S (zA2 b0) s.heap H locs) {x : Int32} {N : Nat} (hE : E n = .inl (Z.2.1 2, N, .inr (.inr (.inr (.inr (fun _ => none)))))) (hx0 : ¬ x < 0) (hxN : x.toNatClampNeg = N) (hbytes : N * 4 ≤ 536870912) (hcells : cells + 1 ≤ R.cells) (hslots : slots + N ≤ R.slots) (hdg : decode cc pc = .ok (.anewarray index, 3))
    (kk : ∀ H1 : Heap, va_P Z.1 classes (wq b0 (n + 1) E) H1 → va_S (zA2 b0) s.heap H1 locs → W p l e R s m args below meth c H1 locs (cells + 1) (slots + N) Q (F0 m (pc + 3) ls (.ref (b0 + n) :: rest))) : W p l e R s m args below meth c H locs cells slots Q (F0 m pc ls (.int x :: rest)) := by
  refine va_newq hx hb hown (hts _ hcl) hO.1 hK hP wq_D hS (fun q hq => Nat.le_trans hb0 hq) hx0 hxN hbytes hcells hslots hdg (fun q cA H1 hK1 h1 h2 h3 => ?_)
  have ec : cA = Z.2.1 2 := by
    obtain ⟨-, -, -, -, -, -, e1⟩ := hK1.2 3 (cA, .object "QuernGrains$Finds") rfl
    obtain ⟨-, -, -, -, -, -, e2⟩ := hK.2 2 (Z.2.1 2, .object "QuernGrains$Finds") rfl
    exact Option.some.inj (e1.symm.trans e2)
  subst ec
  refine kr_up fun hup => ?_
  have hl : (wq b0 n E).length = n := by unfold wq; simp
  have hA := h2.2 n (q, _) (by rw [List.getElem?_append_right (by omega), hl, Nat.sub_self]; rfl)
  have hA : b0 ≤ q := hA
  have hq := (h1 n (q, _) (by rw [List.getElem?_append_right (by omega), hl, Nat.sub_self]; rfl)).lt
  have hq : q < H1.size := hq
  have hne : ¬ q < b0 + n := fun hlt => by
    have e := h2.1 (q - b0) n (b0 + (q - b0), E (q - b0)) (q, _) (by rw [List.getElem?_append_left (by omega)]; exact wq_at (by omega)) (by rw [List.getElem?_append_right (by omega), hl, Nat.sub_self]; rfl) (by show b0 + (q - b0) = q; omega)
    omega
  have eq : q = b0 + n := by omega
  subst eq
  rw [← hE, wq_succ] at h1
  exact kk H1 h1 h3
theorem kr_astq (hx : p.tables.exec = Jvm.exec) (hb : c.code = cc) (hK : va_K Z.1 classes (zty Z) s) (hP : va_P Z.1 classes (wq b0 n E) H) (hS : va_S (zA2 b0) s.heap H locs) (i v : Nat) (hi : i < n) (hv : v < n) {N : Nat} {f : Nat → Option Nat} {vs : List Value} (hE : E i = .inl (Z.2.1 2, N, .inr (.inr (.inr (.inr f))))) (hEv : E v = .inr (4, vs)) {x : Int32} (hin : vp_in x N) (E' : Nat → va_E) (h1 : E' i = .inl (Z.2.1 2, N, .inr (.inr (.inr (.inr (va_up f x.toNatClampNeg (some (b0 + v)))))))) (h2 : ∀ j, j < n → j ≠ i → E' j = E j) (hdg : decode cc pc = .ok (.aastore, 1))
    (kk : ∀ (H1 : Heap) (locs1 : List Loc), va_P Z.1 classes (wq b0 n E') H1 → va_S (zA2 b0) s.heap H1 locs1 → W p l e R s m args below meth c H1 locs1 cells slots Q (F0 m (pc + 1) ls rest)) : W p l e R s m args below meth c H locs cells slots Q (F0 m pc ls (.ref (b0 + v) :: .int x :: .ref (b0 + i) :: rest)) := by
  have he : (wq b0 n E)[i]? = some (b0 + i, .inl (Z.2.1 2, N, .inr (.inr (.inr (.inr f))))) := by rw [wq_at hi, hE]
  have hv' : (wq b0 n E)[v]? = some (b0 + v, .inr (4, vs)) := by rw [wq_at hv, hEv]
  refine va_astq (r := (R_Finds, F_Finds, 5)) hx hb hK hP wq_D hS i 2 v 4 he rfl hv' rfl hin hdg (fun H1 locs1 g1 g2 g3 => ?_)
  rw [wq_set hi h1 h2] at g1
  exact kk H1 locs1 g1 g3
theorem kr_mna (hx : p.tables.exec = Jvm.exec) (hb : c.code = cc) {own : String} {index : Nat} (hown : s.vm.findClass own = some m.cls) (hts : ∀ w ∈ zT, w.before args s = true) (hcl : Cond.classLink own index "[[I" ∈ zT) (hac : Cond.arrayClass .int ∈ zT) (hO : zO s) (hK : va_K Z.1 classes (zty Z) s) (hb0 : b0 ≤ s.heap.size) (hs : s.heap.size + cells = b0 + n) (hP : va_P Z.1 classes (wq b0 n E) H) (hS : va_S (zA2 b0) s.heap H locs) {x y : Int32} (hx0 : ¬ x < 0) (hy0 : ¬ y < 0) {N K : Nat} (hN : x.toNatClampNeg = N) (hKk : y.toNatClampNeg = K) (hpos : 0 < N) (hsm : N + K ≤ 1000)
    (hE : E n = .inl (Z.2.1 1, N, .inr (.inr (.inr (.inr (fun j => some (b0 + (n + 1 + j)))))))) (hEr : ∀ j, j < N → E (n + 1 + j) = .inl (Z.2.1 0, K, .inl (fun _ => 0))) (hcells : cells + 1 + N ≤ R.cells) (hslots : slots + N + N * K ≤ R.slots) (hdg : decode cc pc = .ok (.multianewarray index 2, 4))
    (kk : ∀ (H1 : Heap) (locs1 : List Loc), va_P Z.1 classes (wq b0 (n + 1 + N) E) H1 → va_S (zA2 b0) s.heap H1 locs1 → W p l e R s m args below meth c H1 locs1 (cells + 1 + N) (slots + N + N * K) Q (F0 m (pc + 4) ls (.ref (b0 + n) :: rest))) : W p l e R s m args below meth c H locs cells slots Q (F0 m pc ls (.int y :: .int x :: rest)) := by
  refine kr_up fun hup => ?_
  have hlo := kr_lo hP (Nat.le_trans hb0 hS.1)
  have hsz : H.size = b0 + n := by omega
  refine mn_W hx hb hown (hts _ hcl) hO.2 (hts _ hac) rfl hdg rfl hx0 hy0 hN hKk hpos hsm hcells hslots (fun H1 L cA cI a1 a2 a3 a4 ⟨z1, z2, z3, z4⟩ hL => ?_)
  have ec : cI = Z.2.1 0 := Option.some.inj (a4.symm.trans (hK.2 0 (Z.2.1 0, .int) rfl).2)
  have ea : cA = Z.2.1 1 := Option.some.inj (a2.symm.trans (hK.2 1 (Z.2.1 1, .array .int) rfl).2)
  subst ec
  subst ea
  rw [hsz] at z1 z2 z3 z4 hL ⊢
  have hSS := hS.1
  refine kk H1 (locs ++ L) (fun k q hk => ?_) ⟨by omega, fun q h1 h2 => by rw [z4 q (by omega)]; exact hS.2.1 q h1 h2, fun q hq => ?_⟩
  · obtain ⟨hk1, rfl⟩ := wq_get hk
    by_cases c1 : k < n
    · exact (hP k _ (wq_at c1)).kept (z4 _ (by show b0 + k < b0 + n; omega))
    · by_cases c2 : k = n
      · subst c2
        show va_at _ _ (b0 + k, E k) H1
        rw [hE]
        show H1[b0 + k]? = some (vp_cell _ _)
        rw [z2, vp_cell_q]
        unfold arrV
        congr 2
        apply Array.ext
        · simp
        · intro i h1 h2
          have hi : i < N := by simpa using h1
          simp only [Array.getElem_ofFn, hi, if_true]
          have ee : b0 + k + 1 + i = b0 + (k + 1 + i) := by omega
          show _ = Value.ref _
          rw [ee]
      · obtain ⟨j, rfl⟩ : ∃ j, k = n + 1 + j := ⟨k - n - 1, by omega⟩
        show va_at _ _ (b0 + (n + 1 + j), E (n + 1 + j)) H1
        rw [hEr j (by omega)]
        show H1[b0 + (n + 1 + j)]? = some (vp_cell _ _)
        have := z3 j (by omega)
        rw [show b0 + n + 1 + j = b0 + (n + 1 + j) by omega] at this
        exact this
  · rcases List.mem_append.mp hq with h | h
    · exact hS.2.2 q h
    · show b0 ≤ q.base
      rw [hL q h]
      omega
end KS

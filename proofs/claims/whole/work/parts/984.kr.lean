/-! cells that a constructor makes: they lie one behind another from b0 on -/
def wq (b0 n : Nat) (E : Nat → va_E) : va_W := (List.range n).map (fun k => (b0 + k, E k))
def zA2 (b0 : Nat) : Nat → Prop := fun q => b0 ≤ q
theorem wq_at {b0 n k : Nat} {E : Nat → va_E} (h : k < n) : (wq b0 n E)[k]? = some (b0 + k, E k) := by
  unfold wq
  rw [List.getElem?_map, List.getElem?_range h]
  rfl
theorem wq_get {b0 n k : Nat} {E : Nat → va_E} {q : Nat × va_E} (h : (wq b0 n E)[k]? = some q) : k < n ∧ q = (b0 + k, E k) := by
  have hk : k < n := by
    have := (List.getElem?_eq_some_iff.mp h).1
    unfold wq at this
    simpa using this
  rw [wq_at hk] at h
  exact ⟨hk, (Option.some.inj h).symm⟩
theorem wq_D {b0 n : Nat} {E : Nat → va_E} : va_D (zA2 b0) (wq b0 n E) := by
  refine ⟨fun i j p q h1 h2 e => ?_, fun k q h => ?_⟩
  · obtain ⟨-, rfl⟩ := wq_get h1
    obtain ⟨-, rfl⟩ := wq_get h2
    have e : b0 + i = b0 + j := e
    omega
  · obtain ⟨-, rfl⟩ := wq_get h
    show b0 ≤ b0 + k
    omega
theorem wq_succ {b0 n : Nat} {E : Nat → va_E} : wq b0 n E ++ [(b0 + n, E n)] = wq b0 (n + 1) E := by
  unfold wq
  rw [List.range_succ, List.map_append]
  rfl
theorem wq_set {b0 n i : Nat} {E E' : Nat → va_E} {x : va_E} (hi : i < n) (h1 : E' i = x) (h2 : ∀ j, j < n → j ≠ i → E' j = E j) : (wq b0 n E).set i (b0 + i, x) = wq b0 n E' := by
  apply List.ext_getElem?
  intro k
  by_cases hk : k = i
  · subst hk
    rw [List.getElem?_set_self (by unfold wq; simpa using hi), wq_at hi, h1]
  · rw [List.getElem?_set_ne (Ne.symm hk)]
    by_cases hn : k < n
    · rw [wq_at hn, wq_at hn, h2 k hn hk]
    · rw [List.getElem?_eq_none (by unfold wq; simp; omega), List.getElem?_eq_none (by unfold wq; simp; omega)]
theorem wq_cong {b0 n : Nat} {E E' : Nat → va_E} (h : ∀ j, j < n → E' j = E j) : wq b0 n E' = wq b0 n E := by
  unfold wq
  apply List.map_congr_left
  intro k hk
  rw [h k (List.mem_range.mp hk)]
section KR
variable {p : Program} {l : Launch} {e : Env} {R : Room} {s : State} {m : MethodId} {args : Array Value} {below : List Frame} {meth : Method} {c : Code} {H : Heap} {locs : List Loc} {cells slots : Nat} {Q : State → Prop} {cc : ByteArray} {pc : Nat} {ls : Array Slot} {rest : List Value} {Z : Zt} {b0 n : Nat} {E : Nat → va_E}
theorem kr_up {g : JFrame} (kk : H.size ≤ s.heap.size + cells → W p l e R s m args below meth c H locs cells slots Q g) : W p l e R s m args below meth c H locs cells slots Q g := fun T hT X => kk (by rw [← hT]; exact X.heapSize) T hT X
theorem kr_lo (hP : va_P Z.1 classes (wq b0 n E) H) (h0 : b0 ≤ H.size) : b0 + n ≤ H.size := by
  cases n with
  | zero => exact h0
  | succ k =>
    have : b0 + k < H.size := (hP k _ (wq_at (Nat.lt_succ_self k))).lt
    omega
theorem kr_newa (hx : p.tables.exec = Jvm.exec) (hb : c.code = cc) (harr : (Cond.arrayClass .int).before args s = true) (hI : s.vm.findClass "[I" = some (Z.2.1 0)) (hb0 : b0 ≤ s.heap.size) (hs : s.heap.size + cells = b0 + n) (hP : va_P Z.1 classes (wq b0 n E) H) (hS : va_S (zA2 b0) s.heap H locs) {x : Int32} {N : Nat} (hE : E n = .inl (Z.2.1 0, N, .inl (fun _ => 0))) (hx0 : ¬ x < 0) (hxN : x.toNatClampNeg = N) (hbytes : N * 4 ≤ 536870912) (hcells : cells + 1 ≤ R.cells) (hslots : slots + N ≤ R.slots) (hdg : decode cc pc = .ok (.newarray .int, 2))
    (kk : ∀ H1 : Heap, va_P Z.1 classes (wq b0 (n + 1) E) H1 → va_S (zA2 b0) s.heap H1 locs → W p l e R s m args below meth c H1 locs (cells + 1) (slots + N) Q (F0 m (pc + 2) ls (.ref (b0 + n) :: rest))) : W p l e R s m args below meth c H locs cells slots Q (F0 m pc ls (.int x :: rest)) := by
  refine kr_up fun hup => ?_
  have hlo := kr_lo hP (Nat.le_trans hb0 hS.1)
  have hsz : H.size = b0 + n := by omega
  refine va_newaK (atype := .int) hx hb harr rfl hdg rfl hx0 hxN hbytes hcells hslots hsz (fun H1 cA e1 z1 o1 hAr hNm => ?_)
  have ec : cA = Z.2.1 0 := Option.some.inj (hNm.symm.trans hI)
  subst ec
  refine kk H1 ?_ ⟨by have := hS.1; omega, fun q h1 h2 => by have := hS.1; rw [o1 q (by omega)]; exact hS.2.1 q h1 h2, hS.2.2⟩
  rw [← wq_succ]
  refine (hP.kept (fun k q hk => ?_)).app (fun k q hk => ?_)
  · obtain ⟨hk1, rfl⟩ := wq_get hk
    exact o1 _ (by omega)
  · have hz : k < 1 := (List.getElem?_eq_some_iff.mp hk).1
    rw [show k = 0 by omega] at hk
    cases hk
    show va_at _ _ (b0 + n, E n) H1
    rw [hE]
    exact e1
theorem kr_new (hx : p.tables.exec = Jvm.exec) (hb : c.code = cc) {own C : String} {T : u_T} {N ci index : Nat} (hts : ∀ w ∈ zT, w.before args s = true) (hin : ∀ w ∈ u_ws C T N, w ∈ zT) (ty : Nat → FieldType) (hty : ∀ k, k < N → parseFieldDescriptor (T k).2.2.1 = some (ty k)) (hown : s.vm.findClass own = some m.cls) (hcl : Cond.classLink own index C ∈ zT) (hinst : Cond.instantiable C N ∈ zT) (hini : Cond.initialized C ∈ zT)
    (hK : va_K Z.1 classes (zty Z) s) (hb0 : b0 ≤ s.heap.size) (hs : s.heap.size + cells = b0 + n) (hP : va_P Z.1 classes (wq b0 n E) H) (hS : va_S (zA2 b0) s.heap H locs) (hc : classes[ci]? = some (C, T, N)) {fs : List Value} (hE : E n = .inr (ci, fs)) (hfs : ∀ j, j < N → defaultValue (ty j) = vp_V fs j) (hcells : cells + 1 ≤ R.cells) (hslots : slots + N ≤ R.slots) (hdg : decode cc pc = .ok (.new index, 3))
    (kk : ∀ H1 : Heap, va_P Z.1 classes (wq b0 (n + 1) E) H1 → va_S (zA2 b0) s.heap H1 locs → W p l e R s m args below meth c H1 locs (cells + 1) (slots + N) Q (F0 m (pc + 3) ls (.ref (b0 + n) :: rest))) : W p l e R s m args below meth c H locs cells slots Q (F0 m pc ls rest) := by
  refine va_new hx hb hts hin ty hty hown (hts _ hcl) (hts _ hinst) (hts _ hini) hK hP wq_D hS (fun q hq => Nat.le_trans hb0 hq) hc hfs hcells hslots hdg (fun q H1 h1 h2 h3 => ?_)
  refine kr_up fun hup => ?_
  have hl : (wq b0 n E).length = n := by unfold wq; simp
  have hq : q < H1.size := (h1 n (q, .inr (ci, fs)) (by rw [List.getElem?_append_right (by omega), hl, Nat.sub_self]; rfl)).lt
  have hA : b0 ≤ q := h2.2 n (q, .inr (ci, fs)) (by rw [List.getElem?_append_right (by omega), hl, Nat.sub_self]; rfl)
  have hne : ¬ q < b0 + n := fun hlt => by
    have e := h2.1 (q - b0) n (b0 + (q - b0), E (q - b0)) (q, .inr (ci, fs)) (by rw [List.getElem?_append_left (by omega)]; exact wq_at (by omega)) (by rw [List.getElem?_append_right (by omega), hl, Nat.sub_self]; rfl) (by show b0 + (q - b0) = q; omega)
    omega
  have eq : q = b0 + n := by omega
  subst eq
  rw [← hE, wq_succ] at h1
  exact kk H1 h1 h3
end KR

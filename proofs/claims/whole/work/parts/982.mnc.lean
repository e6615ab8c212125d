section MNC
variable {p : Program} {l : Launch} {e : Env} {R : Room} {s : State} {m : MethodId} {args : Array Value} {below : List Frame} {meth : Method} {c : Code} {H : Heap} {locs : List Loc} {cells slots : Nat} {Q : State → Prop}
def mInv (p : Program) (l : Launch) (e : Env) (R : Room) (s : State) (m : MethodId) (args : Array Value) (below : List Frame) (meth : Method) (c : Code) (locs : List Loc) (cells slots : Nat) (f : JFrame) (vm : Vm) (H0 : Heap) (cA cI : ClassId) (n k i : Nat) (s' : State) : Prop :=
  ∃ T' L, s' = T'.setTop f ∧ Stand p l e R s m args below meth c T' (locs ++ L) (cells + 1 + i) (slots + n + i * k) ∧ mPic H0 T'.heap cA cI n k i ∧ T'.vm = vm ∧ ∀ q ∈ L, q.base = H0.size
theorem mn_make {T : State} {f : JFrame} {cA cI cc : ClassId} {kA kC : Class} {n k : Int32} {d : Bool} {acts : List Action} {E : CtlPost} {P : Addr → Pre} (X : Stand p l e R s m args below meth c T locs cells slots) (hkA : T.vm.classes[cA]? = some kA) (hkindA : kA.kind = .array cI (.array .int)) (hkC : T.vm.classes[cI]? = some kC) (hkindC : kC.kind = .array cc .int) (hn0 : ¬ n < 0) (hk0 : ¬ k < 0)
    (hl : ∀ x : Nat, x ≤ n.toNatClampNeg + k.toNatClampNeg → ¬ x > e.platform.arrayLengthLimit) (hh : ∀ x : Nat, x ≤ n.toNatClampNeg + k.toNatClampNeg → ¬ x * 4 > e.platform.maxHeapBytes) (hcells : cells + 1 + n.toNatClampNeg ≤ R.cells) (hslots : slots + n.toNatClampNeg + n.toNatClampNeg * k.toNatClampNeg ≤ R.slots) (hpos : 0 < n.toNatClampNeg)
    (hq : ∀ d' acts' s', mInv p l e R s m args below meth c locs cells slots f T.vm T.heap cA cI n.toNatClampNeg k.toNatClampNeg n.toNatClampNeg s' → P T.heap.size d' acts' s') : wp (multianewarray.make cA [n, k]) P E e d acts (T.setTop f) := by
  unfold multianewarray.make
  simp only [wp_bind', W.ite, hn0, if_false, wp_pure', W.theClass, State.vm_setTop, hkA, hkindA, Option.some.injEq, exists_eq_left']
  obtain ⟨r1, r2⟩ := X.roomAbove (a := 1) (b := n.toNatClampNeg) (by omega) (by omega)
  refine mn_new hkA hkindA rfl (hl _ (by omega)) (hh _ (by omega)) (by omega) r2 (fun d' acts' => ?_)
  have hne : (n == 0) = false := by
    rw [beq_eq_false_iff_ne]
    rintro rfl
    exact absurd hpos (by decide)
  simp only [hne, Bool.false_eq_true, W.ite, if_false, wp_pure', wp_bind']
  rw [Std.Legacy.Range.forIn_eq_forIn_range']
  refine wp_forIn_inv (fun rest s' => ∃ i, i ≤ n.toNatClampNeg ∧ rest = List.range' i (n.toNatClampNeg - i) ∧ mInv p l e R s m args below meth c locs cells slots f T.vm T.heap cA cI n.toNatClampNeg k.toNatClampNeg i s') _ _ ?_ ?_ ?_
  · refine ⟨0, Nat.zero_le _, by simp [Std.Legacy.Range.size], _, [], rfl, ?_, ⟨?_, ?_, fun j hj => absurd hj (Nat.not_lt_zero _), fun q hq => ?_⟩, rfl, fun q hq => by cases hq⟩
    · have := X.pushed (arrV cA n.toNatClampNeg (fun _ => Value.null))
      rw [arrV_size] at this
      simpa using this
    · simp
    · simp
    · exact State.heap_pushCell_of_lt _ _ hq
  · rintro x rest s' d2 acts2 Q2 ⟨i, hi, hr, T', L, rfl, X', ⟨z1, z2, z3, z4⟩, hvm, hL⟩ hnext
    have hlt : i < n.toNatClampNeg := by
      rcases Nat.lt_or_ge i n.toNatClampNeg with h | h
      · exact h
      · rw [show n.toNatClampNeg - i = 0 by omega] at hr
        cases hr
    obtain ⟨y, hy⟩ : ∃ y, n.toNatClampNeg - i = y + 1 := ⟨n.toNatClampNeg - i - 1, by omega⟩
    rw [hy, List.range'_succ] at hr
    injection hr with hx hrest
    subst hx
    have hmul : x * k.toNatClampNeg + k.toNatClampNeg ≤ n.toNatClampNeg * k.toNatClampNeg := by
      rw [← Nat.succ_mul]
      exact Nat.mul_le_mul_right _ hlt
    obtain ⟨q1, q2⟩ := X'.roomAbove (a := 1) (b := k.toNatClampNeg) (by omega) (by omega)
    simp only [wp_bind']
    refine mn_row (by rw [hvm]; exact hkC) hkindC hk0 (hl _ (by omega)) (hh _ (by omega)) (by omega) q2 (fun d3 acts3 => ?_)
    have hlt0 : T.heap.size < T'.heap.size := by omega
    have hc0 : (T'.pushCell (arrV cI k.toNatClampNeg (fun _ => Value.int 0))).heap[T.heap.size]? = some (arrV cA n.toNatClampNeg (fun j => if j < x then .ref (T.heap.size + 1 + j) else .null)) := by
      rw [State.heap_pushCell_of_lt (h := hlt0)]; exact z2
    have X2 := (X'.pushed (arrV cI k.toNatClampNeg (fun _ => Value.int 0))).stored hc0 x (.ref T'.heap.size)
    simp only [wp_bind', W.writeLoc, wp_pure']
    refine ⟨arrV cA n.toNatClampNeg (fun j => if j < x then .ref (T.heap.size + 1 + j) else .null), by simpa using hc0, (fun h => by cases h), (by rw [arrV_size]; exact hlt), ?_, ?_⟩
    · simp [State.fitsSlot, State.slotType?, arrV, hvm, hkA, hkindA, fits]
    · rw [arrV_store]
      rw [arrV_store, arrV_size] at X2
      have hu : updV (fun j => if j < x then Value.ref (T.heap.size + 1 + j) else Value.null) x (.ref T'.heap.size) = fun j => if j < x + 1 then Value.ref (T.heap.size + 1 + j) else Value.null := by
        funext j
        unfold updV
        by_cases h1 : j = x
        · subst h1
          rw [if_pos rfl, if_pos (Nat.lt_succ_self _), z1]
        · rw [if_neg h1]
          show (if j < x then Value.ref (T.heap.size + 1 + j) else Value.null) = _
          by_cases h2 : j < x
          · rw [if_pos h2, if_pos (by omega)]
          · rw [if_neg h2, if_neg (by omega)]
      rw [hu]
      rw [hu] at X2
      have hsz : (T'.pushCell (arrV cI k.toNatClampNeg (fun _ => Value.int 0))).heap.size = T'.heap.size + 1 := by simp
      refine hnext _ _ _ ⟨x + 1, hlt, by rw [hrest]; congr 1; omega, (T'.pushCell (arrV cI k.toNatClampNeg (fun _ => Value.int 0))).setCell T.heap.size (arrV cA n.toNatClampNeg (fun j => if j < x + 1 then Value.ref (T.heap.size + 1 + j) else Value.null)), L ++ [⟨T.heap.size, x⟩], by simp, ?_, ⟨?_, ?_, fun j hj => ?_, fun q hq => ?_⟩, hvm, ?_⟩
      · rw [← List.append_assoc, show cells + 1 + (x + 1) = cells + 1 + x + 1 by omega, show slots + n.toNatClampNeg + (x + 1) * k.toNatClampNeg = slots + n.toNatClampNeg + x * k.toNatClampNeg + k.toNatClampNeg by rw [Nat.succ_mul]; omega]
        exact X2
      · rw [size_setCell, hsz]; omega
      · have a1 : T.heap.size < (T'.pushCell (arrV cI k.toNatClampNeg (fun _ => Value.int 0))).heap.size := by rw [hsz]; omega
        exact heapAt_setCell_self _ a1
      · have a2 : T.heap.size ≠ T.heap.size + 1 + j := by omega
        rw [heapAt_setCell_ne _ a2]
        by_cases h1 : j = x
        · subst h1
          rw [← z1]
          exact State.heap_pushCell_size _ _
        · have a3 : T.heap.size + 1 + j < T'.heap.size := by omega
          rw [State.heap_pushCell_of_lt _ _ a3]
          exact z3 j (by omega)
      · have a4 : T.heap.size ≠ q := by omega
        have a5 : q < T'.heap.size := by omega
        rw [heapAt_setCell_ne _ a4, State.heap_pushCell_of_lt _ _ a5]
        exact z4 q hq
      · intro q hq
        rcases List.mem_append.mp hq with h | h
        · exact hL q h
        · rw [List.mem_singleton.mp h]
  · rintro s' d2 acts2 ⟨i, hi, hr, hI⟩
    have : n.toNatClampNeg - i = 0 := by
      have := congrArg List.length hr
      simpa using this.symm
    obtain rfl : i = n.toNatClampNeg := by omega
    exact hq _ _ _ hI
end MNC

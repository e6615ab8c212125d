section MNB
variable {p : Program} {l : Launch} {e : Env} {R : Room} {s : State} {m : MethodId} {args : Array Value} {below : List Frame} {meth : Method} {c : Code} {H : Heap} {locs : List Loc} {cells slots : Nat} {Q : State → Prop}
/-- the heap when i of the n rows have been made: the rows' array at the old end, the rows behind it -/
def mPic (H0 H : Heap) (cA cI : ClassId) (n k i : Nat) : Prop :=
  H.size = H0.size + 1 + i ∧ H[H0.size]? = some (arrV cA n (fun j => if j < i then .ref (H0.size + 1 + j) else .null)) ∧ (∀ j, j < i → H[H0.size + 1 + j]? = some (arrV cI k (fun _ => .int 0))) ∧ ∀ q, q < H0.size → H[q]? = H0[q]?
theorem mn_row {S : State} {f : JFrame} {cI comp : ClassId} {kC : Class} {k : Int32} {d : Bool} {acts : List Action} {E : CtlPost} {P : Addr → Pre} (hk : S.vm.classes[cI]? = some kC) (hkind : kC.kind = .array comp .int) (hk0 : ¬ k < 0) (hl : ¬ k.toNatClampNeg > e.platform.arrayLengthLimit) (hh : ¬ k.toNatClampNeg * componentBytes .int > e.platform.maxHeapBytes) (h1 : S.heap.size < e.platform.maxCells) (h2 : S.slotsUsed + k.toNatClampNeg ≤ e.platform.maxSlots) (hq : ∀ d' acts', P S.heap.size d' acts' ((S.pushCell (arrV cI k.toNatClampNeg (fun _ => .int 0))).setTop f)) : wp (multianewarray.make cI [k]) P E e d acts (S.setTop f) := by
  unfold multianewarray.make
  simp only [wp_bind', W.ite, hk0, if_false, wp_pure', W.theClass, State.vm_setTop, hk, hkind, Option.some.injEq, exists_eq_left']
  exact mn_new hk hkind rfl hl hh h1 h2 hq
end MNB

section MNA
variable {p : Program} {l : Launch} {e : Env} {R : Room} {s : State} {m : MethodId} {args : Array Value} {below : List Frame} {meth : Method} {c : Code} {H : Heap} {locs : List Loc} {cells slots : Nat} {Q : State → Prop}
theorem mn_new {S : State} {f : JFrame} {cls comp : ClassId} {ty : FieldType} {k : Class} {len : Nat} {v : Value} {d : Bool} {acts : List Action} {E : CtlPost} {P : Addr → Pre} (hk : S.vm.classes[cls]? = some k) (hkind : k.kind = .array comp ty) (hfit : fits ty v = true) (hl : ¬ len > e.platform.arrayLengthLimit) (hh : ¬ len * componentBytes ty > e.platform.maxHeapBytes) (h1 : S.heap.size < e.platform.maxCells) (h2 : S.slotsUsed + len ≤ e.platform.maxSlots) (hq : ∀ d' acts', P S.heap.size d' acts' ((S.pushCell (arrV cls len (fun _ => v))).setTop f)) : wp (Jvm.newArray cls len v) P E e d acts (S.setTop f) := by
  have hf : ∀ i w, (Array.replicate len v)[i]? = some w → (S.setTop f).fitsSlot cls .none i w = true := by
    intro i w hw
    rw [State.fitsSlot_setTop]
    simp only [Array.getElem?_replicate] at hw
    split at hw
    · cases hw; simp [State.fitsSlot, State.slotType?, hk, hkind, hfit]
    · cases hw
  have h3 : ¬ len > e.platform.maxSlots := by omega
  simp only [Jvm.newArray, Jvm.arrayFits, wp_bind', W.ask, W.ite, hl, if_false, wp_pure', W.theClass, State.vm_setTop, hk, hkind, hh, h3, W.alloc, Option.some.injEq, exists_eq_left']
  refine ⟨by simpa using h1, by simpa using h2, hf, ?_⟩
  have := hq d (allocActs (Array.replicate len v) (S.setTop f).heap.size acts)
  rw [← arrV_new] at this
  simpa using this
end MNA

section ZR
variable {α : Type} {Γ : Gt} {Z : Zt} {nL : Nat} {Qf : α → State → Prop} {o o1 o2 : Option α} {D : Mm} {pc : Nat} {lv lv2 : List (Nat × Value)} {st : List Value} {cc : ByteArray} {own : String} {ret : Option FieldType} {R : Room}
def wI (x : Int) : Int := (zI x).toInt
theorem zv_iconst (X : Cx Γ Z cc own nL ret R) {n : Int} (hdg : decode cc pc = .ok (.iconst n, 1)) (k : Zv Γ Z nL Qf o D (pc + 1) lv (zi n :: st)) : Zv Γ Z nL Qf o D pc lv st := by
  intro r hr H locs ls hw hs hl
  exact lv_iconst X.1 X.2.1 hdg rfl (k r hr H locs ls hw hs hl)
theorem zv_bipush (X : Cx Γ Z cc own nL ret R) {n : Int} (hdg : decode cc pc = .ok (.bipush n, 2)) (hv : (Int8.ofInt n).toInt32 = zI n) (k : Zv Γ Z nL Qf o D (pc + 2) lv (zi n :: st)) : Zv Γ Z nL Qf o D pc lv st := by
  intro r hr H locs ls hw hs hl
  exact lv_bipush X.1 X.2.1 hdg hv (k r hr H locs ls hw hs hl)
theorem zv_sipush (X : Cx Γ Z cc own nL ret R) {n : Int} (hdg : decode cc pc = .ok (.sipush n, 3)) (hv : (Int16.ofInt n).toInt32 = zI n) (k : Zv Γ Z nL Qf o D (pc + 3) lv (zi n :: st)) : Zv Γ Z nL Qf o D pc lv st := by
  intro r hr H locs ls hw hs hl
  exact lv_sipush X.1 X.2.1 hdg hv (k r hr H locs ls hw hs hl)
theorem zv_lconst (X : Cx Γ Z cc own nL ret R) {n : Fin 2} {x : Int} (hdg : decode cc pc = .ok (.lconst n, 1)) (hv : Int64.ofNat (n : Nat) = zL x) (k : Zv Γ Z nL Qf o D (pc + 1) lv (zl x :: st)) : Zv Γ Z nL Qf o D pc lv st := by
  intro r hr H locs ls hw hs hl
  exact lv_lconst X.1 X.2.1 hdg hv (k r hr H locs ls hw hs hl)
theorem zv_ldc2 (X : Cx Γ Z cc own nL ret R) {index : Nat} {v : Int64} (x : Int) (hc : Cond.constantLong own index v ∈ zT) (hv : v = zL x) (hdg : decode cc pc = .ok (.ldc2_w index, 3)) (k : Zv Γ Z nL Qf o D (pc + 3) lv (zl x :: st)) : Zv Γ Z nL Qf o D pc lv st := by
  intro r hr H locs ls hw hs hl
  subst hv
  exact lv_ldc2 X.1 X.2.1 X.2.2.2.1 (X.2.2.2.2.1 _ hc) hdg (k r hr H locs ls hw hs hl)
theorem zv_ldcw (X : Cx Γ Z cc own nL ret R) {index : Nat} {v : Int32} (x : Int) (hc : Cond.constant own index v ∈ zT) (hv : v = zI x) (hdg : decode cc pc = .ok (.ldc_w index, 3)) (k : Zv Γ Z nL Qf o D (pc + 3) lv (zi x :: st)) : Zv Γ Z nL Qf o D pc lv st := by
  intro r hr H locs ls hw hs hl
  subst hv
  exact lv_ldcw X.1 X.2.1 X.2.2.2.1 (X.2.2.2.2.1 _ hc) hdg (k r hr H locs ls hw hs hl)
theorem zv_ldc (X : Cx Γ Z cc own nL ret R) {index : Nat} {v : Int32} (x : Int) (hc : Cond.constant own index v ∈ zT) (hv : v = zI x) (hdg : decode cc pc = .ok (.ldc index, 2)) (k : Zv Γ Z nL Qf o D (pc + 2) lv (zi x :: st)) : Zv Γ Z nL Qf o D pc lv st := by
  intro r hr H locs ls hw hs hl
  subst hv
  exact lv_ldc X.1 X.2.1 X.2.2.2.1 (X.2.2.2.2.1 _ hc) hdg (k r hr H locs ls hw hs hl)
theorem zv_iload_n (X : Cx Γ Z cc own nL ret R) {k0 : Fin 4} {i : Nat} {x : Int} (hdg : decode cc pc = .ok (.iload_n k0, 1)) (hi : (k0 : Nat) = i) (q : Nat) (hq : lv[q]? = some (i, zi x)) (k : Zv Γ Z nL Qf o D (pc + 1) lv (zi x :: st)) : Zv Γ Z nL Qf o D pc lv st := by
  intro r hr H locs ls hw hs hl
  exact lv_iload_n X.1 X.2.1 hdg hi (lv_at hl q hq) (k r hr H locs ls hw hs hl)
theorem zv_iload (X : Cx Γ Z cc own nL ret R) {i : Nat} {x : Int} (hdg : decode cc pc = .ok (.iload i, 2)) (q : Nat) (hq : lv[q]? = some (i, zi x)) (k : Zv Γ Z nL Qf o D (pc + 2) lv (zi x :: st)) : Zv Γ Z nL Qf o D pc lv st := by
  intro r hr H locs ls hw hs hl
  exact lv_iload X.1 X.2.1 hdg (lv_at hl q hq) (k r hr H locs ls hw hs hl)
theorem zv_lload_n (X : Cx Γ Z cc own nL ret R) {k0 : Fin 4} {i : Nat} {x : Int} (hdg : decode cc pc = .ok (.lload_n k0, 1)) (hi : (k0 : Nat) = i) (q : Nat) (hq : lv[q]? = some (i, zl x)) (k : Zv Γ Z nL Qf o D (pc + 1) lv (zl x :: st)) : Zv Γ Z nL Qf o D pc lv st := by
  intro r hr H locs ls hw hs hl
  exact lv_lload_n X.1 X.2.1 hdg hi (lv_at hl q hq) (k r hr H locs ls hw hs hl)
theorem zv_lload (X : Cx Γ Z cc own nL ret R) {i : Nat} {x : Int} (hdg : decode cc pc = .ok (.lload i, 2)) (q : Nat) (hq : lv[q]? = some (i, zl x)) (k : Zv Γ Z nL Qf o D (pc + 2) lv (zl x :: st)) : Zv Γ Z nL Qf o D pc lv st := by
  intro r hr H locs ls hw hs hl
  exact lv_lload X.1 X.2.1 hdg (lv_at hl q hq) (k r hr H locs ls hw hs hl)
theorem zv_aload_n (X : Cx Γ Z cc own nL ret R) {k0 : Fin 4} {i : Nat} {x : Int} (hdg : decode cc pc = .ok (.aload_n k0, 1)) (hi : (k0 : Nat) = i) (q : Nat) (hq : lv[q]? = some (i, zr Z x)) (k : Zv Γ Z nL Qf o D (pc + 1) lv (zr Z x :: st)) : Zv Γ Z nL Qf o D pc lv st := by
  intro r hr H locs ls hw hs hl
  exact lv_aload_n X.1 X.2.1 hdg hi (lv_at hl q hq) (k r hr H locs ls hw hs hl)
theorem zv_aload (X : Cx Γ Z cc own nL ret R) {i : Nat} {x : Int} (hdg : decode cc pc = .ok (.aload i, 2)) (q : Nat) (hq : lv[q]? = some (i, zr Z x)) (k : Zv Γ Z nL Qf o D (pc + 2) lv (zr Z x :: st)) : Zv Γ Z nL Qf o D pc lv st := by
  intro r hr H locs ls hw hs hl
  exact lv_aload X.1 X.2.1 hdg (lv_at hl q hq) (k r hr H locs ls hw hs hl)
theorem zv_istore_n (X : Cx Γ Z cc own nL ret R) {k0 : Fin 4} {i : Nat} {x : Int} (hdg : decode cc pc = .ok (.istore_n k0, 1)) (hi : (k0 : Nat) = i) (hn : i < nL) (hf : (i, zi x) :: lv.filter (fun q => !(q.1 == i) && !(q.1 + 1 == i && q.2.category == 2)) = lv2) (k : Zv Γ Z nL Qf o D (pc + 1) lv2 st) : Zv Γ Z nL Qf o D pc lv (zi x :: st) := by
  intro r hr H locs ls hw hs hl
  exact lv_istore_n X.1 X.2.1 hdg hi hl hn hf (fun ls hl => k r hr H locs ls hw hs hl)
theorem zv_istore (X : Cx Γ Z cc own nL ret R) {i : Nat} {x : Int} (hdg : decode cc pc = .ok (.istore i, 2)) (hn : i < nL) (hf : (i, zi x) :: lv.filter (fun q => !(q.1 == i) && !(q.1 + 1 == i && q.2.category == 2)) = lv2) (k : Zv Γ Z nL Qf o D (pc + 2) lv2 st) : Zv Γ Z nL Qf o D pc lv (zi x :: st) := by
  intro r hr H locs ls hw hs hl
  exact lv_istore X.1 X.2.1 hdg hl hn hf (fun ls hl => k r hr H locs ls hw hs hl)
theorem zv_lstore_n (X : Cx Γ Z cc own nL ret R) {k0 : Fin 4} {i : Nat} {x : Int} (hdg : decode cc pc = .ok (.lstore_n k0, 1)) (hi : (k0 : Nat) = i) (hn : i + 1 < nL) (hf : (i, zl x) :: lv.filter (fun q => !(q.1 == i) && (!(q.1 == i + 1) && !(q.1 + 1 == i && q.2.category == 2))) = lv2) (k : Zv Γ Z nL Qf o D (pc + 1) lv2 st) : Zv Γ Z nL Qf o D pc lv (zl x :: st) := by
  intro r hr H locs ls hw hs hl
  exact lv_lstore_n X.1 X.2.1 hdg hi hl hn hf (fun ls hl => k r hr H locs ls hw hs hl)
theorem zv_lstore (X : Cx Γ Z cc own nL ret R) {i : Nat} {x : Int} (hdg : decode cc pc = .ok (.lstore i, 2)) (hn : i + 1 < nL) (hf : (i, zl x) :: lv.filter (fun q => !(q.1 == i) && (!(q.1 == i + 1) && !(q.1 + 1 == i && q.2.category == 2))) = lv2) (k : Zv Γ Z nL Qf o D (pc + 2) lv2 st) : Zv Γ Z nL Qf o D pc lv (zl x :: st) := by
  intro r hr H locs ls hw hs hl
  exact lv_lstore X.1 X.2.1 hdg hl hn hf (fun ls hl => k r hr H locs ls hw hs hl)
theorem zv_astore_n (X : Cx Γ Z cc own nL ret R) {k0 : Fin 4} {i : Nat} {x : Int} (hdg : decode cc pc = .ok (.astore_n k0, 1)) (hi : (k0 : Nat) = i) (hn : i < nL) (hf : (i, zr Z x) :: lv.filter (fun q => !(q.1 == i) && !(q.1 + 1 == i && q.2.category == 2)) = lv2) (k : Zv Γ Z nL Qf o D (pc + 1) lv2 st) : Zv Γ Z nL Qf o D pc lv (zr Z x :: st) := by
  intro r hr H locs ls hw hs hl
  exact lv_astore_n X.1 X.2.1 hdg hi hl hn hf (fun ls hl => k r hr H locs ls hw hs hl)
theorem zv_astore (X : Cx Γ Z cc own nL ret R) {i : Nat} {x : Int} (hdg : decode cc pc = .ok (.astore i, 2)) (hn : i < nL) (hf : (i, zr Z x) :: lv.filter (fun q => !(q.1 == i) && !(q.1 + 1 == i && q.2.category == 2)) = lv2) (k : Zv Γ Z nL Qf o D (pc + 2) lv2 st) : Zv Γ Z nL Qf o D pc lv (zr Z x :: st) := by
  intro r hr H locs ls hw hs hl
  exact lv_astore X.1 X.2.1 hdg hl hn hf (fun ls hl => k r hr H locs ls hw hs hl)
theorem zv_iinc (X : Cx Γ Z cc own nL ret R) {i : Nat} {n x : Int} (hdg : decode cc pc = .ok (.iinc i n, 3)) (q : Nat) (hq : lv[q]? = some (i, zi x)) (hn : i < nL) (hf : (i, zi (x + n)) :: lv.filter (fun q => !(q.1 == i) && !(q.1 + 1 == i && q.2.category == 2)) = lv2) (k : Zv Γ Z nL Qf o D (pc + 3) lv2 st) : Zv Γ Z nL Qf o D pc lv st := by
  intro r hr H locs ls hw hs hl
  exact lv_iinc (v := zI (x + n)) X.1 X.2.1 hdg hl hq (zI_add x n) hn hf (fun ls hl => k r hr H locs ls hw hs hl)
theorem zv_sub (X : Cx Γ Z cc own nL ret R)  (ks : List Nat) (hs0 : lv_pick lv ks = lv2) (k : Zv Γ Z nL Qf o D pc lv2 st) : Zv Γ Z nL Qf o D pc lv st := by
  intro r hr H locs ls hw hs hl
  exact k r hr H locs ls hw hs (lv_sub hl ks hs0)
theorem zv_iadd (X : Cx Γ Z cc own nL ret R) {a b : Int} (hdg : decode cc pc = .ok (.iadd, 1)) (k : Zv Γ Z nL Qf o D (pc + 1) lv (zi (a + b) :: st)) : Zv Γ Z nL Qf o D pc lv (zi b :: zi a :: st) := by
  intro r hr H locs ls hw hs hl
  refine lv_iadd X.1 X.2.1 hdg ?_
  rw [zI_add]
  exact k r hr H locs ls hw hs hl
theorem zv_isub (X : Cx Γ Z cc own nL ret R) {a b : Int} (hdg : decode cc pc = .ok (.isub, 1)) (k : Zv Γ Z nL Qf o D (pc + 1) lv (zi (a - b) :: st)) : Zv Γ Z nL Qf o D pc lv (zi b :: zi a :: st) := by
  intro r hr H locs ls hw hs hl
  refine lv_isub X.1 X.2.1 hdg ?_
  rw [zI_sub]
  exact k r hr H locs ls hw hs hl
theorem zv_imul (X : Cx Γ Z cc own nL ret R) {a b : Int} (hdg : decode cc pc = .ok (.imul, 1)) (k : Zv Γ Z nL Qf o D (pc + 1) lv (zi (a * b) :: st)) : Zv Γ Z nL Qf o D pc lv (zi b :: zi a :: st) := by
  intro r hr H locs ls hw hs hl
  refine lv_imul X.1 X.2.1 hdg ?_
  rw [zI_mul]
  exact k r hr H locs ls hw hs hl
theorem zv_ladd (X : Cx Γ Z cc own nL ret R) {a b : Int} (hdg : decode cc pc = .ok (.ladd, 1)) (k : Zv Γ Z nL Qf o D (pc + 1) lv (zl (a + b) :: st)) : Zv Γ Z nL Qf o D pc lv (zl b :: zl a :: st) := by
  intro r hr H locs ls hw hs hl
  refine lv_ladd X.1 X.2.1 hdg ?_
  rw [zL_add]
  exact k r hr H locs ls hw hs hl
theorem zv_lsub (X : Cx Γ Z cc own nL ret R) {a b : Int} (hdg : decode cc pc = .ok (.lsub, 1)) (k : Zv Γ Z nL Qf o D (pc + 1) lv (zl (a - b) :: st)) : Zv Γ Z nL Qf o D pc lv (zl b :: zl a :: st) := by
  intro r hr H locs ls hw hs hl
  refine lv_lsub X.1 X.2.1 hdg ?_
  rw [zL_sub]
  exact k r hr H locs ls hw hs hl
theorem zv_lmul (X : Cx Γ Z cc own nL ret R) {a b : Int} (hdg : decode cc pc = .ok (.lmul, 1)) (k : Zv Γ Z nL Qf o D (pc + 1) lv (zl (a * b) :: st)) : Zv Γ Z nL Qf o D pc lv (zl b :: zl a :: st) := by
  intro r hr H locs ls hw hs hl
  refine lv_lmul X.1 X.2.1 hdg ?_
  rw [zL_mul]
  exact k r hr H locs ls hw hs hl
theorem zv_iand (X : Cx Γ Z cc own nL ret R) {a b : Int} (hdg : decode cc pc = .ok (.iand, 1)) (k : Zv Γ Z nL Qf o D (pc + 1) lv (zi (jand a b) :: st)) : Zv Γ Z nL Qf o D pc lv (zi b :: zi a :: st) := by
  intro r hr H locs ls hw hs hl
  have k2 := k r hr H locs ls hw hs hl
  unfold zi jand at k2
  rw [zI_of] at k2
  exact lv_iand X.1 X.2.1 hdg k2
theorem zv_ior (X : Cx Γ Z cc own nL ret R) {a b : Int} (hdg : decode cc pc = .ok (.ior, 1)) (k : Zv Γ Z nL Qf o D (pc + 1) lv (zi (jor a b) :: st)) : Zv Γ Z nL Qf o D pc lv (zi b :: zi a :: st) := by
  intro r hr H locs ls hw hs hl
  have k2 := k r hr H locs ls hw hs hl
  unfold zi jor at k2
  rw [zI_of] at k2
  exact lv_ior X.1 X.2.1 hdg k2
theorem zv_ixor (X : Cx Γ Z cc own nL ret R) {a b : Int} (hdg : decode cc pc = .ok (.ixor, 1)) (k : Zv Γ Z nL Qf o D (pc + 1) lv (zi (jxor a b) :: st)) : Zv Γ Z nL Qf o D pc lv (zi b :: zi a :: st) := by
  intro r hr H locs ls hw hs hl
  have k2 := k r hr H locs ls hw hs hl
  unfold zi jxor at k2
  rw [zI_of] at k2
  exact lv_ixor X.1 X.2.1 hdg k2
theorem zv_ishl (X : Cx Γ Z cc own nL ret R) {a b : Int} (hdg : decode cc pc = .ok (.ishl, 1)) (k : Zv Γ Z nL Qf o D (pc + 1) lv (zi (jshl a b) :: st)) : Zv Γ Z nL Qf o D pc lv (zi b :: zi a :: st) := by
  intro r hr H locs ls hw hs hl
  have k2 := k r hr H locs ls hw hs hl
  unfold zi jshl at k2
  rw [zI_of] at k2
  exact lv_ishl X.1 X.2.1 hdg k2
theorem zv_ishr (X : Cx Γ Z cc own nL ret R) {a b : Int} (hdg : decode cc pc = .ok (.ishr, 1)) (k : Zv Γ Z nL Qf o D (pc + 1) lv (zi (jshr a b) :: st)) : Zv Γ Z nL Qf o D pc lv (zi b :: zi a :: st) := by
  intro r hr H locs ls hw hs hl
  have k2 := k r hr H locs ls hw hs hl
  unfold zi jshr at k2
  rw [zI_of] at k2
  exact lv_ishr X.1 X.2.1 hdg k2
theorem zv_land (X : Cx Γ Z cc own nL ret R) {a b : Int} (hdg : decode cc pc = .ok (.land, 1)) (k : Zv Γ Z nL Qf o D (pc + 1) lv (zl (jland a b) :: st)) : Zv Γ Z nL Qf o D pc lv (zl b :: zl a :: st) := by
  intro r hr H locs ls hw hs hl
  have k2 := k r hr H locs ls hw hs hl
  unfold zl jland at k2
  rw [zL_of] at k2
  exact lv_land X.1 X.2.1 hdg k2
theorem zv_lor (X : Cx Γ Z cc own nL ret R) {a b : Int} (hdg : decode cc pc = .ok (.lor, 1)) (k : Zv Γ Z nL Qf o D (pc + 1) lv (zl (jlor a b) :: st)) : Zv Γ Z nL Qf o D pc lv (zl b :: zl a :: st) := by
  intro r hr H locs ls hw hs hl
  have k2 := k r hr H locs ls hw hs hl
  unfold zl jlor at k2
  rw [zL_of] at k2
  exact lv_lor X.1 X.2.1 hdg k2
theorem zv_idivK (X : Cx Γ Z cc own nL ret R) {a b : Int} (hdg : decode cc pc = .ok (.idiv, 1)) (hne : ¬ zI b = 0) (k : Zv Γ Z nL Qf o D (pc + 1) lv (zi (jdiv a b) :: st)) : Zv Γ Z nL Qf o D pc lv (zi b :: zi a :: st) := by
  intro r hr H locs ls hw hs hl
  have k2 := k r hr H locs ls hw hs hl
  unfold zi jdiv at k2
  rw [zI_of] at k2
  exact lv_idiv X.1 X.2.1 hdg hne k2
theorem zv_idiv (X : Cx Γ Z cc own nL ret R) {a b : Int} {inst : Decidable (zI b = 0)} (hdg : decode cc pc = .ok (.idiv, 1)) (k : ¬ zI b = 0 → Zv Γ Z nL Qf o D (pc + 1) lv (zi (jdiv a b) :: st)) : Zv Γ Z nL Qf (@ite _ (zI b = 0) inst none o) D pc lv (zi b :: zi a :: st) := by
  by_cases hne : zI b = 0
  · rw [if_pos hne]
    intro r hr
    cases hr
  · rw [if_neg hne]
    exact zv_idivK X hdg hne (k hne)
theorem zv_iremK (X : Cx Γ Z cc own nL ret R) {a b : Int} (hdg : decode cc pc = .ok (.irem, 1)) (hne : ¬ zI b = 0) (k : Zv Γ Z nL Qf o D (pc + 1) lv (zi (jrem a b) :: st)) : Zv Γ Z nL Qf o D pc lv (zi b :: zi a :: st) := by
  intro r hr H locs ls hw hs hl
  have k2 := k r hr H locs ls hw hs hl
  unfold zi jrem at k2
  rw [zI_of] at k2
  exact lv_irem X.1 X.2.1 hdg hne k2
theorem zv_irem (X : Cx Γ Z cc own nL ret R) {a b : Int} {inst : Decidable (zI b = 0)} (hdg : decode cc pc = .ok (.irem, 1)) (k : ¬ zI b = 0 → Zv Γ Z nL Qf o D (pc + 1) lv (zi (jrem a b) :: st)) : Zv Γ Z nL Qf (@ite _ (zI b = 0) inst none o) D pc lv (zi b :: zi a :: st) := by
  by_cases hne : zI b = 0
  · rw [if_pos hne]
    intro r hr
    cases hr
  · rw [if_neg hne]
    exact zv_iremK X hdg hne (k hne)
theorem zv_ldivK (X : Cx Γ Z cc own nL ret R) {a b : Int} (hdg : decode cc pc = .ok (.ldiv, 1)) (hne : ¬ zL b = 0) (k : Zv Γ Z nL Qf o D (pc + 1) lv (zl (jldiv a b) :: st)) : Zv Γ Z nL Qf o D pc lv (zl b :: zl a :: st) := by
  intro r hr H locs ls hw hs hl
  have k2 := k r hr H locs ls hw hs hl
  unfold zl jldiv at k2
  rw [zL_of] at k2
  exact lv_ldiv X.1 X.2.1 hdg hne k2
theorem zv_ldiv (X : Cx Γ Z cc own nL ret R) {a b : Int} {inst : Decidable (zL b = 0)} (hdg : decode cc pc = .ok (.ldiv, 1)) (k : ¬ zL b = 0 → Zv Γ Z nL Qf o D (pc + 1) lv (zl (jldiv a b) :: st)) : Zv Γ Z nL Qf (@ite _ (zL b = 0) inst none o) D pc lv (zl b :: zl a :: st) := by
  by_cases hne : zL b = 0
  · rw [if_pos hne]
    intro r hr
    cases hr
  · rw [if_neg hne]
    exact zv_ldivK X hdg hne (k hne)
theorem zv_lremK (X : Cx Γ Z cc own nL ret R) {a b : Int} (hdg : decode cc pc = .ok (.lrem, 1)) (hne : ¬ zL b = 0) (k : Zv Γ Z nL Qf o D (pc + 1) lv (zl (jlrem a b) :: st)) : Zv Γ Z nL Qf o D pc lv (zl b :: zl a :: st) := by
  intro r hr H locs ls hw hs hl
  have k2 := k r hr H locs ls hw hs hl
  unfold zl jlrem at k2
  rw [zL_of] at k2
  exact lv_lrem X.1 X.2.1 hdg hne k2
theorem zv_lrem (X : Cx Γ Z cc own nL ret R) {a b : Int} {inst : Decidable (zL b = 0)} (hdg : decode cc pc = .ok (.lrem, 1)) (k : ¬ zL b = 0 → Zv Γ Z nL Qf o D (pc + 1) lv (zl (jlrem a b) :: st)) : Zv Γ Z nL Qf (@ite _ (zL b = 0) inst none o) D pc lv (zl b :: zl a :: st) := by
  by_cases hne : zL b = 0
  · rw [if_pos hne]
    intro r hr
    cases hr
  · rw [if_neg hne]
    exact zv_lremK X hdg hne (k hne)
theorem zv_iushr (X : Cx Γ Z cc own nL ret R) {a b : Int} (hdg : decode cc pc = .ok (.iushr, 1)) (k : Zv Γ Z nL Qf o D (pc + 1) lv (zi (jushr a b) :: st)) : Zv Γ Z nL Qf o D pc lv (zi b :: zi a :: st) := by
  intro r hr H locs ls hw hs hl
  exact lv_iushr X.1 X.2.1 hdg (by unfold jushr; rw [zI_of]) (k r hr H locs ls hw hs hl)
theorem zv_lushr (X : Cx Γ Z cc own nL ret R) {a b : Int} (hdg : decode cc pc = .ok (.lushr, 1)) (k : Zv Γ Z nL Qf o D (pc + 1) lv (zl (jlushr a b) :: st)) : Zv Γ Z nL Qf o D pc lv (zi b :: zl a :: st) := by
  intro r hr H locs ls hw hs hl
  exact lv_lushr X.1 X.2.1 hdg (by unfold jlushr; rw [zL_of]) (k r hr H locs ls hw hs hl)
theorem zv_lshl (X : Cx Γ Z cc own nL ret R) {a b : Int} (hdg : decode cc pc = .ok (.lshl, 1)) (k : Zv Γ Z nL Qf o D (pc + 1) lv (zl (jlshl a b) :: st)) : Zv Γ Z nL Qf o D pc lv (zi b :: zl a :: st) := by
  intro r hr H locs ls hw hs hl
  exact lv_lshl X.1 X.2.1 hdg (by unfold jlshl; rw [zL_of]) (k r hr H locs ls hw hs hl)
theorem zv_lshr (X : Cx Γ Z cc own nL ret R) {a b : Int} (hdg : decode cc pc = .ok (.lshr, 1)) (k : Zv Γ Z nL Qf o D (pc + 1) lv (zl (jlshr a b) :: st)) : Zv Γ Z nL Qf o D pc lv (zi b :: zl a :: st) := by
  intro r hr H locs ls hw hs hl
  exact lv_lshr X.1 X.2.1 hdg (by unfold jlshr; rw [zL_of]) (k r hr H locs ls hw hs hl)
theorem zv_ineg (X : Cx Γ Z cc own nL ret R) {a : Int} (hdg : decode cc pc = .ok (.ineg, 1)) (k : Zv Γ Z nL Qf o D (pc + 1) lv (zi (-a) :: st)) : Zv Γ Z nL Qf o D pc lv (zi a :: st) := by
  intro r hr H locs ls hw hs hl
  refine lv_ineg X.1 X.2.1 hdg ?_
  rw [zI_neg]
  exact k r hr H locs ls hw hs hl
theorem zv_i2l (X : Cx Γ Z cc own nL ret R) {a : Int} (hdg : decode cc pc = .ok (.i2l, 1)) (k : Zv Γ Z nL Qf o D (pc + 1) lv (zl (wI a) :: st)) : Zv Γ Z nL Qf o D pc lv (zi a :: st) := by
  intro r hr H locs ls hw hs hl
  exact lv_i2l X.1 X.2.1 hdg (Int64.toInt_inj.mp (by rw [Int32.toInt_toInt64]; unfold wI; exact (zL_toInt (by have := (zI a).le_toInt; omega) (by have := (zI a).toInt_lt; omega)).symm)) (k r hr H locs ls hw hs hl)
theorem zv_l2i (X : Cx Γ Z cc own nL ret R) {a : Int} (hdg : decode cc pc = .ok (.l2i, 1)) (k : Zv Γ Z nL Qf o D (pc + 1) lv (zi a :: st)) : Zv Γ Z nL Qf o D pc lv (zl a :: st) := by
  intro r hr H locs ls hw hs hl
  exact lv_l2i X.1 X.2.1 hdg Int64.toInt32_ofInt (k r hr H locs ls hw hs hl)
theorem zv_dup (X : Cx Γ Z cc own nL ret R) {v : Value} (hdg : decode cc pc = .ok (.dup, 1)) (hv : v.category = 1) (k : Zv Γ Z nL Qf o D (pc + 1) lv (v :: v :: st)) : Zv Γ Z nL Qf o D pc lv (v :: st) := by
  intro r hr H locs ls hw hs hl
  exact lv_dup X.1 X.2.1 hdg hv (k r hr H locs ls hw hs hl)
theorem zv_pop (X : Cx Γ Z cc own nL ret R) {v : Value} (hdg : decode cc pc = .ok (.pop, 1)) (hv : v.category = 1) (k : Zv Γ Z nL Qf o D (pc + 1) lv st) : Zv Γ Z nL Qf o D pc lv (v :: st) := by
  intro r hr H locs ls hw hs hl
  exact lv_pop X.1 X.2.1 hdg hv (k r hr H locs ls hw hs hl)
theorem zv_dup2 (X : Cx Γ Z cc own nL ret R) {v w : Value} (hdg : decode cc pc = .ok (.dup2, 1)) (hv : v.category = 1) (hw2 : w.category = 1) (k : Zv Γ Z nL Qf o D (pc + 1) lv (v :: w :: v :: w :: st)) : Zv Γ Z nL Qf o D pc lv (v :: w :: st) := by
  intro r hr H locs ls hw hs hl
  exact lv_dup2_11 X.1 X.2.1 hdg hv hw2 (k r hr H locs ls hw hs hl)
theorem zv_goto (X : Cx Γ Z cc own nL ret R) {off : Int} {tgt : Nat} (hdg : decode cc pc = .ok (.goto off, 3)) (ht : (pc : Int) + off = (tgt : Int)) (k : Zv Γ Z nL Qf o D tgt lv st) : Zv Γ Z nL Qf o D pc lv st := by
  intro r hr H locs ls hw hs hl
  exact lv_goto X.1 X.2.1 hdg ht (k r hr H locs ls hw hs hl)
theorem zv_icmp_eq (X : Cx Γ Z cc own nL ret R) {x y : Int} {off : Int} {tgt : Nat} {inst : Decidable (zI x = zI y)} (hdg : decode cc pc = .ok (.if_icmp .eq off, 3)) (ht : (pc : Int) + off = (tgt : Int)) (kt : zI x = zI y → Zv Γ Z nL Qf o1 D tgt lv st) (kf : ¬ zI x = zI y → Zv Γ Z nL Qf o2 D (pc + 3) lv st) : Zv Γ Z nL Qf (@ite _ (zI x = zI y) inst o1 o2) D pc lv (zi y :: zi x :: st) := by
  intro r hr H locs ls hw hs hl
  refine lv_icmp_eq X.1 X.2.1 hdg ht (fun h => ?_) (fun h => ?_)
  · rw [if_pos h] at hr; exact kt h r hr H locs ls hw hs hl
  · rw [if_neg h] at hr; exact kf h r hr H locs ls hw hs hl
theorem zv_icmp_ne (X : Cx Γ Z cc own nL ret R) {x y : Int} {off : Int} {tgt : Nat} {inst : Decidable (zI x = zI y)} (hdg : decode cc pc = .ok (.if_icmp .ne off, 3)) (ht : (pc : Int) + off = (tgt : Int)) (kt : ¬ zI x = zI y → Zv Γ Z nL Qf o1 D tgt lv st) (kf : zI x = zI y → Zv Γ Z nL Qf o2 D (pc + 3) lv st) : Zv Γ Z nL Qf (@ite _ (zI x = zI y) inst o2 o1) D pc lv (zi y :: zi x :: st) := by
  intro r hr H locs ls hw hs hl
  refine lv_icmp_ne X.1 X.2.1 hdg ht (fun h => ?_) (fun h => ?_)
  · rw [if_neg h] at hr; exact kt h r hr H locs ls hw hs hl
  · rw [if_pos h] at hr; exact kf h r hr H locs ls hw hs hl
theorem zv_icmp_lt (X : Cx Γ Z cc own nL ret R) {x y : Int} {off : Int} {tgt : Nat} {inst : Decidable (zI x < zI y)} (hdg : decode cc pc = .ok (.if_icmp .lt off, 3)) (ht : (pc : Int) + off = (tgt : Int)) (kt : zI x < zI y → Zv Γ Z nL Qf o1 D tgt lv st) (kf : ¬ zI x < zI y → Zv Γ Z nL Qf o2 D (pc + 3) lv st) : Zv Γ Z nL Qf (@ite _ (zI x < zI y) inst o1 o2) D pc lv (zi y :: zi x :: st) := by
  intro r hr H locs ls hw hs hl
  refine lv_icmp_lt X.1 X.2.1 hdg ht (fun h => ?_) (fun h => ?_)
  · rw [if_pos h] at hr; exact kt h r hr H locs ls hw hs hl
  · rw [if_neg h] at hr; exact kf h r hr H locs ls hw hs hl
theorem zv_icmp_ge (X : Cx Γ Z cc own nL ret R) {x y : Int} {off : Int} {tgt : Nat} {inst : Decidable (zI y ≤ zI x)} (hdg : decode cc pc = .ok (.if_icmp .ge off, 3)) (ht : (pc : Int) + off = (tgt : Int)) (kt : zI y ≤ zI x → Zv Γ Z nL Qf o1 D tgt lv st) (kf : ¬ zI y ≤ zI x → Zv Γ Z nL Qf o2 D (pc + 3) lv st) : Zv Γ Z nL Qf (@ite _ (zI y ≤ zI x) inst o1 o2) D pc lv (zi y :: zi x :: st) := by
  intro r hr H locs ls hw hs hl
  refine lv_icmp_ge X.1 X.2.1 hdg ht (fun h => ?_) (fun h => ?_)
  · rw [if_pos h] at hr; exact kt h r hr H locs ls hw hs hl
  · rw [if_neg h] at hr; exact kf h r hr H locs ls hw hs hl
theorem zv_icmp_gt (X : Cx Γ Z cc own nL ret R) {x y : Int} {off : Int} {tgt : Nat} {inst : Decidable (zI y < zI x)} (hdg : decode cc pc = .ok (.if_icmp .gt off, 3)) (ht : (pc : Int) + off = (tgt : Int)) (kt : zI y < zI x → Zv Γ Z nL Qf o1 D tgt lv st) (kf : ¬ zI y < zI x → Zv Γ Z nL Qf o2 D (pc + 3) lv st) : Zv Γ Z nL Qf (@ite _ (zI y < zI x) inst o1 o2) D pc lv (zi y :: zi x :: st) := by
  intro r hr H locs ls hw hs hl
  refine lv_icmp_gt X.1 X.2.1 hdg ht (fun h => ?_) (fun h => ?_)
  · rw [if_pos h] at hr; exact kt h r hr H locs ls hw hs hl
  · rw [if_neg h] at hr; exact kf h r hr H locs ls hw hs hl
theorem zv_icmp_le (X : Cx Γ Z cc own nL ret R) {x y : Int} {off : Int} {tgt : Nat} {inst : Decidable (zI x ≤ zI y)} (hdg : decode cc pc = .ok (.if_icmp .le off, 3)) (ht : (pc : Int) + off = (tgt : Int)) (kt : zI x ≤ zI y → Zv Γ Z nL Qf o1 D tgt lv st) (kf : ¬ zI x ≤ zI y → Zv Γ Z nL Qf o2 D (pc + 3) lv st) : Zv Γ Z nL Qf (@ite _ (zI x ≤ zI y) inst o1 o2) D pc lv (zi y :: zi x :: st) := by
  intro r hr H locs ls hw hs hl
  refine lv_icmp_le X.1 X.2.1 hdg ht (fun h => ?_) (fun h => ?_)
  · rw [if_pos h] at hr; exact kt h r hr H locs ls hw hs hl
  · rw [if_neg h] at hr; exact kf h r hr H locs ls hw hs hl
theorem zv_if_eq (X : Cx Γ Z cc own nL ret R) {x y : Int} {off : Int} {tgt : Nat} {inst : Decidable (zI x = 0)} (hdg : decode cc pc = .ok (.ifCond .eq off, 3)) (ht : (pc : Int) + off = (tgt : Int)) (kt : zI x = 0 → Zv Γ Z nL Qf o1 D tgt lv st) (kf : ¬ zI x = 0 → Zv Γ Z nL Qf o2 D (pc + 3) lv st) : Zv Γ Z nL Qf (@ite _ (zI x = 0) inst o1 o2) D pc lv (zi x :: st) := by
  intro r hr H locs ls hw hs hl
  refine lv_if_eq X.1 X.2.1 hdg ht (fun h => ?_) (fun h => ?_)
  · rw [if_pos h] at hr; exact kt h r hr H locs ls hw hs hl
  · rw [if_neg h] at hr; exact kf h r hr H locs ls hw hs hl
theorem zv_if_ne (X : Cx Γ Z cc own nL ret R) {x y : Int} {off : Int} {tgt : Nat} {inst : Decidable (zI x = 0)} (hdg : decode cc pc = .ok (.ifCond .ne off, 3)) (ht : (pc : Int) + off = (tgt : Int)) (kt : ¬ zI x = 0 → Zv Γ Z nL Qf o1 D tgt lv st) (kf : zI x = 0 → Zv Γ Z nL Qf o2 D (pc + 3) lv st) : Zv Γ Z nL Qf (@ite _ (zI x = 0) inst o2 o1) D pc lv (zi x :: st) := by
  intro r hr H locs ls hw hs hl
  refine lv_if_ne X.1 X.2.1 hdg ht (fun h => ?_) (fun h => ?_)
  · rw [if_neg h] at hr; exact kt h r hr H locs ls hw hs hl
  · rw [if_pos h] at hr; exact kf h r hr H locs ls hw hs hl
theorem zv_if_lt (X : Cx Γ Z cc own nL ret R) {x y : Int} {off : Int} {tgt : Nat} {inst : Decidable (zI x < 0)} (hdg : decode cc pc = .ok (.ifCond .lt off, 3)) (ht : (pc : Int) + off = (tgt : Int)) (kt : zI x < 0 → Zv Γ Z nL Qf o1 D tgt lv st) (kf : ¬ zI x < 0 → Zv Γ Z nL Qf o2 D (pc + 3) lv st) : Zv Γ Z nL Qf (@ite _ (zI x < 0) inst o1 o2) D pc lv (zi x :: st) := by
  intro r hr H locs ls hw hs hl
  refine lv_if_lt X.1 X.2.1 hdg ht (fun h => ?_) (fun h => ?_)
  · rw [if_pos h] at hr; exact kt h r hr H locs ls hw hs hl
  · rw [if_neg h] at hr; exact kf h r hr H locs ls hw hs hl
theorem zv_if_ge (X : Cx Γ Z cc own nL ret R) {x y : Int} {off : Int} {tgt : Nat} {inst : Decidable (0 ≤ zI x)} (hdg : decode cc pc = .ok (.ifCond .ge off, 3)) (ht : (pc : Int) + off = (tgt : Int)) (kt : 0 ≤ zI x → Zv Γ Z nL Qf o1 D tgt lv st) (kf : ¬ 0 ≤ zI x → Zv Γ Z nL Qf o2 D (pc + 3) lv st) : Zv Γ Z nL Qf (@ite _ (0 ≤ zI x) inst o1 o2) D pc lv (zi x :: st) := by
  intro r hr H locs ls hw hs hl
  refine lv_if_ge X.1 X.2.1 hdg ht (fun h => ?_) (fun h => ?_)
  · rw [if_pos h] at hr; exact kt h r hr H locs ls hw hs hl
  · rw [if_neg h] at hr; exact kf h r hr H locs ls hw hs hl
theorem zv_if_gt (X : Cx Γ Z cc own nL ret R) {x y : Int} {off : Int} {tgt : Nat} {inst : Decidable (0 < zI x)} (hdg : decode cc pc = .ok (.ifCond .gt off, 3)) (ht : (pc : Int) + off = (tgt : Int)) (kt : 0 < zI x → Zv Γ Z nL Qf o1 D tgt lv st) (kf : ¬ 0 < zI x → Zv Γ Z nL Qf o2 D (pc + 3) lv st) : Zv Γ Z nL Qf (@ite _ (0 < zI x) inst o1 o2) D pc lv (zi x :: st) := by
  intro r hr H locs ls hw hs hl
  refine lv_if_gt X.1 X.2.1 hdg ht (fun h => ?_) (fun h => ?_)
  · rw [if_pos h] at hr; exact kt h r hr H locs ls hw hs hl
  · rw [if_neg h] at hr; exact kf h r hr H locs ls hw hs hl
theorem zv_if_le (X : Cx Γ Z cc own nL ret R) {x y : Int} {off : Int} {tgt : Nat} {inst : Decidable (zI x ≤ 0)} (hdg : decode cc pc = .ok (.ifCond .le off, 3)) (ht : (pc : Int) + off = (tgt : Int)) (kt : zI x ≤ 0 → Zv Γ Z nL Qf o1 D tgt lv st) (kf : ¬ zI x ≤ 0 → Zv Γ Z nL Qf o2 D (pc + 3) lv st) : Zv Γ Z nL Qf (@ite _ (zI x ≤ 0) inst o1 o2) D pc lv (zi x :: st) := by
  intro r hr H locs ls hw hs hl
  refine lv_if_le X.1 X.2.1 hdg ht (fun h => ?_) (fun h => ?_)
  · rw [if_pos h] at hr; exact kt h r hr H locs ls hw hs hl
  · rw [if_neg h] at hr; exact kf h r hr H locs ls hw hs hl
end ZR

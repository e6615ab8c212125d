section ZF
variable {Z : Zt} {nL : Nat} {D : Mm} {lv : List (Nat × Value)} {cc : ByteArray} {own : String} {ret : Option FieldType}
theorem zm_MF {l : Launch} {y : MethodName} {rm : Room} {rk : Nat} {av : List Value} {om : Option (Int × Mm)} (hZ : Zok Z) (hy : plainFor y = true) (hcls : y.cls = own) (hlen : (lg_sl av).length ≤ nL) (hlv : lv_args 0 av = lv) (body : ∀ Γ, Γ.2.1 = l → Cx Γ Z cc own nL ret rm → Zv Γ Z nL (QfM Γ Z rk) om D 0 lv []) : CtM l Z y cc nL ret rm rk av D om := by
  intro x hx
  refine va_MetF (cc := cc) (maxL := nL) (ret := ret) hy rfl ?_
  intro p e s m args below meth c s₁ B hml hv
  obtain ⟨rfl, hd, hK⟩ := hv
  have hts := atoms_spec (ws := Cond.code y cc nL ret :: zT) B.pre
  have hown : s.vm.findClass y.cls = some m.cls := findClass_of_methodNamed B.named
  rw [hcls] at hown
  have hl := lv_entry av (n := nL) hlen
  rw [lg_entry_eq]
  rw [hlv] at hl
  exact body (p, l, e, rm, s, m, av.toArray, below, meth, c, 0, 0) rfl ⟨B.exec, B.bytes, hml, hown, fun w hw => hts w (List.mem_cons_of_mem _ hw), hK, B.notSynchronized, hZ, B.returns, rfl, Nat.zero_le _, Nat.zero_le _⟩ x hx s.heap [] _ hd va_S.rf hl
theorem zm_PF {l : Launch} {y : MethodName} {rm : Room} {rk : Nat} {av : List Value} {om : Option Int} (hZ : Zok Z) (hy : plainFor y = true) (hcls : y.cls = own) (hlen : (lg_sl av).length ≤ nL) (hlv : lv_args 0 av = lv) (body : ∀ Γ, Γ.2.1 = l → Cx Γ Z cc own nL ret rm → Zv Γ Z nL (QfP Γ Z rk D) om D 0 lv []) : CtP l Z y cc nL ret rm rk av D om := by
  intro x hx
  refine va_MetF (cc := cc) (maxL := nL) (ret := ret) hy rfl ?_
  intro p e s m args below meth c s₁ B hml hv
  obtain ⟨rfl, hd, hK⟩ := hv
  have hts := atoms_spec (ws := Cond.code y cc nL ret :: zT) B.pre
  have hown : s.vm.findClass y.cls = some m.cls := findClass_of_methodNamed B.named
  rw [hcls] at hown
  have hl := lv_entry av (n := nL) hlen
  rw [lg_entry_eq]
  rw [hlv] at hl
  exact body (p, l, e, rm, s, m, av.toArray, below, meth, c, 0, 0) rfl ⟨B.exec, B.bytes, hml, hown, fun w hw => hts w (List.mem_cons_of_mem _ hw), hK, B.notSynchronized, hZ, B.returns, rfl, Nat.zero_le _, Nat.zero_le _⟩ x hx s.heap [] _ hd va_S.rf hl
end ZF

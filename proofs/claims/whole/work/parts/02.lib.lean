/-! MY LAYER: a flat memory D (cell, place -> number) laid over the heap; the judgement Zv: 'if the pure answer o is some r, the machine comes to Qf r'. -/
abbrev Mm : Type := Int → Int → Int
abbrev Zt : Type := va_G × (Nat → ClassId) × (Int → Nat) × Int × Nat
abbrev Gt : Type := Program × Launch × Env × Room × State × MethodId × Array Value × List Frame × Method × Code × Nat × Nat
def zI (x : Int) : Int32 := Int32.ofInt x
def zL (x : Int) : Int64 := Int64.ofInt x
def zi (x : Int) : Value := .int (zI x)
def zl (x : Int) : Value := .long (zL x)
def zr (Z : Zt) (a : Int) : Value := .ref (Z.2.2.1 a)
def sh (a : Int) : Nat × Int := z_shl.getD a.toNat (99, 0)
def Zin (Z : Zt) (a : Int) (k : Nat) (n : Int) : Prop := sh a = (k, n) ∧ 1 ≤ a ∧ a ≤ Z.2.2.2.1
def fl (ci : Nat) (Z : Zt) (D : Mm) (a : Int) : List Value := match ci with
  | 0 => [zr Z 3, zi (D a 1)]
  | 1 => [zr Z 5]
  | 2 => [zr Z 7, zr Z 8, zr Z 9, zi (D a 3), zi (D a 4), zi (D a 5), zi (D a 6)]
  | 3 => [zr Z 11]
  | 4 => [zr Z (a + 1), zr Z (a + 12), zi (D a 2), zi (D a 3), zi (D a 4)]
  | 5 => [zi (D a 0), zi (D a 1), zr Z (a + 1), zr Z (a + 8), zr Z (a + 9), zr Z (a + 10), zr Z (a + 11), zr Z (a + 12), zr Z (a + 23), zr Z (a + 28), zr Z (a + 29), zi (D a 11), zr Z (a + 30)]
  | 6 => [zr Z 2, zr Z 4, zr Z 6, zr Z 10, zr Z 12, zr Z 31, zi (D a 6), zr Z (D a 7), zr Z (D a 8)]
  | _ => [zi (D a 0), zr Z 145, zr Z 146, zr Z 147, zr Z 148, zr Z 149, zr Z 150, zr Z 151, zr Z 152, zr Z 153, zr Z 154, zr Z 155, zr Z 156, zr Z 157, zr Z 158, zr Z 159, zr Z 160, zr Z 161, zr Z 162, zi (D a 19), zi (D a 20), zr Z 163, zr Z 164, zr Z 165, zr Z 166]
def em (Z : Zt) (D : Mm) (a : Int) (s : Nat × Int) : va_E :=
  if s.1 = 0 then .inl (Z.2.1 0, (s.2.toNat, .inl (fun j => zI (D a (j : Int)))))
  else if s.1 = 1 then .inl (Z.2.1 1, (s.2.toNat, .inr (.inr (.inr (.inr (fun j => some (Z.2.2.1 (a + 1 + (j : Int)))))))))
  else if s.1 = 2 then .inl (Z.2.1 2, (s.2.toNat, .inr (.inr (.inr (.inr (fun j => some (Z.2.2.1 (106 + 19 * (j : Int)))))))))
  else .inr (s.1 - 10, fl (s.1 - 10) Z D a)
def wl (Z : Zt) (D : Mm) : va_W := (List.range Z.2.2.2.1.toNat).map (fun k : Nat => (Z.2.2.1 ((k : Int) + 1), em Z D ((k : Int) + 1) (sh ((k : Int) + 1))))
def zA (Z : Zt) : Nat → Prop := fun q => Z.2.2.2.2 ≤ q
def Zok (Z : Zt) : Prop := (∀ a b : Int, 1 ≤ a → a ≤ Z.2.2.2.1 → 1 ≤ b → b ≤ Z.2.2.2.1 → Z.2.2.1 a = Z.2.2.1 b → a = b) ∧ ∀ a : Int, 1 ≤ a → a ≤ Z.2.2.2.1 → Z.2.2.2.2 ≤ Z.2.2.1 a
def zty (Z : Zt) : List (ClassId × FieldType) := [(Z.2.1 0, .int), (Z.2.1 1, .array .int), (Z.2.1 2, .object "QuernGrains$Finds")]
def zK (Z : Zt) (U : State) : Prop := va_K Z.1 classes (zty Z) U ∧ ∀ w ∈ z_nest, va_Nw w U
def Wd (Z : Zt) (D : Mm) (H : Heap) : Prop := va_P Z.1 classes (wl Z D) H
def Cx (Γ : Gt) (Z : Zt) (cc : ByteArray) (own : String) (nL : Nat) (ret : Option FieldType) (R : Room) : Prop :=
  Γ.1.tables.exec = Jvm.exec ∧ Γ.2.2.2.2.2.2.2.2.2.1.code = cc ∧ Γ.2.2.2.2.2.2.2.2.2.1.maxLocals = nL ∧ Γ.2.2.2.2.1.vm.findClass own = some Γ.2.2.2.2.2.1.cls ∧ (∀ w ∈ zT, w.before Γ.2.2.2.2.2.2.1 Γ.2.2.2.2.1 = true) ∧
  zK Z Γ.2.2.2.2.1 ∧ Γ.2.2.2.2.2.2.2.2.1.locks = false ∧ Zok Z ∧ Γ.2.2.2.2.2.2.2.2.1.sig.returnType = ret ∧ Γ.2.2.2.1 = R ∧ Γ.2.2.2.2.2.2.2.2.2.2.1 ≤ R.cells ∧ Γ.2.2.2.2.2.2.2.2.2.2.2 ≤ R.slots
def zW (Γ : Gt) (H : Heap) (locs : List Loc) (Q : State → Prop) (pc : Nat) (ls : Array Slot) (st : List Value) : Prop :=
  W Γ.1 Γ.2.1 Γ.2.2.1 Γ.2.2.2.1 Γ.2.2.2.2.1 Γ.2.2.2.2.2.1 Γ.2.2.2.2.2.2.1 Γ.2.2.2.2.2.2.2.1 Γ.2.2.2.2.2.2.2.2.1 Γ.2.2.2.2.2.2.2.2.2.1 H locs Γ.2.2.2.2.2.2.2.2.2.2.1 Γ.2.2.2.2.2.2.2.2.2.2.2 Q (F0 Γ.2.2.2.2.2.1 pc ls st)
def Zv {α : Type} (Γ : Gt) (Z : Zt) (nL : Nat) (Qf : α → State → Prop) (o : Option α) (D : Mm) (pc : Nat) (lv : List (Nat × Value)) (st : List Value) : Prop :=
  ∀ r, o = some r → ∀ (H : Heap) (locs : List Loc) (ls : Array Slot), Wd Z D H → va_S (zA Z) Γ.2.2.2.2.1.heap H locs → lv_has ls nL lv → zW Γ H locs (Qf r) pc ls st
-- numbers
theorem zI_add (a b : Int) : zI a + zI b = zI (a + b) := (Int32.ofInt_add a b).symm
theorem zI_sub (a b : Int) : zI a - zI b = zI (a - b) := (Int32.ofInt_sub a b).symm
theorem zI_mul (a b : Int) : zI a * zI b = zI (a * b) := (Int32.ofInt_mul a b).symm
theorem zI_neg (a : Int) : - zI a = zI (-a) := (Int32.ofInt_neg a).symm
theorem zL_add (a b : Int) : zL a + zL b = zL (a + b) := (Int64.ofInt_add a b).symm
theorem zL_sub (a b : Int) : zL a - zL b = zL (a - b) := (Int64.ofInt_sub a b).symm
theorem zL_mul (a b : Int) : zL a * zL b = zL (a * b) := (Int64.ofInt_mul a b).symm
theorem zI_of (x : Int32) : zI x.toInt = x := Int32.ofInt_toInt x
theorem zL_of (x : Int64) : zL x.toInt = x := Int64.ofInt_toInt x
theorem zI_toInt {x : Int} (h1 : -2147483648 ≤ x) (h2 : x < 2147483648) : (zI x).toInt = x := by
  unfold zI
  rw [Int32.toInt_ofInt]
  have e : ((Int32.size : Nat) : Int) = 4294967296 := rfl
  exact Int.bmod_eq_of_le (by omega) (by omega)
theorem zL_toInt {x : Int} (h1 : -9223372036854775808 ≤ x) (h2 : x < 9223372036854775808) : (zL x).toInt = x := by
  unfold zL
  rw [Int64.toInt_ofInt]
  have e : ((Int64.size : Nat) : Int) = 18446744073709551616 := rfl
  exact Int.bmod_eq_of_le (by omega) (by omega)
def jdiv (x y : Int) : Int := (zI x / zI y).toInt
def jrem (x y : Int) : Int := (zI x - zI x / zI y * zI y).toInt
def jand (x y : Int) : Int := (zI x &&& zI y).toInt
def jor (x y : Int) : Int := (zI x ||| zI y).toInt
def jxor (x y : Int) : Int := (zI x ^^^ zI y).toInt
def jshl (x y : Int) : Int := (zI x <<< (zI y &&& 31)).toInt
def jshr (x y : Int) : Int := (zI x >>> (zI y &&& 31)).toInt
def jushr (x y : Int) : Int := ((zI x).toUInt32 >>> ((zI y).toUInt32 &&& Int32.toUInt32 31)).toInt32.toInt
def jldiv (x y : Int) : Int := (zL x / zL y).toInt
def jlrem (x y : Int) : Int := (zL x - zL x / zL y * zL y).toInt
def jland (x y : Int) : Int := (zL x &&& zL y).toInt
def jlor (x y : Int) : Int := (zL x ||| zL y).toInt
def jlshl (x y : Int) : Int := (zL x <<< ((zI y).toInt64 &&& 63)).toInt
def jlshr (x y : Int) : Int := (zL x >>> ((zI y).toInt64 &&& 63)).toInt
def jlushr (x y : Int) : Int := ((zL x).toUInt64 >>> ((zI y).toInt64.toUInt64 &&& Int64.toUInt64 63)).toInt64.toInt
def ji2l (x : Int) : Int := (zI x).toInt64.toInt
def jl2i (x : Int) : Int := (zL x).toInt32.toInt
-- memory
def stm (D : Mm) (a i x : Int) : Mm := fun a' i' => if a' = a ∧ i' = i then x else D a' i'
def cpm (D : Mm) (s sp d dp n : Int) : Mm := fun a' i' => if a' = d ∧ dp ≤ i' ∧ i' < dp + n then D s (sp + (i' - dp)) else D a' i'
theorem wl_at {Z : Zt} {D : Mm} {a : Int} (h1 : 1 ≤ a) (h2 : a ≤ Z.2.2.2.1) : (wl Z D)[a.toNat - 1]? = some (Z.2.2.1 a, em Z D a (sh a)) := by
  have e : ((a.toNat - 1 : Nat) : Int) + 1 = a := by omega
  unfold wl
  rw [List.getElem?_map, List.getElem?_range (by omega)]
  simp only [Option.map_some, e]
theorem wl_D {Z : Zt} (hz : Zok Z) (D : Mm) : va_D (zA Z) (wl Z D) := by
  have g : ∀ (k : Nat) (p : Nat × va_E), (wl Z D)[k]? = some p → (k : Int) + 1 ≤ Z.2.2.2.1 ∧ p.1 = Z.2.2.1 ((k : Int) + 1) := by
    intro k p h
    unfold wl at h
    rw [List.getElem?_map] at h
    by_cases hk : k < Z.2.2.2.1.toNat
    · rw [List.getElem?_range hk] at h
      simp only [Option.map_some, Option.some.injEq] at h
      exact ⟨by omega, by rw [← h]⟩
    · rw [List.getElem?_eq_none (by simp; omega)] at h
      cases h
  refine ⟨fun i j p q h1 h2 e => ?_, fun k q h => ?_⟩
  · obtain ⟨a1, a2⟩ := g i p h1
    obtain ⟨b1, b2⟩ := g j q h2
    have := hz.1 ((i : Int) + 1) ((j : Int) + 1) (by omega) a1 (by omega) b1 (by rw [← a2, ← b2, e])
    omega
  · obtain ⟨a1, a2⟩ := g k q h
    rw [a2]
    exact hz.2 _ (by omega) a1
theorem wl_set {Z : Zt} {D D' : Mm} {a : Int} {e : va_E} (h1 : 1 ≤ a) (h2 : a ≤ Z.2.2.2.1) (he : em Z D' a (sh a) = e) (ho : ∀ b : Int, b ≠ a → em Z D' b (sh b) = em Z D b (sh b)) : (wl Z D).set (a.toNat - 1) (Z.2.2.1 a, e) = wl Z D' := by
  apply List.ext_getElem?
  intro k
  by_cases hk : k = a.toNat - 1
  · subst hk
    rw [wl_at h1 h2, he, List.getElem?_set_self (by unfold wl; simp; omega)]
  · rw [List.getElem?_set_ne (Ne.symm hk)]
    unfold wl
    rw [List.getElem?_map, List.getElem?_map]
    cases hr : (List.range Z.2.2.2.1.toNat)[k]? with
    | none => rfl
    | some j =>
      have hj : j = k := by
        have hlt := (List.getElem?_eq_some_iff.mp hr).1
        rw [List.getElem?_range (by simpa using hlt)] at hr
        exact (Option.some.inj hr).symm
      subst hj
      simp only [Option.map_some]
      rw [ho _ (by omega)]
theorem em_arr {Z : Zt} {D : Mm} {a n : Int} : em Z D a (0, n) = .inl (Z.2.1 0, (n.toNat, .inl (fun j => zI (D a (j : Int))))) := rfl
theorem em_row {Z : Zt} {D : Mm} {a n : Int} : em Z D a (1, n) = .inl (Z.2.1 1, (n.toNat, .inr (.inr (.inr (.inr (fun j => some (Z.2.2.1 (a + 1 + (j : Int))))))))) := rfl
theorem em_fnd {Z : Zt} {D : Mm} {a n : Int} : em Z D a (2, n) = .inl (Z.2.1 2, (n.toNat, .inr (.inr (.inr (.inr (fun j => some (Z.2.2.1 (106 + 19 * (j : Int))))))))) := rfl
theorem em_obj {Z : Zt} {D : Mm} {a n : Int} {ci : Nat} : em Z D a (10 + ci, n) = .inr (ci, fl ci Z D a) := by
  unfold em
  rw [if_neg (by show ¬ 10 + ci = 0; omega), if_neg (by show ¬ 10 + ci = 1; omega), if_neg (by show ¬ 10 + ci = 2; omega)]
  show Sum.inr (10 + ci - 10, fl (10 + ci - 10) Z D a) = _
  rw [Nat.add_sub_cancel_left]
theorem fl_oth {Z : Zt} {D : Mm} {a i x b : Int} (h : b ≠ a) (ci : Nat) : fl ci Z (stm D a i x) b = fl ci Z D b := by
  have e : ∀ j, stm D a i x b j = D b j := fun j => by unfold stm; rw [if_neg (fun q => h q.1)]
  unfold fl
  split <;> simp only [e]
theorem em_oth {Z : Zt} {D : Mm} {a i x b : Int} (h : b ≠ a) (s : Nat × Int) : em Z (stm D a i x) b s = em Z D b s := by
  have e : ∀ j, stm D a i x b j = D b j := fun j => by unfold stm; rw [if_neg (fun q => h q.1)]
  unfold em
  rw [fl_oth h]
  simp only [e]
theorem vp_in_z {i n : Int} (h1 : 0 ≤ i) (h2 : i < n) (h3 : n ≤ 2147483647) : vp_in (zI i) n.toNat ∧ (zI i).toNatClampNeg = i.toNat := by
  have e : (zI i).toInt = i := zI_toInt (by omega) (by omega)
  refine ⟨vp_in_iff.mpr ⟨by rw [e]; exact h1, by rw [e]; omega⟩, ?_⟩
  show (zI i).toInt.toNat = _
  rw [e]

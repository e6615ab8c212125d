def isQ (q : Int) : Prop := q = 32 ∨ q = 69
def isF (f : Int) : Prop := f = 12 ∨ f = 106 ∨ f = 125
def zF : Nat := 1000000
def zst {α : Type} (D : Mm) (a i x : Int) (k : Mm → Option α) : Option α := k (stm D a i x)
def zcp {α : Type} (D : Mm) (s sp d dp n : Int) (k : Mm → Option α) : Option α := k (cpm D s sp d dp n)
def zlt {α : Type} (e : Int) (k : Int → Option α) : Option α := k e
section ZE
variable {α : Type} {Γ : Gt} {Z : Zt} {nL : Nat} {Qf : α → State → Prop} {o o1 o2 : Option α} {D : Mm} {pc : Nat} {lv lv2 : List (Nat × Value)} {st : List Value} {cc : ByteArray} {own : String} {ret : Option FieldType} {R : Room} {kf : Mm → Option α}
theorem zv_iastC (X : Cx Γ Z cc own nL ret R) {a i n x : Int} (ha : Zin Z a 0 n) {inst : Decidable (0 ≤ i ∧ i < n)} (hdg : decode cc pc = .ok (.iastore, 1)) (kk : 0 ≤ i → i < n → ∀ D1 : Mm, Zv Γ Z nL Qf (kf D1) D1 (pc + 1) lv st) : Zv Γ Z nL Qf (@ite _ (0 ≤ i ∧ i < n) inst (zst D a i x kf) none) D pc lv (zi x :: zi i :: zr Z a :: st) := zv_iast X ha hdg (fun h1 h2 => kk h1 h2 _)
theorem zv_iastK (X : Cx Γ Z cc own nL ret R) {a i n x : Int} (ha : Zin Z a 0 n) (h1 : 0 ≤ i) (h2 : i < n) (hdg : decode cc pc = .ok (.iastore, 1)) (kk : ∀ D1 : Mm, Zv Γ Z nL Qf (kf D1) D1 (pc + 1) lv st) : Zv Γ Z nL Qf (zst D a i x kf) D pc lv (zi x :: zi i :: zr Z a :: st) := by
  have h := zv_iast (n := n) (inst := inferInstance) (o := kf (stm D a i x)) X ha hdg (fun _ _ => kk (stm D a i x))
  rw [if_pos ⟨h1, h2⟩] at h
  exact h
theorem zv_ialdK (X : Cx Γ Z cc own nL ret R) {a i n : Int} (ha : Zin Z a 0 n) (h1 : 0 ≤ i) (h2 : i < n) (hdg : decode cc pc = .ok (.iaload, 1)) (kk : Zv Γ Z nL Qf o D (pc + 1) lv (zi (D a i) :: st)) : Zv Γ Z nL Qf o D pc lv (zi i :: zr Z a :: st) := by
  have h := zv_iald (n := n) (inst := inferInstance) (o := o) X ha hdg (fun _ _ => kk)
  rw [if_pos ⟨h1, h2⟩] at h
  exact h
theorem zv_aaldK (X : Cx Γ Z cc own nL ret R) {a i n : Int} (b : Int) (ha : Zin Z a 1 n) (h1 : 0 ≤ i) (h2 : i < n) (hdg : decode cc pc = .ok (.aaload, 1)) (hb : a + 1 + i = b) (kk : Zv Γ Z nL Qf o D (pc + 1) lv (zr Z b :: st)) : Zv Γ Z nL Qf o D pc lv (zi i :: zr Z a :: st) := by
  have h := zv_aald (n := n) (inst := inferInstance) (o := o) X b ha hdg hb (fun _ _ => kk)
  rw [if_pos ⟨h1, h2⟩] at h
  exact h
theorem zv_faldK (X : Cx Γ Z cc own nL ret R) {a i n : Int} (b : Int) (ha : Zin Z a 2 n) (h1 : 0 ≤ i) (h2 : i < n) (hdg : decode cc pc = .ok (.aaload, 1)) (hb : 106 + 19 * i = b) (kk : Zv Γ Z nL Qf o D (pc + 1) lv (zr Z b :: st)) : Zv Γ Z nL Qf o D pc lv (zi i :: zr Z a :: st) := by
  have h := zv_fald (n := n) (inst := inferInstance) (o := o) X b ha hdg hb (fun _ _ => kk)
  rw [if_pos ⟨h1, h2⟩] at h
  exact h
theorem zv_putC (X : Cx Γ Z cc own nL ret R) {ci N index : Nat} {C : String} {T : u_T} (hc : classes[ci]? = some (C, T, N)) (hin : ∀ w ∈ u_ws C T N, w ∈ zT) (t0 : Nat → FieldType) (hty : ∀ k, k < N → parseFieldDescriptor (T k).2.2.1 = some (t0 k)) (hnm : ∀ a, a < N → ∀ b, b < N → a ≠ b → (T a).2.1 ≠ (T b).2.1) {a n x : Int} (ha : Zin Z a (10 + ci) n) (k : Nat) {kz : Int} (hkz : (k : Int) = kz) (hk : k < N) (hlink : Cond.fieldLink own index C (T k).2.1 (T k).2.2.1 ∈ zT) (hcls : (T k).1 = C) (hfin : (T k).2.2.2 = false) {v : Value} (hset : fl ci Z (stm D a kz x) a = (fl ci Z D a).set k v) (hl0 : k < (fl ci Z D a).length) (hn : narrow (t0 k) v = v) (hfit : fits (t0 k) v = true) (hdg : decode cc pc = .ok (.putfield index, 3)) (kk : ∀ D1 : Mm, Zv Γ Z nL Qf (kf D1) D1 (pc + 3) lv st) : Zv Γ Z nL Qf (zst D a kz x kf) D pc lv (v :: zr Z a :: st) := by
  subst hkz
  exact zv_put X hc hin t0 hty hnm ha k hk hlink hcls hfin hset hl0 hn hfit hdg (kk (stm D a k x))
theorem zv_let {e : Int} {kf : Int → Option α} (k : ∀ x : Int, Zv Γ Z nL Qf (kf x) D pc lv (zi x :: st)) : Zv Γ Z nL Qf (zlt e kf) D pc lv (zi e :: st) := k e
theorem zv_letl {e : Int} {kf : Int → Option α} (k : ∀ x : Int, Zv Γ Z nL Qf (kf x) D pc lv (zl x :: st)) : Zv Γ Z nL Qf (zlt e kf) D pc lv (zl e :: st) := k e
theorem zt_def {lo hi dflt : Int} {offs : Array Int} {cs : List Int} (hall : (List.range offs.size).all (fun k => cs.contains (lo + (k : Int)) || offs[k]? == some dflt) = true) (hsz : hi - lo + 1 = (offs.size : Int)) {v : Int} (hv : ∀ c ∈ cs, v ≠ c) : (v < lo ∨ hi < v) ∨ ((¬ v < lo) ∧ (¬ hi < v) ∧ offs[(v - lo).toNat]? = some dflt) := by
  by_cases h1 : v < lo
  · exact Or.inl (Or.inl h1)
  · by_cases h2 : hi < v
    · exact Or.inl (Or.inr h2)
    · refine Or.inr ⟨h1, h2, ?_⟩
      have hk : (v - lo).toNat < offs.size := by omega
      have h3 := List.all_eq_true.mp hall _ (List.mem_range.mpr hk)
      rcases (Bool.or_eq_true _ _).mp h3 with h4 | h4
      · have h5 : lo + ((v - lo).toNat : Int) ∈ cs := by simpa using h4
        exact absurd (show v = lo + ((v - lo).toNat : Int) by omega) (hv _ h5)
      · exact eq_of_beq h4
theorem zv_tdef (X : Cx Γ Z cc own nL ret R) {dflt lo hi : Int} {offs : Array Int} {len : Nat} {x : Int} {tgt : Nat} (hdg : decode cc pc = .ok (.tableswitch dflt lo hi offs, len)) (h : ((zI x).toInt < lo ∨ hi < (zI x).toInt) ∨ ((¬ (zI x).toInt < lo) ∧ (¬ hi < (zI x).toInt) ∧ offs[((zI x).toInt - lo).toNat]? = some dflt)) (ht : (pc : Int) + dflt = (tgt : Int)) (k : Zv Γ Z nL Qf o D tgt lv st) : Zv Γ Z nL Qf o D pc lv (zi x :: st) := by
  rcases h with h | h
  · exact zv_tout X hdg h ht k
  · exact zv_tin X hdg (j := (zI x).toInt) (zI_of _).symm (by rw [zI_of]; exact h) ht k
theorem zI_nek {x j : Int} (h : ¬ zI x = zI j) (hj : (zI j).toInt = j) : (zI x).toInt ≠ j := fun q => h (Int32.toInt_inj.mp (by rw [hj]; exact q))
theorem em_cp {a n b : Int} (hb : b ≠ a) {s sp dp : Int} (sx : Nat × Int) : em Z (cpm D s sp a dp n) b sx = em Z D b sx := by
  have e : ∀ j, cpm D s sp a dp n b j = D b j := fun j => by unfold cpm; rw [if_neg (fun q => hb q.1)]
  unfold em fl
  simp only [e]
theorem zv_copyK (X : Cx Γ Z cc own nL ret R) {idx : Nat} {s sp d dp n ns nd : Int} (hs0 : Zin Z s 0 ns) (hd0 : Zin Z d 0 nd) (hw : Cond.methodLink own idx arraycopyName ∈ zT ∧ Cond.native arraycopyName ∈ zT ∧ Cond.static arraycopyName ∈ zT ∧ Cond.initialized "java/lang/System" ∈ zT) (h1 : 0 ≤ sp) (h2 : 0 ≤ dp) (h3 : 0 ≤ n) (h4 : sp + n ≤ ns) (h5 : dp + n ≤ nd) (hR : 1 ≤ R.frames ∧ (st.map fun v => v.category).sum + (nativeFrameWords "java/lang/System" "arraycopy" 5 + 11) ≤ R.locals) (hdg : decode cc pc = .ok (.invokestatic idx, 3)) (kk : ∀ D1 : Mm, Zv Γ Z nL Qf (kf D1) D1 (pc + 3) lv st) : Zv Γ Z nL Qf (zcp D s sp d dp n kf) D pc lv (zi n :: zi dp :: zr Z d :: zi sp :: zr Z s :: st) := by
  intro r hr H locs ls hd hS hl
  have l1 := hs0.le
  have l2 := hd0.le
  have e0 := wl_at (D := D) hs0.2.1 hs0.2.2
  rw [hs0.1, em_arr] at e0
  have e1 := wl_at (D := D) hd0.2.1 hd0.2.2
  rw [hd0.1, em_arr] at e1
  have t : ∀ {x : Int}, 0 ≤ x → x ≤ 2147483647 → (¬ zI x < 0) ∧ (zI x).toNatClampNeg = x.toNat := by
    intro x a1 a2
    have e : (zI x).toInt = x := zI_toInt (by omega) (by omega)
    refine ⟨?_, ?_⟩
    · rw [Int32.lt_iff_toInt_lt, e]
      show ¬ x < 0
      omega
    · show (zI x).toInt.toNat = _
      rw [e]
  obtain ⟨a1, a2⟩ := t h1 (by omega)
  obtain ⟨b1, b2⟩ := t h2 (by omega)
  obtain ⟨c1, c2⟩ := t h3 (by omega)
  obtain ⟨w1, w2, w3, w4⟩ := hw
  have hR2 := X.2.2.2.2.2.2.2.2.2.1
  refine va_copyi (ty := .int) X.1 X.2.1 (by rw [X.2.2.1]; exact hl.1.symm) X.2.2.2.1 (X.2.2.2.2.1 _ w1) (X.2.2.2.2.1 _ w2) (X.2.2.2.2.1 _ w3) (X.2.2.2.2.1 _ w4) X.2.2.2.2.2.1.1 hd (wl_D X.2.2.2.2.2.2.2.1 D) hS (s.toNat - 1) (d.toNat - 1) 0 0 e0 e1 rfl rfl rfl a1 b1 c1 (by rw [a2, c2]; omega) (by rw [b2, c2]; omega) (fun _ _ => rfl) (by rw [hR2]; exact hR.1) (by rw [hR2]; exact hR.2) hdg (fun H1 locs1 k1 k2 k3 => ?_)
  refine kk (cpm D s sp d dp n) r hr H1 locs1 ls ?_ k3 hl
  rw [wl_set (D' := cpm D s sp d dp n) hd0.2.1 hd0.2.2 ?_ (fun b hb => em_cp hb _)] at k1
  · exact k1
  · rw [hd0.1, em_arr, a2, b2, c2]
    congr 3
    congr 1
    funext j
    unfold va_cpy cpm
    by_cases hj : dp.toNat ≤ j ∧ j < dp.toNat + n.toNat
    · rw [if_pos hj, if_pos ⟨rfl, by omega, by omega⟩]
      congr 2
      omega
    · rw [if_neg hj, if_neg (fun q => hj ⟨by omega, by omega⟩)]
end ZE

section ZM
variable {α : Type} {Γ : Gt} {Z : Zt} {nL : Nat} {Qf : α → State → Prop} {o o1 o2 : Option α} {D : Mm} {pc : Nat} {lv lv2 : List (Nat × Value)} {st : List Value} {cc : ByteArray} {own : String} {ret : Option FieldType} {R : Room}
theorem sh_le (a : Int) : (sh a).2 ≤ 2147483647 := by
  have h : z_shl.all (fun x => decide (x.2 ≤ 2147483647)) = true := by decide +kernel
  unfold sh
  rw [List.getD_eq_getElem?_getD]
  cases hx : z_shl[a.toNat]? with
  | none => decide
  | some y => exact of_decide_eq_true (List.all_eq_true.mp h y (List.mem_of_getElem? hx))
theorem Zin.le {a n : Int} {k : Nat} (h : Zin Z a k n) : n ≤ 2147483647 := by
  have := sh_le a
  rw [h.1] at this
  exact this
theorem zv_iald (X : Cx Γ Z cc own nL ret R) {a i n : Int} (ha : Zin Z a 0 n) {inst : Decidable (0 ≤ i ∧ i < n)} (hdg : decode cc pc = .ok (.iaload, 1)) (kk : 0 ≤ i → i < n → Zv Γ Z nL Qf o D (pc + 1) lv (zi (D a i) :: st)) : Zv Γ Z nL Qf (@ite _ (0 ≤ i ∧ i < n) inst o none) D pc lv (zi i :: zr Z a :: st) := by
  intro r hr H locs ls hw hs hl
  by_cases hc : 0 ≤ i ∧ i < n
  · rw [if_pos hc] at hr
    obtain ⟨g1, g2⟩ := vp_in_z hc.1 hc.2 ha.le
    have e0 := wl_at (D := D) ha.2.1 ha.2.2
    rw [ha.1, em_arr] at e0
    have e1 : ((i.toNat : Nat) : Int) = i := by omega
    have k2 := kk hc.1 hc.2 r hr H locs ls hw hs hl
    unfold zi at k2
    refine va_iald X.1 X.2.1 X.2.2.2.2.2.1.1 hw (a.toNat - 1) 0 e0 rfl g1 hdg ?_
    rw [g2, e1]
    exact k2
  · rw [if_neg hc] at hr
    cases hr
theorem stm_at {a i x : Int} : stm D a i x a i = x := by unfold stm; rw [if_pos ⟨rfl, rfl⟩]
theorem zv_iast (X : Cx Γ Z cc own nL ret R) {a i n x : Int} (ha : Zin Z a 0 n) {inst : Decidable (0 ≤ i ∧ i < n)} (hdg : decode cc pc = .ok (.iastore, 1)) (kk : 0 ≤ i → i < n → Zv Γ Z nL Qf o (stm D a i x) (pc + 1) lv st) : Zv Γ Z nL Qf (@ite _ (0 ≤ i ∧ i < n) inst o none) D pc lv (zi x :: zi i :: zr Z a :: st) := by
  intro r hr H locs ls hw hs hl
  by_cases hc : 0 ≤ i ∧ i < n
  · rw [if_pos hc] at hr
    obtain ⟨g1, g2⟩ := vp_in_z hc.1 hc.2 ha.le
    have e0 := wl_at (D := D) ha.2.1 ha.2.2
    rw [ha.1, em_arr] at e0
    refine va_iast X.1 X.2.1 X.2.2.2.2.2.1.1 hw (wl_D X.2.2.2.2.2.2.2.1 D) hs (a.toNat - 1) 0 e0 rfl g1 hdg (fun H1 locs1 h1 h2 h3 => ?_)
    refine kk hc.1 hc.2 r hr H1 locs1 ls ?_ h3 hl
    rw [wl_set (D' := stm D a i x) ha.2.1 ha.2.2 ?_ (fun b hb => em_oth hb _)] at h1
    · exact h1
    · rw [ha.1, em_arr, g2]
      congr 3
      congr 1
      funext j
      unfold upd stm
      by_cases hj : j = i.toNat
      · rw [if_pos hj, if_pos ⟨rfl, by omega⟩]
      · rw [if_neg hj, if_neg (fun q => hj (by omega))]
  · rw [if_neg hc] at hr
    cases hr
theorem zv_alen (X : Cx Γ Z cc own nL ret R) {a n : Int} (ha : Zin Z a 0 n) (hn : 0 ≤ n) (hdg : decode cc pc = .ok (.arraylength, 1)) (kk : Zv Γ Z nL Qf o D (pc + 1) lv (zi n :: st)) : Zv Γ Z nL Qf o D pc lv (zr Z a :: st) := by
  intro r hr H locs ls hw hs hl
  have e0 := wl_at (D := D) ha.2.1 ha.2.2
  rw [ha.1, em_arr] at e0
  have k2 := kk r hr H locs ls hw hs hl
  unfold zi at k2
  have e1 : zI n = nI n.toNat := by
    show Int32.ofInt n = Int32.ofNat n.toNat
    rw [← Int32.ofInt_eq_ofNat]
    congr 1
    omega
  rw [e1] at k2
  exact va_alen X.1 X.2.1 X.2.2.2.2.2.1.1 hw (a.toNat - 1) 0 e0 rfl rfl hdg k2
theorem zv_aald (X : Cx Γ Z cc own nL ret R) {a i n : Int} (b : Int) (ha : Zin Z a 1 n) {inst : Decidable (0 ≤ i ∧ i < n)} (hdg : decode cc pc = .ok (.aaload, 1)) (hb : a + 1 + i = b) (kk : 0 ≤ i → i < n → Zv Γ Z nL Qf o D (pc + 1) lv (zr Z b :: st)) : Zv Γ Z nL Qf (@ite _ (0 ≤ i ∧ i < n) inst o none) D pc lv (zi i :: zr Z a :: st) := by
  intro r hr H locs ls hw hs hl
  by_cases hc : 0 ≤ i ∧ i < n
  · rw [if_pos hc] at hr
    obtain ⟨g1, g2⟩ := vp_in_z hc.1 hc.2 ha.le
    have hlt : (zI i).toNatClampNeg < n.toNat := by rw [g2]; omega
    have e0 := wl_at (D := D) ha.2.1 ha.2.2
    rw [ha.1, em_row] at e0
    have e1 : a + 1 + ((i.toNat : Nat) : Int) = b := by omega
    have k2 := kk hc.1 hc.2 r hr H locs ls hw hs hl
    have h0 : H[Z.2.2.1 a]? = some (vp_cell (Z.2.1 1) (n.toNat, .inr (.inr (.inr (.inr (fun j => some (Z.2.2.1 (a + 1 + (j : Int))))))))) := hw (a.toNat - 1) _ e0
    refine W.aald (v := zr Z b) (ty := .array .int) X.1 X.2.1 h0 ((X.2.2.2.2.2.1.1.2 1 _ rfl).1 n.toNat (fun j => va_rf (some (Z.2.2.1 (a + 1 + (j : Int)))))) rfl (fun q => by cases q) ?_ ?_ rfl rfl hdg k2
    · show ¬ (_ ∨ (arrV _ _ _).slots.size ≤ _)
      rw [arrV_size]
      exact g1
    · show (arrV _ _ _).slots[_]? = _
      rw [arrV_read _ _ hlt, g2]
      show some (Value.ref (Z.2.2.1 _)) = some (Value.ref (Z.2.2.1 b))
      rw [e1]
  · rw [if_neg hc] at hr
    cases hr
theorem zv_fald (X : Cx Γ Z cc own nL ret R) {a i n : Int} (b : Int) (ha : Zin Z a 2 n) {inst : Decidable (0 ≤ i ∧ i < n)} (hdg : decode cc pc = .ok (.aaload, 1)) (hb : 106 + 19 * i = b) (kk : 0 ≤ i → i < n → Zv Γ Z nL Qf o D (pc + 1) lv (zr Z b :: st)) : Zv Γ Z nL Qf (@ite _ (0 ≤ i ∧ i < n) inst o none) D pc lv (zi i :: zr Z a :: st) := by
  intro r hr H locs ls hw hs hl
  by_cases hc : 0 ≤ i ∧ i < n
  · rw [if_pos hc] at hr
    obtain ⟨g1, g2⟩ := vp_in_z hc.1 hc.2 ha.le
    have hlt : (zI i).toNatClampNeg < n.toNat := by rw [g2]; omega
    have e0 := wl_at (D := D) ha.2.1 ha.2.2
    rw [ha.1, em_fnd] at e0
    have e1 : 106 + 19 * ((i.toNat : Nat) : Int) = b := by omega
    have k2 := kk hc.1 hc.2 r hr H locs ls hw hs hl
    have h0 : H[Z.2.2.1 a]? = some (vp_cell (Z.2.1 2) (n.toNat, .inr (.inr (.inr (.inr (fun j => some (Z.2.2.1 (106 + 19 * (j : Int))))))))) := hw (a.toNat - 1) _ e0
    refine W.aald (v := zr Z b) (ty := .object "QuernGrains$Finds") X.1 X.2.1 h0 ((X.2.2.2.2.2.1.1.2 2 _ rfl).1 n.toNat (fun j => va_rf (some (Z.2.2.1 (106 + 19 * (j : Int)))))) rfl (fun q => by cases q) ?_ ?_ rfl rfl hdg k2
    · show ¬ (_ ∨ (arrV _ _ _).slots.size ≤ _)
      rw [arrV_size]
      exact g1
    · show (arrV _ _ _).slots[_]? = _
      rw [arrV_read _ _ hlt, g2]
      show some (Value.ref (Z.2.2.1 _)) = some (Value.ref (Z.2.2.1 b))
      rw [e1]
  · rw [if_neg hc] at hr
    cases hr
theorem zv_get (X : Cx Γ Z cc own nL ret R) {ci N index : Nat} {C : String} {T : u_T} (hc : classes[ci]? = some (C, T, N)) (hin : ∀ w ∈ u_ws C T N, w ∈ zT) {a n : Int} (ha : Zin Z a (10 + ci) n) (k : Nat) (hk : k < N) (hlink : Cond.fieldLink own index C (T k).2.1 (T k).2.2.1 ∈ zT) (hcls : (T k).1 = C) {v : Value} (hv : (fl ci Z D a)[k]? = some v) (hdg : decode cc pc = .ok (.getfield index, 3)) (kk : Zv Γ Z nL Qf o D (pc + 3) lv (v :: st)) : Zv Γ Z nL Qf o D pc lv (zr Z a :: st) := by
  intro r hr H locs ls hw hs hl
  have e0 := wl_at (D := D) ha.2.1 ha.2.2
  rw [ha.1, em_obj] at e0
  exact va_get X.1 X.2.1 X.2.2.2.2.1 hin X.2.2.2.1 X.2.2.2.2.2.1.1 hw (a.toNat - 1) e0 hc k hk (X.2.2.2.2.1 _ hlink) (fun x h => by rw [hcls] at h; exact h) hv hdg (kk r hr H locs ls hw hs hl)
theorem zv_put (X : Cx Γ Z cc own nL ret R) {ci N index : Nat} {C : String} {T : u_T} (hc : classes[ci]? = some (C, T, N)) (hin : ∀ w ∈ u_ws C T N, w ∈ zT) (t0 : Nat → FieldType) (hty : ∀ k, k < N → parseFieldDescriptor (T k).2.2.1 = some (t0 k)) (hnm : ∀ a, a < N → ∀ b, b < N → a ≠ b → (T a).2.1 ≠ (T b).2.1) {a n x : Int} (ha : Zin Z a (10 + ci) n) (k : Nat) (hk : k < N) (hlink : Cond.fieldLink own index C (T k).2.1 (T k).2.2.1 ∈ zT) (hcls : (T k).1 = C) (hfin : (T k).2.2.2 = false) {v : Value} (hset : fl ci Z (stm D a k x) a = (fl ci Z D a).set k v) (hl0 : k < (fl ci Z D a).length) (hn : narrow (t0 k) v = v) (hfit : fits (t0 k) v = true) (hdg : decode cc pc = .ok (.putfield index, 3)) (kk : Zv Γ Z nL Qf o (stm D a k x) (pc + 3) lv st) : Zv Γ Z nL Qf o D pc lv (v :: zr Z a :: st) := by
  intro r hr H locs ls hw hs hl
  have e0 := wl_at (D := D) ha.2.1 ha.2.2
  rw [ha.1, em_obj] at e0
  refine va_put X.1 X.2.1 X.2.2.2.2.1 hin t0 hty hnm X.2.2.2.1 X.2.2.2.2.2.1.1 hw (wl_D X.2.2.2.2.2.2.2.1 D) hs (a.toNat - 1) e0 hc k hk (X.2.2.2.2.1 _ hlink) (fun x h => by rw [hcls] at h; exact h) hfin (hty k hk) hn hfit hl0 hdg (fun H1 locs1 h1 h2 h3 => ?_)
  refine kk r hr H1 locs1 ls ?_ h3 hl
  rw [wl_set (D' := stm D a k x) ha.2.1 ha.2.2 ?_ (fun b hb => em_oth hb _)] at h1
  · exact h1
  · rw [ha.1, em_obj, hset]
end ZM

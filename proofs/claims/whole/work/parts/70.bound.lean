theorem mulb {v a : Int} (v0 : 0 ≤ v) (v1 : v ≤ 37) (a0 : 1 ≤ a) (a1 : a ≤ 9) : 0 ≤ v * a ∧ v * a ≤ 333 := by
  have h1 : 0 ≤ v * a := Int.mul_nonneg v0 (by omega)
  have h2 : v * a ≤ 37 * a := Int.mul_le_mul_of_nonneg_right v1 (by omega)
  omega
theorem e_bs3 {D : Mm} {m a c d : Int} (a0 : 1 ≤ a) (a1 : a ≤ 9) (c0 : 0 ≤ c) (c1 : c ≤ 99) (d0 : 0 ≤ d) (d1 : d ≤ 99) : ∀ (k n : Nat) (v : Int), (37 - v).toNat = k → 0 ≤ v → v ≤ 37 → k < n → (∀ x, 0 ≤ x → x < v → ¬ c - d ≤ x * a) → ∃ l, f_Books_boundSum_3 m a c d D n v = f_Books_boundSum_27 m a c d l D ∧ 0 ≤ l ∧ l ≤ 37 ∧ ∀ x, 0 ≤ x → x ≤ 36 → (c - d ≤ x * a ↔ l ≤ x) := by
  intro k
  induction k with
  | zero =>
    intro n v hk v0 v1 hn hv
    obtain ⟨n, rfl⟩ : ∃ x, n = x + 1 := ⟨n - 1, by omega⟩
    have : v = 37 := by omega
    subst this
    refine ⟨37, ?_, by decide, by decide, fun x x0 x1 => ⟨fun y => absurd y (hv x x0 (by omega)), fun y => by omega⟩⟩
    rw [f_Books_boundSum_3, if_pos (by decide +kernel)]
  | succ k ih =>
    intro n v hk v0 v1 hn hv
    obtain ⟨n, rfl⟩ : ∃ x, n = x + 1 := ⟨n - 1, by omega⟩
    obtain ⟨m0, m1⟩ := mulb v0 v1 a0 a1
    rw [f_Books_boundSum_3, if_neg (fun q => by have := (zI_lt (by omega) (by omega) (by omega) (by omega)).mp q; omega)]
    by_cases z : c - d ≤ v * a
    · rw [if_pos ((zI_le (by omega) (by omega) (by omega) (by omega)).mpr z)]
      refine ⟨v, rfl, v0, v1, fun x x0 x1 => ⟨fun y => ?_, fun y => ?_⟩⟩
      · by_cases w : x < v
        · exact absurd y (hv x x0 w)
        · omega
      · have : v * a ≤ x * a := Int.mul_le_mul_of_nonneg_right y (by omega)
        omega
    · rw [if_neg (fun q => z ((zI_le (by omega) (by omega) (by omega) (by omega)).mp q))]
      refine ih n (v + 1) (by omega) (by omega) (by omega) (by omega) (fun x x0 x1 => ?_)
      by_cases w : x = v
      · rw [w]; exact z
      · exact hv x x0 (by omega)
theorem e_bs31 {D : Mm} {m a c d l : Int} (a0 : 1 ≤ a) (a1 : a ≤ 9) (c0 : 0 ≤ c) (c1 : c ≤ 99) (d0 : 0 ≤ d) (d1 : d ≤ 99) : ∀ (k n : Nat) (v : Int), v.toNat = k → 0 ≤ v → v ≤ 36 → k < n → (∀ x, v < x → x ≤ 36 → ¬ x * a ≤ c + d) → ∃ g, f_Books_boundSum_31 m a c d l D n v = f_Books_boundSum_53 m l g D ∧ 0 ≤ g ∧ g ≤ 36 ∧ ∀ x, 0 ≤ x → x ≤ 36 → (x * a ≤ c + d ↔ x ≤ g) := by
  intro k
  induction k with
  | zero =>
    intro n v hk v0 v1 hn hv
    obtain ⟨n, rfl⟩ : ∃ x, n = x + 1 := ⟨n - 1, by omega⟩
    have : v = 0 := by omega
    subst this
    refine ⟨0, ?_, by decide, by decide, fun x x0 x1 => ⟨fun y => ?_, fun y => ?_⟩⟩
    · rw [f_Books_boundSum_31, if_neg (by decide +kernel), if_pos ((zI_le (by omega) (by omega) (by omega) (by omega)).mpr (by omega))]
    · by_cases w : 0 < x
      · exact absurd y (hv x w x1)
      · omega
    · have : x = 0 := by omega
      subst this
      omega
  | succ k ih =>
    intro n v hk v0 v1 hn hv
    obtain ⟨n, rfl⟩ : ∃ x, n = x + 1 := ⟨n - 1, by omega⟩
    obtain ⟨m0, m1⟩ := mulb v0 (by omega) a0 a1
    rw [f_Books_boundSum_31, if_neg (fun q => by have := (zI_lt0 (by omega) (by omega)).mp q; omega)]
    by_cases z : v * a ≤ c + d
    · rw [if_pos ((zI_le (by omega) (by omega) (by omega) (by omega)).mpr z)]
      refine ⟨v, rfl, v0, v1, fun x x0 x1 => ⟨fun y => ?_, fun y => ?_⟩⟩
      · by_cases w : v < x
        · exact absurd y (hv x w x1)
        · omega
      · have : x * a ≤ v * a := Int.mul_le_mul_of_nonneg_right y (by omega)
        omega
    · rw [if_neg (fun q => z ((zI_le (by omega) (by omega) (by omega) (by omega)).mp q))]
      refine ih n (v + (-1)) (by omega) (by omega) (by omega) (by omega) (fun x x0 x1 => ?_)
      by_cases w : x = v
      · rw [w]; exact z
      · exact hv x (by omega) x1
def zmax (a b : Int) : Int := if a < b then b else a
def zmin (a b : Int) : Int := if b < a then b else a
theorem e_max {D : Mm} {a b : Int} (ha : Rg a) (hb : Rg b) : f_Math_max a b D = some (zmax a b) := by
  unfold f_Math_max zmax
  by_cases z : a < b
  · rw [if_pos ((zI_lt ha.1 ha.2 hb.1 hb.2).mpr z), if_pos z]
  · rw [if_neg (fun q => z ((zI_lt ha.1 ha.2 hb.1 hb.2).mp q)), if_neg z]
theorem e_min {D : Mm} {a b : Int} (ha : Rg a) (hb : Rg b) : f_Math_min a b D = some (zmin a b) := by
  unfold f_Math_min zmin
  by_cases z : b < a
  · rw [if_pos ((zI_lt hb.1 hb.2 ha.1 ha.2).mpr z), if_pos z]
  · rw [if_neg (fun q => z ((zI_lt hb.1 hb.2 ha.1 ha.2).mp q)), if_neg z]
theorem zmax_le {a b x : Int} : zmax a b ≤ x ↔ a ≤ x ∧ b ≤ x := by
  unfold zmax
  split <;> omega
theorem le_zmin {a b x : Int} : x ≤ zmin a b ↔ x ≤ a ∧ x ≤ b := by
  unfold zmin
  split <;> omega
def bc4 (m : Int) : Int := zsum (fun f => bitz m f) 10
theorem bc4_b {m : Int} (m0 : 0 ≤ m) (m1 : m < 16) : 0 ≤ bc4 m ∧ bc4 m ≤ 4 := by
  have h : (List.range 16).all (fun m => decide (0 ≤ bc4 (m : Int) ∧ bc4 (m : Int) ≤ 4)) = true := by decide +kernel
  have a := of_decide_eq_true (List.all_eq_true.mp h m.toNat (List.mem_range.mpr (by omega)))
  rw [show ((m.toNat : Nat) : Int) = m by omega] at a
  exact a
theorem e_boundSum {D : Mm} {m a c d : Int} (m0 : 0 ≤ m) (m1 : m < 16) (a0 : 1 ≤ a) (a1 : a ≤ 9) (c0 : 0 ≤ c) (c1 : c ≤ 99) (d0 : 0 ≤ d) (d1 : d ≤ 99) (l0 : 0 ≤ D 7 m) (l1 : D 7 m ≤ 37) (g0 : -1 ≤ D 8 m) (g1 : D 8 m ≤ 36) : ∃ E l g, f_Books_boundSum m a c d D = some (0, E) ∧ (0 ≤ l ∧ l ≤ 37 ∧ ∀ x, 0 ≤ x → x ≤ 36 → (c - d ≤ x * a ↔ l ≤ x)) ∧ (0 ≤ g ∧ g ≤ 36 ∧ ∀ x, 0 ≤ x → x ≤ 36 → (x * a ≤ c + d ↔ x ≤ g)) ∧ E 7 m = zmax (D 7 m) l ∧ E 8 m = zmin (D 8 m) g ∧ ((E 6 3 = D 6 3 ∧ l = 0 ∧ 9 * bc4 m ≤ g) ∨ E 6 3 = jor (D 6 3) m) ∧ ∀ x i, ¬ (x = 7 ∧ i = m) → ¬ (x = 8 ∧ i = m) → ¬ (x = 6 ∧ i = 3) → E x i = D x i := by
  obtain ⟨l, e1, l2, l3, l4⟩ := e_bs3 (D := D) (m := m) a0 a1 c0 c1 d0 d1 37 zF 0 rfl (by decide) (by decide) (zF_pos (by decide)) (fun x x0 x1 => by omega)
  obtain ⟨g, e2, g2, g3, g4⟩ := e_bs31 (D := D) (m := m) (l := l) a0 a1 c0 c1 d0 d1 36 zF 36 rfl (by decide) (by decide) (zF_pos (by decide)) (fun x x0 x1 => by omega)
  have gm : 0 ≤ m ∧ m < 16 := ⟨m0, m1⟩
  have hb := bc4_b m0 m1
  have r1 : f_Math_max (D 7 m) l D = some (zmax (D 7 m) l) := e_max ⟨by omega, by omega⟩ ⟨by omega, by omega⟩
  generalize hF : stm D 7 m (zmax (D 7 m) l) = F
  have F8 : F 8 m = D 8 m := by rw [← hF, stm_ne (by omega)]
  have r2 : f_Math_min (F 8 m) g F = some (zmin (D 8 m) g) := by rw [F8]; exact e_min ⟨by omega, by omega⟩ ⟨by omega, by omega⟩
  generalize hG : stm F 8 m (zmin (D 8 m) g) = G
  have G7 : G 7 m = zmax (D 7 m) l := by rw [← hG, stm_ne (by omega), ← hF, stm_eq ⟨rfl, rfl⟩]
  have G8 : G 8 m = zmin (D 8 m) g := by rw [← hG, stm_eq ⟨rfl, rfl⟩]
  have Go : ∀ x i, ¬ (x = 7 ∧ i = m) → ¬ (x = 8 ∧ i = m) → G x i = D x i := fun x i h1 h2 => by rw [← hG, stm_ne (by omega), ← hF, stm_ne (by omega)]
  have key : f_Books_boundSum m a c d D = if 0 < zI l then f_Books_boundSum_104 m G else (f_Integer_bitCount m G).bind fun r5 => if zI (9 * r5) ≤ zI g then some (0, G) else f_Books_boundSum_104 m G := by
    unfold f_Books_boundSum
    rw [e1]
    unfold f_Books_boundSum_27
    rw [e2]
    unfold f_Books_boundSum_53
    rw [if_pos gm, r1]
    simp only [Option.bind_some]
    rw [if_pos gm]
    simp only [zst]
    rw [hF, if_pos gm, r2]
    simp only [Option.bind_some]
    rw [if_pos gm, hG]
  have o104 : ∃ E, f_Books_boundSum_104 m G = some (0, E) ∧ E 7 m = zmax (D 7 m) l ∧ E 8 m = zmin (D 8 m) g ∧ E 6 3 = jor (D 6 3) m ∧ ∀ x i, ¬ (x = 7 ∧ i = m) → ¬ (x = 8 ∧ i = m) → ¬ (x = 6 ∧ i = 3) → E x i = D x i := by
    refine ⟨stm G 6 3 (jor (G 6 3) m), rfl, by rw [stm_ne (by omega), G7], by rw [stm_ne (by omega), G8], by rw [stm_eq ⟨rfl, rfl⟩, Go _ _ (by omega) (by omega)], fun x i h1 h2 h3 => by rw [stm_ne (by omega)]; exact Go x i h1 h2⟩
  obtain ⟨E, x1, x2, x3, x4, x5⟩ := o104
  rw [key, e_bitc m0 (by omega)]
  simp only [Option.bind_some]
  by_cases z : 0 < l
  · rw [if_pos (show (0 : Int32) < zI l from (zI_lt (a := 0) (by omega) (by omega) (by omega) (by omega)).mpr z), x1]
    exact ⟨E, l, g, rfl, ⟨l2, l3, l4⟩, ⟨g2, g3, g4⟩, x2, x3, Or.inr x4, x5⟩
  · rw [if_neg (show ¬ (0 : Int32) < zI l from fun q => z ((zI_lt (a := 0) (by omega) (by omega) (by omega) (by omega)).mp q))]
    have hb : 0 ≤ zsum (fun f => bitz m f) 10 ∧ zsum (fun f => bitz m f) 10 ≤ 4 := hb
    by_cases y : 9 * zsum (fun f => bitz m f) 10 ≤ g
    · rw [if_pos ((zI_le (by omega) (by omega) (by omega) (by omega)).mpr y)]
      exact ⟨G, l, g, rfl, ⟨l2, l3, l4⟩, ⟨g2, g3, g4⟩, G7, G8, Or.inl ⟨Go _ _ (by omega) (by omega), by omega, y⟩, fun x i h1 h2 _ => Go x i h1 h2⟩
    · rw [if_neg (fun q => y ((zI_le (by omega) (by omega) (by omega) (by omega)).mp q)), x1]
      exact ⟨E, l, g, rfl, ⟨l2, l3, l4⟩, ⟨g2, g3, g4⟩, x2, x3, Or.inr x4, x5⟩

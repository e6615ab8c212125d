/-! the invariant between the class's cells and the model's -/
def TX (D : Mm) : Prop := 0 ≤ D 2 1 ∧ D 2 1 ≤ 500 ∧ D 144 0 = D 2 1 ∧ ∀ k, 0 ≤ k → k < D 2 1 → D 145 k = D 3 k ∧ 0 ≤ D 3 k ∧ D 3 k ≤ 255
def QL (D : Mm) (q : Int) : Prop :=
  (1 ≤ D q 0 ∧ D q 0 ≤ 6 ∧ D 146 0 = D q 0) ∧ (1 ≤ D q 1 ∧ D q 1 ≤ 10 ∧ D 148 0 = D q 1) ∧
  (∀ s w, 0 ≤ s → s < D q 0 → 0 ≤ w → w < 4 → D 147 (4 * s + w) = D (q + 2 + s) w ∧ 0 ≤ D (q + 2 + s) w ∧ D (q + 2 + s) w ≤ 100) ∧
  (∀ f, 0 ≤ f → f < D q 1 → (D 149 f = D (q + 8) f ∧ 0 ≤ D (q + 8) f ∧ D (q + 8) f ≤ 7) ∧ (D 150 f = D (q + 9) f ∧ 0 ≤ D (q + 9) f ∧ D (q + 9) f ≤ 3) ∧ (D 151 f = D (q + 10) f ∧ 1 ≤ D (q + 10) f ∧ D (q + 10) f ≤ 9) ∧ (D 152 f = D (q + 11) f ∧ 0 ≤ D (q + 11) f ∧ D (q + 11) f ≤ 15)) ∧
  (∀ f s, 0 ≤ f → f < 10 → 0 ≤ s → s < 6 → D 153 (6 * f + s) = D (q + 13 + f) s ∧ 0 ≤ D (q + 13 + f) s ∧ D (q + 13 + f) s ≤ 60) ∧
  (∀ t s, 0 ≤ t → t < 4 → 0 ≤ s → s < 6 → D 154 (6 * t + s) = D (q + 24 + t) s ∧ 0 ≤ D (q + 24 + t) s ∧ D (q + 24 + t) s ≤ 9) ∧
  (∀ t, 0 ≤ t → t < 4 → (D 155 t = D (q + 28) t ∧ 0 ≤ D (q + 28) t ∧ D (q + 28) t ≤ 99) ∧ (D 156 t = D (q + 29) t ∧ 0 ≤ D (q + 29) t ∧ D (q + 29) t ≤ 99) ∧ D 157 t = bitz (D q 11) t) ∧
  (0 ≤ D q 11 ∧ D q 11 ≤ 15) ∧
  (∀ s t, 0 ≤ s → s < 6 → 0 ≤ t → t < 6 → D 158 (6 * s + t) = D (q + 31 + s) t ∧ 0 ≤ D (q + 31 + s) t ∧ D (q + 31 + s) t ≤ 99) ∧
  (∀ s, 0 ≤ s → s < 6 → D (q + 31 + s) s = 0)
def FL (D : Mm) (p : Int) : Prop :=
  (∀ f s, 0 ≤ f → f < 10 → 0 ≤ s → s < 6 → D 159 (6 * f + s) = D (12 + 2 + f) s ∧ 0 ≤ D (12 + 2 + f) s ∧ D (12 + 2 + f) s ≤ 99) ∧
  (0 ≤ D 12 2 ∧ D 12 2 ≤ 1023) ∧ (∀ f, 0 ≤ f → f < 10 → D 160 f = bitz (D 12 2) f ∧ (p ≤ f → bitz (D 12 2) f = 0)) ∧
  (∀ s t, 0 ≤ s → s < 6 → 0 ≤ t → t < 6 → D 161 (6 * s + t) = D (12 + 13 + s) t ∧ 0 ≤ D (12 + 13 + s) t ∧ D (12 + 13 + s) t ≤ D 12 3) ∧
  (zsum (fun k => D 161 k) 36 = D 12 3 ∧ 0 ≤ D 12 3 ∧ D 12 3 ≤ 200) ∧ (D 162 0 = D 12 4 ∧ 0 ≤ D 12 4 ∧ D 12 4 ≤ 63)
def FK (D : Mm) (a o p : Int) : Prop :=
  (∀ f s, 0 ≤ f → f < 10 → 0 ≤ s → s < 6 → D 159 (60 * o + (6 * f + s)) = D (a + 2 + f) s ∧ 0 ≤ D (a + 2 + f) s ∧ D (a + 2 + f) s ≤ 99) ∧
  (0 ≤ D a 2 ∧ D a 2 ≤ 1023) ∧ (∀ f, 0 ≤ f → f < 10 → D 160 (10 * o + f) = bitz (D a 2) f ∧ (p ≤ f → bitz (D a 2) f = 0)) ∧
  (∀ s t, 0 ≤ s → s < 6 → 0 ≤ t → t < 6 → D 161 (36 * o + (6 * s + t)) = D (a + 13 + s) t ∧ 0 ≤ D (a + 13 + s) t ∧ D (a + 13 + s) t ≤ D a 3) ∧
  (zsum (fun k => D 161 (36 * o + k)) 36 = D a 3 ∧ 0 ≤ D a 3 ∧ D a 3 ≤ 200) ∧ (D 162 o = D a 4 ∧ 0 ≤ D a 4 ∧ D a 4 ≤ 63)
def Iv (D : Mm) : Prop :=
  TX D ∧ ((D 1 7 = 32 ∧ D 1 8 = 69) ∨ (D 1 7 = 69 ∧ D 1 8 = 32)) ∧ QL D (D 1 7) ∧ FL D (D (D 1 7) 1) ∧
  ((0 ≤ D 1 6 ∧ D 9 0 = 0) ∧ D 1 6 ≤ 2 ∧ D 144 19 = D 1 6) ∧ ∀ i, 0 ≤ i → i < D 1 6 → FK D (106 + 19 * i) (i + 1) (D (D 1 7) 1)
def Rg (x : Int) : Prop := -2147483648 ≤ x ∧ x < 2147483648
theorem Iv.q {D : Mm} (h : Iv D) : D 1 7 = 32 ∨ D 1 7 = 69 := by rcases h.2.1 with h | h <;> simp [h.1]
-- small helpers
theorem e_within {v l g : Int} (hv : Rg v) (hl : Rg l) (hg : Rg g) (D : Mm) : f_Main_within v l g D = some (if l ≤ v ∧ v ≤ g then 1 else 0) := by
  unfold Rg at *
  unfold f_Main_within
  by_cases h1 : v < l
  · rw [if_pos ((zI_lt (by omega) (by omega) (by omega) (by omega)).mpr h1), if_neg (by omega)]
  · rw [if_neg (fun h => h1 ((zI_lt (by omega) (by omega) (by omega) (by omega)).mp h))]
    by_cases h2 : g < v
    · rw [if_pos ((zI_lt (by omega) (by omega) (by omega) (by omega)).mpr h2), if_neg (by omega)]
    · rw [if_neg (fun h => h2 ((zI_lt (by omega) (by omega) (by omega) (by omega)).mp h)), if_pos (by omega)]
theorem e_in {v l g : Int} (hv : Rg v) (hl : Rg l) (hg : Rg g) (D : Mm) : f_Model_in v l g D = some (if l ≤ v ∧ v ≤ g then 1 else 0) := by
  unfold Rg at *
  unfold f_Model_in
  by_cases h1 : v < l
  · rw [if_pos ((zL_lt (by omega) (by omega) (by omega) (by omega)).mpr h1), if_neg (by omega)]
  · rw [if_neg (fun h => h1 ((zL_lt (by omega) (by omega) (by omega) (by omega)).mp h))]
    by_cases h2 : g < v
    · rw [if_pos ((zL_lt (by omega) (by omega) (by omega) (by omega)).mpr h2), if_neg (by omega)]
    · rw [if_neg (fun h => h2 ((zL_lt (by omega) (by omega) (by omega) (by omega)).mp h)), if_pos (by omega)]
theorem e_hasPatch {D : Mm} {q v : Int} (hv : Rg v) (hp : 0 ≤ D q 1 ∧ D q 1 ≤ 10) : f_Quern_hasPatch q v D = some (if 0 ≤ v ∧ v < D q 1 then 1 else 0) := by
  unfold Rg at *
  unfold f_Quern_hasPatch
  by_cases h1 : v < 0
  · rw [if_pos ((zI_lt0 (by omega) (by omega)).mpr h1), if_neg (by omega)]
  · rw [if_neg (fun h => h1 ((zI_lt0 (by omega) (by omega)).mp h))]
    by_cases h2 : D q 1 ≤ v
    · rw [if_pos ((zI_le (by omega) (by omega) (by omega) (by omega)).mpr h2), if_neg (by omega)]
    · rw [if_neg (fun h => h2 ((zI_le (by omega) (by omega) (by omega) (by omega)).mp h)), if_pos (by omega)]
theorem e_hasSort {D : Mm} {q v : Int} (hv : Rg v) (hp : 0 ≤ D q 0 ∧ D q 0 ≤ 6) : f_Quern_hasSort q v D = some (if 0 ≤ v ∧ v < D q 0 then 1 else 0) := by
  unfold Rg at *
  unfold f_Quern_hasSort
  by_cases h1 : v < 0
  · rw [if_pos ((zI_lt0 (by omega) (by omega)).mpr h1), if_neg (by omega)]
  · rw [if_neg (fun h => h1 ((zI_lt0 (by omega) (by omega)).mp h))]
    by_cases h2 : D q 0 ≤ v
    · rw [if_pos ((zI_le (by omega) (by omega) (by omega) (by omega)).mpr h2), if_neg (by omega)]
    · rw [if_neg (fun h => h2 ((zI_le (by omega) (by omega) (by omega) (by omega)).mp h)), if_pos (by omega)]

theorem Iv.setT {D E : Mm} (h : Iv D) (hr : ∀ a i, Rel (D 1 7) a i → ¬ (a = 2 ∨ a = 3 ∨ a = 145 ∨ (a = 144 ∧ i = 0)) → E a i = D a i) (ht : TX E) : Iv E := by
  have hq := h.q
  obtain ⟨h1, h2, h3, h4, h5, h6⟩ := h
  have e17 : E 1 7 = D 1 7 := hr 1 7 (by unfold Rel; omega) (by omega)
  have e18 : E 1 8 = D 1 8 := hr 1 8 (by unfold Rel; omega) (by omega)
  have e16 : E 1 6 = D 1 6 := hr 1 6 (by unfold Rel; omega) (by omega)
  have eq1 : E (D 1 7) 1 = D (D 1 7) 1 := hr _ _ (by unfold Rel; omega) (by omega)
  refine ⟨ht, ?_, ?_, ?_, ?_, ?_⟩
  · rw [e17, e18]; exact h2
  · rw [e17]; exact h3.cong (fun a i x y => hr a i (by unfold Rel; omega) (by omega)) (fun a i x => hr a i (by unfold Rel; simp [x]) (by unfold Bk0 at x; omega))
  · rw [e17, eq1]; exact h4.cong (fun a i x y => hr a i (by unfold Rel; omega) (by omega)) (fun i _ _ => hr _ _ (by unfold Rel; omega) (by omega)) (fun i _ _ => hr _ _ (by unfold Rel; omega) (by omega)) (fun i _ _ => hr _ _ (by unfold Rel; omega) (by omega)) (hr _ _ (by unfold Rel; omega) (by omega))
  · rw [e16, hr 144 19 (by unfold Rel; omega) (by omega), hr 9 0 (by unfold Rel; omega) (by omega)]; exact h5
  · rw [e16, e17, eq1]
    intro i i0 i1
    exact (h6 i i0 i1).cong (fun a i x y => hr a i (by unfold Rel; omega) (by omega)) (fun i _ _ => hr _ _ (by unfold Rel; omega) (by omega)) (fun i _ _ => hr _ _ (by unfold Rel; omega) (by omega)) (fun i _ _ => hr _ _ (by unfold Rel; omega) (by omega)) (hr _ _ (by unfold Rel; omega) (by omega))
theorem q_wipe {D : Mm} (h : Iv D) : EqMM (f_Main_wipe D) f_Model_wipe := by
  refine ⟨D 2 1, stm D 2 1 0, stm (stm D 2 1 0) 144 0 0, rfl, ?_, ?_⟩
  · unfold f_Model_wipe
    show some (stm D 2 1 0 144 0, _) = _
    rw [stm_ne (by omega), h.1.2.2.1]
  · refine h.setT (fun a i _ hn => by rw [stm_ne (by omega), stm_ne (by omega)]) ?_
    have e : stm (stm D 2 1 0) 144 0 0 2 1 = 0 := by rw [stm_ne (by omega), stm_eq (by omega)]
    refine ⟨by omega, by omega, by rw [e, stm_eq (by omega)], fun k k0 k1 => by omega⟩
-- the model's copy
theorem e_copy74 {a b : Int} (ha : 0 ≤ a ∧ a < 3) (hb : 0 ≤ b ∧ b < 3) (hab : a ≠ b) (D : Mm) : ∃ E, f_Model_copy_74 a b zF 0 D = some (0, E) ∧ (∀ k, 0 ≤ k → k < 36 → E 161 (36 * b + k) = D 161 (36 * a + k)) ∧ E 162 b = D 162 a ∧ ∀ c j, ¬ (c = 161 ∧ 36 * b ≤ j ∧ j < 36 * b + 36) → ¬ (c = 162 ∧ j = b) → E c j = D c j := by
  refine zup (fun n i E => f_Model_copy_74 a b n i E) 36 (fun i E => 0 ≤ i ∧ (∀ k, 0 ≤ k → k < i → E 161 (36 * b + k) = D 161 (36 * a + k)) ∧ ∀ c j, ¬ (c = 161 ∧ 36 * b ≤ j ∧ j < 36 * b + i) → E c j = D c j) (fun o => ∃ E, o = some (0, E) ∧ (∀ k, 0 ≤ k → k < 36 → E 161 (36 * b + k) = D 161 (36 * a + k)) ∧ E 162 b = D 162 a ∧ ∀ c j, ¬ (c = 161 ∧ 36 * b ≤ j ∧ j < 36 * b + 36) → ¬ (c = 162 ∧ j = b) → E c j = D c j) ?_ ?_ 36 zF 0 D rfl (by decide) (zF_pos (by decide)) ⟨by decide, fun k h0 h1 => by omega, fun c j _ => rfl⟩
  · intro n E ⟨_, h1, h2⟩
    refine ⟨stm E 162 b (E 162 a), ?_, fun k k0 k1 => ?_, ?_, fun c j x y => ?_⟩
    · show f_Model_copy_74 a b (n + 1) 36 E = _
      rw [f_Model_copy_74, if_pos (by decide +kernel), if_pos ha, if_pos hb]
      rfl
    · rw [stm_ne (by omega)]; exact h1 k k0 k1
    · rw [stm_eq ⟨rfl, rfl⟩, h2 _ _ (by omega)]
    · rw [stm_ne (by omega)]; exact h2 c j (by omega)
  · intro n i E hi ⟨h0, h1, h2⟩
    refine ⟨stm E 161 (36 * b + i) (E 161 (36 * a + i)), ⟨by omega, fun k k0 k1 => ?_, fun c j x => ?_⟩, ?_⟩
    · by_cases hk : k = i
      · subst hk
        rw [stm_eq ⟨rfl, rfl⟩, h2 _ _ (by omega)]
      · rw [stm_ne (by omega)]; exact h1 k k0 (by omega)
    · rw [stm_ne (by omega)]; exact h2 c j (by omega)
    · show f_Model_copy_74 a b (n + 1) i E = _
      rw [f_Model_copy_74, if_neg (fun q => by have := (zI_le (by omega) (by omega) (by omega) (by omega)).mp q; omega), if_pos (by omega), if_pos (by omega)]
      rfl
theorem e_copy38 {a b : Int} (ha : 0 ≤ a ∧ a < 3) (hb : 0 ≤ b ∧ b < 3) (hab : a ≠ b) (D : Mm) : ∃ E, f_Model_copy_38 a b zF 0 D = some (0, E) ∧ (∀ k, 0 ≤ k → k < 10 → E 160 (10 * b + k) = D 160 (10 * a + k)) ∧ (∀ k, 0 ≤ k → k < 36 → E 161 (36 * b + k) = D 161 (36 * a + k)) ∧ E 162 b = D 162 a ∧ ∀ c j, ¬ (c = 160 ∧ 10 * b ≤ j ∧ j < 10 * b + 10) → ¬ (c = 161 ∧ 36 * b ≤ j ∧ j < 36 * b + 36) → ¬ (c = 162 ∧ j = b) → E c j = D c j := by
  refine zup (fun n i E => f_Model_copy_38 a b n i E) 10 (fun i E => 0 ≤ i ∧ (∀ k, 0 ≤ k → k < i → E 160 (10 * b + k) = D 160 (10 * a + k)) ∧ ∀ c j, ¬ (c = 160 ∧ 10 * b ≤ j ∧ j < 10 * b + i) → E c j = D c j) (fun o => ∃ E, o = some (0, E) ∧ (∀ k, 0 ≤ k → k < 10 → E 160 (10 * b + k) = D 160 (10 * a + k)) ∧ (∀ k, 0 ≤ k → k < 36 → E 161 (36 * b + k) = D 161 (36 * a + k)) ∧ E 162 b = D 162 a ∧ ∀ c j, ¬ (c = 160 ∧ 10 * b ≤ j ∧ j < 10 * b + 10) → ¬ (c = 161 ∧ 36 * b ≤ j ∧ j < 36 * b + 36) → ¬ (c = 162 ∧ j = b) → E c j = D c j) ?_ ?_ 10 zF 0 D rfl (by decide) (zF_pos (by decide)) ⟨by decide, fun k h0 h1 => by omega, fun c j _ => rfl⟩
  · intro n E ⟨_, h1, h2⟩
    obtain ⟨G, g1, g2, g3, g4⟩ := e_copy74 ha hb hab E
    refine ⟨G, ?_, fun k k0 k1 => ?_, fun k k0 k1 => ?_, ?_, fun c j x y z => ?_⟩
    · show f_Model_copy_38 a b (n + 1) 10 E = _
      rw [f_Model_copy_38, if_pos (by decide +kernel)]
      exact g1
    · rw [g4 _ _ (by omega) (by omega)]; exact h1 k k0 k1
    · rw [g2 k k0 k1, h2 _ _ (by omega)]
    · rw [g3, h2 _ _ (by omega)]
    · rw [g4 c j y z]; exact h2 c j (by omega)
  · intro n i E hi ⟨h0, h1, h2⟩
    refine ⟨stm E 160 (10 * b + i) (E 160 (10 * a + i)), ⟨by omega, fun k k0 k1 => ?_, fun c j x => ?_⟩, ?_⟩
    · by_cases hk : k = i
      · subst hk
        rw [stm_eq ⟨rfl, rfl⟩, h2 _ _ (by omega)]
      · rw [stm_ne (by omega)]; exact h1 k k0 (by omega)
    · rw [stm_ne (by omega)]; exact h2 c j (by omega)
    · show f_Model_copy_38 a b (n + 1) i E = _
      rw [f_Model_copy_38, if_neg (fun q => by have := (zI_le (by omega) (by omega) (by omega) (by omega)).mp q; omega), if_pos (by omega), if_pos (by omega)]
      rfl
theorem e_copy {a b : Int} (ha : 0 ≤ a ∧ a < 3) (hb : 0 ≤ b ∧ b < 3) (hab : a ≠ b) (D : Mm) : ∃ E, f_Model_copy a b D = some (0, E) ∧ (∀ k, 0 ≤ k → k < 60 → E 159 (60 * b + k) = D 159 (60 * a + k)) ∧ (∀ k, 0 ≤ k → k < 10 → E 160 (10 * b + k) = D 160 (10 * a + k)) ∧ (∀ k, 0 ≤ k → k < 36 → E 161 (36 * b + k) = D 161 (36 * a + k)) ∧ E 162 b = D 162 a ∧ ∀ c j, ¬ (c = 159 ∧ 60 * b ≤ j ∧ j < 60 * b + 60) → ¬ (c = 160 ∧ 10 * b ≤ j ∧ j < 10 * b + 10) → ¬ (c = 161 ∧ 36 * b ≤ j ∧ j < 36 * b + 36) → ¬ (c = 162 ∧ j = b) → E c j = D c j := by
  unfold f_Model_copy
  refine zup (fun n i E => f_Model_copy_2 a b n i E) 60 (fun i E => 0 ≤ i ∧ (∀ k, 0 ≤ k → k < i → E 159 (60 * b + k) = D 159 (60 * a + k)) ∧ ∀ c j, ¬ (c = 159 ∧ 60 * b ≤ j ∧ j < 60 * b + i) → E c j = D c j) (fun o => ∃ E, o = some (0, E) ∧ (∀ k, 0 ≤ k → k < 60 → E 159 (60 * b + k) = D 159 (60 * a + k)) ∧ (∀ k, 0 ≤ k → k < 10 → E 160 (10 * b + k) = D 160 (10 * a + k)) ∧ (∀ k, 0 ≤ k → k < 36 → E 161 (36 * b + k) = D 161 (36 * a + k)) ∧ E 162 b = D 162 a ∧ ∀ c j, ¬ (c = 159 ∧ 60 * b ≤ j ∧ j < 60 * b + 60) → ¬ (c = 160 ∧ 10 * b ≤ j ∧ j < 10 * b + 10) → ¬ (c = 161 ∧ 36 * b ≤ j ∧ j < 36 * b + 36) → ¬ (c = 162 ∧ j = b) → E c j = D c j) ?_ ?_ 60 zF 0 D rfl (by decide) (zF_pos (by decide)) ⟨by decide, fun k h0 h1 => by omega, fun c j _ => rfl⟩
  · intro n E ⟨_, h1, h2⟩
    obtain ⟨G, g1, g2, g3, g4, g5⟩ := e_copy38 ha hb hab E
    refine ⟨G, ?_, fun k k0 k1 => ?_, fun k k0 k1 => ?_, fun k k0 k1 => ?_, ?_, fun c j x y z w => ?_⟩
    · show f_Model_copy_2 a b (n + 1) 60 E = _
      rw [f_Model_copy_2, if_pos (by decide +kernel)]
      exact g1
    · rw [g5 _ _ (by omega) (by omega) (by omega)]; exact h1 k k0 k1
    · rw [g2 k k0 k1, h2 _ _ (by omega)]
    · rw [g3 k k0 k1, h2 _ _ (by omega)]
    · rw [g4, h2 _ _ (by omega)]
    · rw [g5 c j y z w]; exact h2 c j (by omega)
  · intro n i E hi ⟨h0, h1, h2⟩
    refine ⟨stm E 159 (60 * b + i) (E 159 (60 * a + i)), ⟨by omega, fun k k0 k1 => ?_, fun c j x => ?_⟩, ?_⟩
    · by_cases hk : k = i
      · subst hk
        rw [stm_eq ⟨rfl, rfl⟩, h2 _ _ (by omega)]
      · rw [stm_ne (by omega)]; exact h1 k k0 (by omega)
    · rw [stm_ne (by omega)]; exact h2 c j (by omega)
    · show f_Model_copy_2 a b (n + 1) i E = _
      rw [f_Model_copy_2, if_neg (fun q => by have := (zI_le (by omega) (by omega) (by omega) (by omega)).mp q; omega), if_pos (by omega), if_pos (by omega)]
      rfl
theorem cpm_ne {D : Mm} {s sp d dp n b j : Int} (h : ¬ (b = d ∧ dp ≤ j ∧ j < dp + n)) : cpm D s sp d dp n b j = D b j := by
  unfold cpm
  rw [if_neg h]
theorem cpm_eq {D : Mm} {s sp d dp n b j : Int} (h : b = d ∧ dp ≤ j ∧ j < dp + n) : cpm D s sp d dp n b j = D s (sp + (j - dp)) := by
  unfold cpm
  rw [if_pos h]
theorem e_cf35 {a b : Int} (hab : a + 18 < b ∨ b + 18 < a) (D : Mm) : ∃ E, f_Finds_copyFrom_35 a b zF 0 D = some (0, E) ∧ (∀ s t, 0 ≤ s → s < 6 → 0 ≤ t → t < 6 → E (a + 13 + s) t = D (b + 13 + s) t) ∧ (E a 2 = D b 2 ∧ E a 3 = D b 3 ∧ E a 4 = D b 4) ∧ ∀ c j, ¬ (c = a ∧ 2 ≤ j ∧ j ≤ 4) → ¬ (a + 13 ≤ c ∧ c < a + 19 ∧ 0 ≤ j ∧ j < 6) → E c j = D c j := by
  refine zup (fun n i E => f_Finds_copyFrom_35 a b n i E) 6 (fun i E => 0 ≤ i ∧ (∀ s t, 0 ≤ s → s < i → 0 ≤ t → t < 6 → E (a + 13 + s) t = D (b + 13 + s) t) ∧ ∀ c j, ¬ (a + 13 ≤ c ∧ c < a + 13 + i ∧ 0 ≤ j ∧ j < 6) → E c j = D c j) (fun o => ∃ E, o = some (0, E) ∧ (∀ s t, 0 ≤ s → s < 6 → 0 ≤ t → t < 6 → E (a + 13 + s) t = D (b + 13 + s) t) ∧ (E a 2 = D b 2 ∧ E a 3 = D b 3 ∧ E a 4 = D b 4) ∧ ∀ c j, ¬ (c = a ∧ 2 ≤ j ∧ j ≤ 4) → ¬ (a + 13 ≤ c ∧ c < a + 19 ∧ 0 ≤ j ∧ j < 6) → E c j = D c j) ?_ ?_ 6 zF 0 D rfl (by decide) (zF_pos (by decide)) ⟨by decide, fun s t h0 h1 => by omega, fun c j _ => rfl⟩
  · intro n E ⟨_, h1, h2⟩
    refine ⟨stm (stm (stm E a 2 (E b 2)) a 3 (E b 3)) a 4 (E b 4), ?_, fun s t x1 x2 x3 x4 => ?_, ⟨?_, ?_, ?_⟩, fun c j x y => ?_⟩
    · show f_Finds_copyFrom_35 a b (n + 1) 6 E = _
      rw [f_Finds_copyFrom_35, if_pos (by decide +kernel)]
      show some (0, stm (stm (stm E a 2 (E b 2)) a 3 (stm E a 2 (E b 2) b 3)) a 4 (stm (stm E a 2 (E b 2)) a 3 (stm E a 2 (E b 2) b 3) b 4)) = _
      rw [stm_ne (D := E) (b := b) (by omega), stm_ne (by omega), stm_ne (by omega)]
    · rw [stm_ne (by omega), stm_ne (by omega), stm_ne (by omega)]; exact h1 s t x1 x2 x3 x4
    · rw [stm_ne (by omega), stm_ne (by omega), stm_eq ⟨rfl, rfl⟩, h2 _ _ (by omega)]
    · rw [stm_ne (by omega), stm_eq ⟨rfl, rfl⟩, h2 _ _ (by omega)]
    · rw [stm_eq ⟨rfl, rfl⟩, h2 _ _ (by omega)]
    · rw [stm_ne (by omega), stm_ne (by omega), stm_ne (by omega)]; exact h2 c j (by omega)
  · intro n i E hi ⟨h0, h1, h2⟩
    refine ⟨cpm E (b + 13 + i) 0 (a + 13 + i) 0 6, ⟨by omega, fun s t x1 x2 x3 x4 => ?_, fun c j x => ?_⟩, ?_⟩
    · by_cases hk : s = i
      · subst hk
        rw [cpm_eq ⟨rfl, by omega, by omega⟩, h2 _ _ (by omega)]
        congr 1
        omega
      · rw [cpm_ne (by omega)]; exact h1 s t x1 (by omega) x3 x4
    · rw [cpm_ne (by omega)]; exact h2 c j (by omega)
    · show f_Finds_copyFrom_35 a b (n + 1) i E = _
      rw [f_Finds_copyFrom_35, if_neg (fun q => by have := (zI_le (by omega) (by omega) (by omega) (by omega)).mp q; omega), if_pos (by omega), if_pos (by omega)]
      rfl
theorem e_cf {a b : Int} (hab : a + 18 < b ∨ b + 18 < a) (D : Mm) : ∃ E, f_Finds_copyFrom a b D = some (0, E) ∧ (∀ f s, 0 ≤ f → f < 10 → 0 ≤ s → s < 6 → E (a + 2 + f) s = D (b + 2 + f) s) ∧ (∀ s t, 0 ≤ s → s < 6 → 0 ≤ t → t < 6 → E (a + 13 + s) t = D (b + 13 + s) t) ∧ (E a 2 = D b 2 ∧ E a 3 = D b 3 ∧ E a 4 = D b 4) ∧ ∀ c j, ¬ (a ≤ c ∧ c ≤ a + 18) → E c j = D c j := by
  unfold f_Finds_copyFrom
  refine zup (fun n i E => f_Finds_copyFrom_2 a b n i E) 10 (fun i E => 0 ≤ i ∧ (∀ s t, 0 ≤ s → s < i → 0 ≤ t → t < 6 → E (a + 2 + s) t = D (b + 2 + s) t) ∧ ∀ c j, ¬ (a + 2 ≤ c ∧ c < a + 2 + i ∧ 0 ≤ j ∧ j < 6) → E c j = D c j) (fun o => ∃ E, o = some (0, E) ∧ (∀ f s, 0 ≤ f → f < 10 → 0 ≤ s → s < 6 → E (a + 2 + f) s = D (b + 2 + f) s) ∧ (∀ s t, 0 ≤ s → s < 6 → 0 ≤ t → t < 6 → E (a + 13 + s) t = D (b + 13 + s) t) ∧ (E a 2 = D b 2 ∧ E a 3 = D b 3 ∧ E a 4 = D b 4) ∧ ∀ c j, ¬ (a ≤ c ∧ c ≤ a + 18) → E c j = D c j) ?_ ?_ 10 zF 0 D rfl (by decide) (zF_pos (by decide)) ⟨by decide, fun s t h0 h1 => by omega, fun c j _ => rfl⟩
  · intro n E ⟨_, h1, h2⟩
    obtain ⟨G, g1, g2, ⟨g3, g4, g5⟩, g6⟩ := e_cf35 hab E
    refine ⟨G, ?_, fun s t x1 x2 x3 x4 => ?_, fun s t x1 x2 x3 x4 => ?_, ⟨?_, ?_, ?_⟩, fun c j x => ?_⟩
    · show f_Finds_copyFrom_2 a b (n + 1) 10 E = _
      rw [f_Finds_copyFrom_2, if_pos (by decide +kernel)]
      exact g1
    · rw [g6 _ _ (by omega) (by omega)]; exact h1 s t x1 x2 x3 x4
    · rw [g2 s t x1 x2 x3 x4, h2 _ _ (by omega)]
    · rw [g3, h2 _ _ (by omega)]
    · rw [g4, h2 _ _ (by omega)]
    · rw [g5, h2 _ _ (by omega)]
    · rw [g6 c j (by omega) (by omega)]; exact h2 c j (by omega)
  · intro n i E hi ⟨h0, h1, h2⟩
    refine ⟨cpm E (b + 2 + i) 0 (a + 2 + i) 0 6, ⟨by omega, fun s t x1 x2 x3 x4 => ?_, fun c j x => ?_⟩, ?_⟩
    · by_cases hk : s = i
      · subst hk
        rw [cpm_eq ⟨rfl, by omega, by omega⟩, h2 _ _ (by omega)]
        congr 1
        omega
      · rw [cpm_ne (by omega)]; exact h1 s t x1 (by omega) x3 x4
    · rw [cpm_ne (by omega)]; exact h2 c j (by omega)
    · show f_Finds_copyFrom_2 a b (n + 1) i E = _
      rw [f_Finds_copyFrom_2, if_neg (fun q => by have := (zI_le (by omega) (by omega) (by omega) (by omega)).mp q; omega), if_pos (by omega), if_pos (by omega)]
      rfl

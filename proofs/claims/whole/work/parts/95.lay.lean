theorem e_fc26 (q : Int) (D : Mm) : ∃ E, f_Finds_clear_26 q zF 0 D = some (0, E) ∧ (∀ s t, 0 ≤ s → s < 6 → 0 ≤ t → t < 6 → E (q + 13 + s) t = 0) ∧ (E q 2 = 0 ∧ E q 3 = 0 ∧ E q 4 = 0) ∧ ∀ c j, ¬ (q + 13 ≤ c ∧ c < q + 19) → c ≠ q → E c j = D c j := by
  refine zup (fun n i E => f_Finds_clear_26 q n i E) 6 (fun i E => 0 ≤ i ∧ (∀ s t, 0 ≤ s → s < i → 0 ≤ t → t < 6 → E (q + 13 + s) t = 0) ∧ ∀ c j, ¬ (q + 13 ≤ c ∧ c < q + 13 + i) → E c j = D c j) (fun o => ∃ E, o = some (0, E) ∧ (∀ s t, 0 ≤ s → s < 6 → 0 ≤ t → t < 6 → E (q + 13 + s) t = 0) ∧ (E q 2 = 0 ∧ E q 3 = 0 ∧ E q 4 = 0) ∧ ∀ c j, ¬ (q + 13 ≤ c ∧ c < q + 19) → c ≠ q → E c j = D c j) ?_ ?_ 6 zF 0 D rfl (by decide) (zF_pos (by decide)) ⟨by decide, fun s t h0 h1 => by omega, fun c j _ => rfl⟩
  · intro n E ⟨_, h1, h2⟩
    refine ⟨stm (stm (stm E q 2 0) q 3 0) q 4 0, ?_, fun s t x1 x2 x3 x4 => ?_, ⟨?_, ?_, ?_⟩, fun c j x y => ?_⟩
    · show f_Finds_clear_26 q (n + 1) 6 E = _
      rw [f_Finds_clear_26, if_pos (by decide +kernel)]
      simp only [zst]
    · rw [stm_ne (by omega), stm_ne (by omega), stm_ne (by omega)]; exact h1 s t x1 x2 x3 x4
    · rw [stm_ne (by omega), stm_ne (by omega), stm_eq ⟨rfl, rfl⟩]
    · rw [stm_ne (by omega), stm_eq ⟨rfl, rfl⟩]
    · rw [stm_eq ⟨rfl, rfl⟩]
    · rw [stm_ne (by omega), stm_ne (by omega), stm_ne (by omega)]; exact h2 c j (by omega)
  · intro n i E hi ⟨h0, h1, h2⟩
    obtain ⟨F, f1, f2, f3⟩ := e_fill (c := q + 13 + i) (n := 6) (v := 0) E (by decide) (by decide)
    refine ⟨F, ⟨by omega, fun s t x1 x2 x3 x4 => ?_, fun c j x => ?_⟩, ?_⟩
    · by_cases hk : s = i
      · subst hk
        exact f2 t x3 x4
      · rw [f3 _ _ (by omega)]; exact h1 s t x1 (by omega) x3 x4
    · rw [f3 _ _ (by omega)]; exact h2 c j (by omega)
    · show f_Finds_clear_26 q (n + 1) i E = _
      rw [f_Finds_clear_26, zleN (by omega) (by omega) (by omega) (by omega) (by omega), if_pos (by omega), f1, zb_some]
theorem e_fc (q : Int) (D : Mm) : ∃ E, f_Finds_clear q D = some (0, E) ∧ (∀ s t, 0 ≤ s → s < 10 → 0 ≤ t → t < 6 → E (q + 2 + s) t = 0) ∧ (∀ s t, 0 ≤ s → s < 6 → 0 ≤ t → t < 6 → E (q + 13 + s) t = 0) ∧ (E q 2 = 0 ∧ E q 3 = 0 ∧ E q 4 = 0) ∧ ∀ c j, ¬ (q ≤ c ∧ c < q + 19) → E c j = D c j := by
  unfold f_Finds_clear
  refine zup (fun n i E => f_Finds_clear_2 q n i E) 10 (fun i E => 0 ≤ i ∧ (∀ s t, 0 ≤ s → s < i → 0 ≤ t → t < 6 → E (q + 2 + s) t = 0) ∧ ∀ c j, ¬ (q + 2 ≤ c ∧ c < q + 2 + i) → E c j = D c j) (fun o => ∃ E, o = some (0, E) ∧ (∀ s t, 0 ≤ s → s < 10 → 0 ≤ t → t < 6 → E (q + 2 + s) t = 0) ∧ (∀ s t, 0 ≤ s → s < 6 → 0 ≤ t → t < 6 → E (q + 13 + s) t = 0) ∧ (E q 2 = 0 ∧ E q 3 = 0 ∧ E q 4 = 0) ∧ ∀ c j, ¬ (q ≤ c ∧ c < q + 19) → E c j = D c j) ?_ ?_ 10 zF 0 D rfl (by decide) (zF_pos (by decide)) ⟨by decide, fun s t h0 h1 => by omega, fun c j _ => rfl⟩
  · intro n E ⟨_, h1, h2⟩
    obtain ⟨F, f1, f2, f3, f4⟩ := e_fc26 q E
    refine ⟨F, ?_, fun s t x1 x2 x3 x4 => ?_, f2, f3, fun c j x => ?_⟩
    · show f_Finds_clear_2 q (n + 1) 10 E = _
      rw [f_Finds_clear_2, if_pos (by decide +kernel), f1]
    · rw [f4 _ _ (by omega) (by omega)]; exact h1 s t x1 x2 x3 x4
    · rw [f4 _ _ (by omega) (by omega)]; exact h2 c j (by omega)
  · intro n i E hi ⟨h0, h1, h2⟩
    obtain ⟨F, f1, f2, f3⟩ := e_fill (c := q + 2 + i) (n := 6) (v := 0) E (by decide) (by decide)
    refine ⟨F, ⟨by omega, fun s t x1 x2 x3 x4 => ?_, fun c j x => ?_⟩, ?_⟩
    · by_cases hk : s = i
      · subst hk
        exact f2 t x3 x4
      · rw [f3 _ _ (by omega)]; exact h1 s t x1 (by omega) x3 x4
    · rw [f3 _ _ (by omega)]; exact h2 c j (by omega)
    · show f_Finds_clear_2 q (n + 1) i E = _
      rw [f_Finds_clear_2, zleN (by omega) (by omega) (by omega) (by omega) (by omega), if_pos (by omega), f1, zb_some]
-- the model's lay
theorem e_l272 (M : Mm) : ∃ N, f_Model_lay_272 zF 0 M = some (N 148 0, N) ∧ (∀ k, 0 ≤ k → k < 36 → N 158 k = M 158 (36 + k) ∧ N 161 k = 0) ∧ (N 162 0 = 0 ∧ N 144 19 = 0) ∧ ∀ c j, ¬ (c = 158 ∧ 0 ≤ j ∧ j < 36) → ¬ (c = 161 ∧ 0 ≤ j ∧ j < 36) → ¬ (c = 162 ∧ j = 0) → ¬ (c = 144 ∧ j = 19) → N c j = M c j := by
  refine zup (fun n i E => f_Model_lay_272 n i E) 36 (fun i E => 0 ≤ i ∧ (∀ k, 0 ≤ k → k < i → E 158 k = M 158 (36 + k) ∧ E 161 k = 0) ∧ ∀ c j, ¬ (c = 158 ∧ 0 ≤ j ∧ j < i) → ¬ (c = 161 ∧ 0 ≤ j ∧ j < i) → E c j = M c j) (fun o => ∃ N, o = some (N 148 0, N) ∧ (∀ k, 0 ≤ k → k < 36 → N 158 k = M 158 (36 + k) ∧ N 161 k = 0) ∧ (N 162 0 = 0 ∧ N 144 19 = 0) ∧ ∀ c j, ¬ (c = 158 ∧ 0 ≤ j ∧ j < 36) → ¬ (c = 161 ∧ 0 ≤ j ∧ j < 36) → ¬ (c = 162 ∧ j = 0) → ¬ (c = 144 ∧ j = 19) → N c j = M c j) ?_ ?_ 36 zF 0 M rfl (by decide) (zF_pos (by decide)) ⟨by decide, fun k h0 h1 => by omega, fun c j _ _ => rfl⟩
  · intro n E ⟨_, h1, h2⟩
    refine ⟨stm (stm E 162 0 0) 144 19 0, ?_, fun k k0 k1 => ?_, ⟨?_, ?_⟩, fun c j x y z w => ?_⟩
    · show f_Model_lay_272 (n + 1) 36 E = _
      rw [f_Model_lay_272, if_pos (by decide +kernel)]
      simp only [zst]
    · rw [stm_ne (by omega), stm_ne (by omega), stm_ne (by omega), stm_ne (by omega)]; exact h1 k k0 k1
    · rw [stm_ne (by omega), stm_eq ⟨rfl, rfl⟩]
    · rw [stm_eq ⟨rfl, rfl⟩]
    · rw [stm_ne (by omega), stm_ne (by omega)]; exact h2 c j (by omega) (by omega)
  · intro n i E hi ⟨h0, h1, h2⟩
    refine ⟨stm (stm E 158 i (E 158 (36 + i))) 161 i 0, ⟨by omega, fun k k0 k1 => ?_, fun c j x y => ?_⟩, ?_⟩
    · by_cases hk : k = i
      · subst hk
        rw [stm_ne (show (158 : Int) ≠ 161 ∨ k ≠ k by omega), stm_eq ⟨rfl, rfl⟩, stm_eq ⟨rfl, rfl⟩, h2 _ _ (by omega) (by omega)]
        exact ⟨rfl, rfl⟩
      · rw [stm_ne (by omega), stm_ne (by omega), stm_ne (by omega), stm_ne (by omega)]; exact h1 k k0 (by omega)
    · rw [stm_ne (by omega), stm_ne (by omega)]; exact h2 c j (by omega) (by omega)
    · show f_Model_lay_272 (n + 1) i E = _
      rw [f_Model_lay_272, zleN (by omega) (by omega) (by omega) (by omega) (by omega), if_pos (by omega), if_pos (by omega)]
      simp only [zst]
      rw [if_pos (by omega)]
theorem e_l217 (M : Mm) : ∃ N, f_Model_lay_217 zF 0 M = some (N 148 0, N) ∧ (∀ k, 0 ≤ k → k < 4 → N 155 k = M 155 (4 + k) ∧ N 156 k = M 156 (4 + k) ∧ N 157 k = M 157 (4 + k)) ∧ (∀ k, 0 ≤ k → k < 36 → N 158 k = M 158 (36 + k) ∧ N 161 k = 0) ∧ (N 162 0 = 0 ∧ N 144 19 = 0) ∧ ∀ c j, ¬ (155 ≤ c ∧ c ≤ 157 ∧ 0 ≤ j ∧ j < 4) → ¬ (c = 158 ∧ 0 ≤ j ∧ j < 36) → ¬ (c = 161 ∧ 0 ≤ j ∧ j < 36) → ¬ (c = 162 ∧ j = 0) → ¬ (c = 144 ∧ j = 19) → N c j = M c j := by
  refine zup (fun n i E => f_Model_lay_217 n i E) 4 (fun i E => 0 ≤ i ∧ (∀ k, 0 ≤ k → k < i → E 155 k = M 155 (4 + k) ∧ E 156 k = M 156 (4 + k) ∧ E 157 k = M 157 (4 + k)) ∧ ∀ c j, ¬ (155 ≤ c ∧ c ≤ 157 ∧ 0 ≤ j ∧ j < i) → E c j = M c j) (fun o => ∃ N, o = some (N 148 0, N) ∧ (∀ k, 0 ≤ k → k < 4 → N 155 k = M 155 (4 + k) ∧ N 156 k = M 156 (4 + k) ∧ N 157 k = M 157 (4 + k)) ∧ (∀ k, 0 ≤ k → k < 36 → N 158 k = M 158 (36 + k) ∧ N 161 k = 0) ∧ (N 162 0 = 0 ∧ N 144 19 = 0) ∧ ∀ c j, ¬ (155 ≤ c ∧ c ≤ 157 ∧ 0 ≤ j ∧ j < 4) → ¬ (c = 158 ∧ 0 ≤ j ∧ j < 36) → ¬ (c = 161 ∧ 0 ≤ j ∧ j < 36) → ¬ (c = 162 ∧ j = 0) → ¬ (c = 144 ∧ j = 19) → N c j = M c j) ?_ ?_ 4 zF 0 M rfl (by decide) (zF_pos (by decide)) ⟨by decide, fun k h0 h1 => by omega, fun c j _ => rfl⟩
  · intro n E ⟨_, h1, h2⟩
    obtain ⟨F, f1, f2, f3, f4⟩ := e_l272 E
    refine ⟨F, ?_, fun k k0 k1 => ?_, fun k k0 k1 => ?_, f3, fun c j x y z w u => ?_⟩
    · show f_Model_lay_217 (n + 1) 4 E = _
      rw [f_Model_lay_217, if_pos (by decide +kernel), f1]
    · rw [f4 _ _ (by omega) (by omega) (by omega) (by omega), f4 _ _ (by omega) (by omega) (by omega) (by omega), f4 _ _ (by omega) (by omega) (by omega) (by omega)]; exact h1 k k0 k1
    · have := f2 k k0 k1
      rw [h2 _ _ (by omega)] at this
      exact this
    · rw [f4 _ _ (by omega) (by omega) (by omega) (by omega)]; exact h2 c j (by omega)
  · intro n i E hi ⟨h0, h1, h2⟩
    refine ⟨stm (stm (stm E 155 i (E 155 (4 + i))) 156 i (E 156 (4 + i))) 157 i (E 157 (4 + i)), ⟨by omega, fun k k0 k1 => ?_, fun c j x => ?_⟩, ?_⟩
    · by_cases hk : k = i
      · subst hk
        refine ⟨?_, ?_, ?_⟩
        · rw [stm_ne (by omega), stm_ne (by omega), stm_eq ⟨rfl, rfl⟩, h2 _ _ (by omega)]
        · rw [stm_ne (by omega), stm_eq ⟨rfl, rfl⟩, h2 _ _ (by omega)]
        · rw [stm_eq ⟨rfl, rfl⟩, h2 _ _ (by omega)]
      · have := h1 k k0 (by omega)
        refine ⟨?_, ?_, ?_⟩
        · rw [stm_ne (by omega), stm_ne (by omega), stm_ne (by omega)]; exact this.1
        · rw [stm_ne (by omega), stm_ne (by omega), stm_ne (by omega)]; exact this.2.1
        · rw [stm_ne (by omega), stm_ne (by omega), stm_ne (by omega)]; exact this.2.2
    · rw [stm_ne (by omega), stm_ne (by omega), stm_ne (by omega)]; exact h2 c j (by omega)
    · show f_Model_lay_217 (n + 1) i E = _
      have g1 : 0 ≤ 4 + i ∧ 4 + i < 8 := by omega
      have g2 : 0 ≤ i ∧ i < 8 := by omega
      rw [f_Model_lay_217, zleN (by omega) (by omega) (by omega) (by omega) (by omega)]
      simp only [zst, if_pos g1, if_pos g2]
      have u1 : stm E 155 i (E 155 (4 + i)) 156 (4 + i) = E 156 (4 + i) := stm_ne (by omega)
      rw [u1]
      have u2 : stm (stm E 155 i (E 155 (4 + i))) 156 i (E 156 (4 + i)) 157 (4 + i) = E 157 (4 + i) := by rw [stm_ne (by omega), stm_ne (by omega)]
      rw [u2]
theorem e_l181 (M : Mm) : ∃ N, f_Model_lay_181 zF 0 M = some (N 148 0, N) ∧ (∀ k, 0 ≤ k → k < 60 → N 153 k = M 153 (60 + k) ∧ N 159 k = 0) ∧ (∀ k, 0 ≤ k → k < 4 → N 155 k = M 155 (4 + k) ∧ N 156 k = M 156 (4 + k) ∧ N 157 k = M 157 (4 + k)) ∧ (∀ k, 0 ≤ k → k < 36 → N 158 k = M 158 (36 + k) ∧ N 161 k = 0) ∧ (N 162 0 = 0 ∧ N 144 19 = 0) ∧ ∀ c j, ¬ ((c = 153 ∨ c = 159) ∧ 0 ≤ j ∧ j < 60) → ¬ (155 ≤ c ∧ c ≤ 157 ∧ 0 ≤ j ∧ j < 4) → ¬ (c = 158 ∧ 0 ≤ j ∧ j < 36) → ¬ (c = 161 ∧ 0 ≤ j ∧ j < 36) → ¬ (c = 162 ∧ j = 0) → ¬ (c = 144 ∧ j = 19) → N c j = M c j := by
  refine zup (fun n i E => f_Model_lay_181 n i E) 60 (fun i E => 0 ≤ i ∧ (∀ k, 0 ≤ k → k < i → E 153 k = M 153 (60 + k) ∧ E 159 k = 0) ∧ ∀ c j, ¬ ((c = 153 ∨ c = 159) ∧ 0 ≤ j ∧ j < i) → E c j = M c j) (fun o => ∃ N, o = some (N 148 0, N) ∧ (∀ k, 0 ≤ k → k < 60 → N 153 k = M 153 (60 + k) ∧ N 159 k = 0) ∧ (∀ k, 0 ≤ k → k < 4 → N 155 k = M 155 (4 + k) ∧ N 156 k = M 156 (4 + k) ∧ N 157 k = M 157 (4 + k)) ∧ (∀ k, 0 ≤ k → k < 36 → N 158 k = M 158 (36 + k) ∧ N 161 k = 0) ∧ (N 162 0 = 0 ∧ N 144 19 = 0) ∧ ∀ c j, ¬ ((c = 153 ∨ c = 159) ∧ 0 ≤ j ∧ j < 60) → ¬ (155 ≤ c ∧ c ≤ 157 ∧ 0 ≤ j ∧ j < 4) → ¬ (c = 158 ∧ 0 ≤ j ∧ j < 36) → ¬ (c = 161 ∧ 0 ≤ j ∧ j < 36) → ¬ (c = 162 ∧ j = 0) → ¬ (c = 144 ∧ j = 19) → N c j = M c j) ?_ ?_ 60 zF 0 M rfl (by decide) (zF_pos (by decide)) ⟨by decide, fun k h0 h1 => by omega, fun c j _ => rfl⟩
  · intro n E ⟨_, h1, h2⟩
    obtain ⟨F, f1, f2, f3, f4, f5⟩ := e_l217 E
    refine ⟨F, ?_, fun k k0 k1 => ?_, fun k k0 k1 => ?_, fun k k0 k1 => ?_, f4, fun c j x y z w u v => ?_⟩
    · show f_Model_lay_181 (n + 1) 60 E = _
      rw [f_Model_lay_181, if_pos (by decide +kernel), f1]
    · rw [f5 _ _ (by omega) (by omega) (by omega) (by omega) (by omega), f5 _ _ (by omega) (by omega) (by omega) (by omega) (by omega)]; exact h1 k k0 k1
    · have := f2 k k0 k1
      rw [h2 _ _ (by omega), h2 _ _ (by omega), h2 _ _ (by omega)] at this
      exact this
    · have := f3 k k0 k1
      rw [h2 _ _ (by omega)] at this
      exact this
    · rw [f5 _ _ (by omega) (by omega) (by omega) (by omega) (by omega)]; exact h2 c j (by omega)
  · intro n i E hi ⟨h0, h1, h2⟩
    refine ⟨stm (stm E 153 i (E 153 (60 + i))) 159 i 0, ⟨by omega, fun k k0 k1 => ?_, fun c j x => ?_⟩, ?_⟩
    · by_cases hk : k = i
      · subst hk
        rw [stm_ne (show (153 : Int) ≠ 159 ∨ k ≠ k by omega), stm_eq ⟨rfl, rfl⟩, stm_eq ⟨rfl, rfl⟩, h2 _ _ (by omega)]
        exact ⟨rfl, rfl⟩
      · rw [stm_ne (by omega), stm_ne (by omega), stm_ne (by omega), stm_ne (by omega)]; exact h1 k k0 (by omega)
    · rw [stm_ne (by omega), stm_ne (by omega)]; exact h2 c j (by omega)
    · show f_Model_lay_181 (n + 1) i E = _
      rw [f_Model_lay_181, zleN (by omega) (by omega) (by omega) (by omega) (by omega), if_pos (by omega), if_pos (by omega)]
      simp only [zst]
      rw [if_pos (by omega)]
theorem e_l100 (M : Mm) : ∃ N, f_Model_lay_100 zF 0 M = some (N 148 0, N) ∧ (∀ k, 0 ≤ k → k < 10 → (N 149 k = M 149 (10 + k) ∧ N 150 k = M 150 (10 + k) ∧ N 151 k = M 151 (10 + k) ∧ N 152 k = M 152 (10 + k)) ∧ N 160 k = 0) ∧ (∀ k, 0 ≤ k → k < 60 → N 153 k = M 153 (60 + k) ∧ N 159 k = 0) ∧ (∀ k, 0 ≤ k → k < 4 → N 155 k = M 155 (4 + k) ∧ N 156 k = M 156 (4 + k) ∧ N 157 k = M 157 (4 + k)) ∧ (∀ k, 0 ≤ k → k < 36 → N 158 k = M 158 (36 + k) ∧ N 161 k = 0) ∧ (N 162 0 = 0 ∧ N 144 19 = 0) ∧ ∀ c j, ¬ (((149 ≤ c ∧ c ≤ 152) ∨ c = 160) ∧ 0 ≤ j ∧ j < 10) → ¬ ((c = 153 ∨ c = 159) ∧ 0 ≤ j ∧ j < 60) → ¬ (155 ≤ c ∧ c ≤ 157 ∧ 0 ≤ j ∧ j < 4) → ¬ (c = 158 ∧ 0 ≤ j ∧ j < 36) → ¬ (c = 161 ∧ 0 ≤ j ∧ j < 36) → ¬ (c = 162 ∧ j = 0) → ¬ (c = 144 ∧ j = 19) → N c j = M c j := by
  refine zup (fun n i E => f_Model_lay_100 n i E) 10 (fun i E => 0 ≤ i ∧ (∀ k, 0 ≤ k → k < i → (E 149 k = M 149 (10 + k) ∧ E 150 k = M 150 (10 + k) ∧ E 151 k = M 151 (10 + k) ∧ E 152 k = M 152 (10 + k)) ∧ E 160 k = 0) ∧ ∀ c j, ¬ (((149 ≤ c ∧ c ≤ 152) ∨ c = 160) ∧ 0 ≤ j ∧ j < i) → E c j = M c j) (fun o => ∃ N, o = some (N 148 0, N) ∧ (∀ k, 0 ≤ k → k < 10 → (N 149 k = M 149 (10 + k) ∧ N 150 k = M 150 (10 + k) ∧ N 151 k = M 151 (10 + k) ∧ N 152 k = M 152 (10 + k)) ∧ N 160 k = 0) ∧ (∀ k, 0 ≤ k → k < 60 → N 153 k = M 153 (60 + k) ∧ N 159 k = 0) ∧ (∀ k, 0 ≤ k → k < 4 → N 155 k = M 155 (4 + k) ∧ N 156 k = M 156 (4 + k) ∧ N 157 k = M 157 (4 + k)) ∧ (∀ k, 0 ≤ k → k < 36 → N 158 k = M 158 (36 + k) ∧ N 161 k = 0) ∧ (N 162 0 = 0 ∧ N 144 19 = 0) ∧ ∀ c j, ¬ (((149 ≤ c ∧ c ≤ 152) ∨ c = 160) ∧ 0 ≤ j ∧ j < 10) → ¬ ((c = 153 ∨ c = 159) ∧ 0 ≤ j ∧ j < 60) → ¬ (155 ≤ c ∧ c ≤ 157 ∧ 0 ≤ j ∧ j < 4) → ¬ (c = 158 ∧ 0 ≤ j ∧ j < 36) → ¬ (c = 161 ∧ 0 ≤ j ∧ j < 36) → ¬ (c = 162 ∧ j = 0) → ¬ (c = 144 ∧ j = 19) → N c j = M c j) ?_ ?_ 10 zF 0 M rfl (by decide) (zF_pos (by decide)) ⟨by decide, fun k h0 h1 => by omega, fun c j _ => rfl⟩
  · intro n E ⟨_, h1, h2⟩
    obtain ⟨F, f1, f2, f3, f4, f5, f6⟩ := e_l181 E
    refine ⟨F, ?_, fun k k0 k1 => ?_, fun k k0 k1 => ?_, fun k k0 k1 => ?_, fun k k0 k1 => ?_, f5, fun c j x y z w u v t => ?_⟩
    · show f_Model_lay_100 (n + 1) 10 E = _
      rw [f_Model_lay_100, if_pos (by decide +kernel), f1]
    · rw [f6 149 _ (by omega) (by omega) (by omega) (by omega) (by omega) (by omega), f6 150 _ (by omega) (by omega) (by omega) (by omega) (by omega) (by omega), f6 151 _ (by omega) (by omega) (by omega) (by omega) (by omega) (by omega), f6 152 _ (by omega) (by omega) (by omega) (by omega) (by omega) (by omega), f6 160 _ (by omega) (by omega) (by omega) (by omega) (by omega) (by omega)]; exact h1 k k0 k1
    · have := f2 k k0 k1
      rw [h2 _ _ (by omega)] at this
      exact this
    · have := f3 k k0 k1
      rw [h2 _ _ (by omega), h2 _ _ (by omega), h2 _ _ (by omega)] at this
      exact this
    · have := f4 k k0 k1
      rw [h2 _ _ (by omega)] at this
      exact this
    · rw [f6 _ _ (by omega) (by omega) (by omega) (by omega) (by omega) (by omega)]; exact h2 c j (by omega)
  · intro n i E hi ⟨h0, h1, h2⟩
    generalize hG : stm (stm (stm (stm (stm E 149 i (E 149 (10 + i))) 150 i (E 150 (10 + i))) 151 i (E 151 (10 + i))) 152 i (E 152 (10 + i))) 160 i 0 = G
    have a1 : G 149 i = E 149 (10 + i) := by rw [← hG, stm_ne (by omega), stm_ne (by omega), stm_ne (by omega), stm_ne (by omega), stm_eq ⟨rfl, rfl⟩]
    have a2 : G 150 i = E 150 (10 + i) := by rw [← hG, stm_ne (by omega), stm_ne (by omega), stm_ne (by omega), stm_eq ⟨rfl, rfl⟩]
    have a3 : G 151 i = E 151 (10 + i) := by rw [← hG, stm_ne (by omega), stm_ne (by omega), stm_eq ⟨rfl, rfl⟩]
    have a4 : G 152 i = E 152 (10 + i) := by rw [← hG, stm_ne (by omega), stm_eq ⟨rfl, rfl⟩]
    have a5 : G 160 i = 0 := by rw [← hG, stm_eq ⟨rfl, rfl⟩]
    have eG : ∀ c j, ¬ (((149 ≤ c ∧ c ≤ 152) ∨ c = 160) ∧ j = i) → G c j = E c j := fun c j x => by rw [← hG, stm_ne (by omega), stm_ne (by omega), stm_ne (by omega), stm_ne (by omega), stm_ne (by omega)]
    refine ⟨G, ⟨by omega, fun k k0 k1 => ?_, fun c j x => ?_⟩, ?_⟩
    · by_cases hk : k = i
      · subst hk
        rw [a1, a2, a3, a4, a5, h2 _ _ (by omega), h2 _ _ (by omega), h2 _ _ (by omega), h2 _ _ (by omega)]
        exact ⟨⟨rfl, rfl, rfl, rfl⟩, rfl⟩
      · rw [eG 149 _ (by omega), eG 150 _ (by omega), eG 151 _ (by omega), eG 152 _ (by omega), eG 160 _ (by omega)]; exact h1 k k0 (by omega)
    · rw [eG _ _ (by omega)]; exact h2 c j (by omega)
    · show f_Model_lay_100 (n + 1) i E = f_Model_lay_100 n (i + 1) G
      have g1 : 0 ≤ 10 + i ∧ 10 + i < 20 := by omega
      have g2 : 0 ≤ i ∧ i < 20 := by omega
      have g3 : 0 ≤ i ∧ i < 30 := by omega
      rw [f_Model_lay_100, zleN (by omega) (by omega) (by omega) (by omega) (by omega)]
      simp only [zst, if_pos g1, if_pos g2, if_pos g3]
      have u1 : stm E 149 i (E 149 (10 + i)) 150 (10 + i) = E 150 (10 + i) := stm_ne (by omega)
      rw [u1]
      have u2 : stm (stm E 149 i (E 149 (10 + i))) 150 i (E 150 (10 + i)) 151 (10 + i) = E 151 (10 + i) := by rw [stm_ne (by omega), stm_ne (by omega)]
      rw [u2]
      have u3 : stm (stm (stm E 149 i (E 149 (10 + i))) 150 i (E 150 (10 + i))) 151 i (E 151 (10 + i)) 152 (10 + i) = E 152 (10 + i) := by rw [stm_ne (by omega), stm_ne (by omega), stm_ne (by omega)]
      rw [u3, hG]
def L0 (c j : Int) : Prop := ((c = 147 ∨ c = 154) ∧ 0 ≤ j ∧ j < 24) ∨ (((149 ≤ c ∧ c ≤ 152) ∨ c = 160) ∧ 0 ≤ j ∧ j < 10) ∨ ((c = 153 ∨ c = 159) ∧ 0 ≤ j ∧ j < 60) ∨ (155 ≤ c ∧ c ≤ 157 ∧ 0 ≤ j ∧ j < 4) ∨ (c = 158 ∧ 0 ≤ j ∧ j < 36) ∨ (c = 161 ∧ 0 ≤ j ∧ j < 36) ∨ (c = 162 ∧ j = 0) ∨ (c = 144 ∧ j = 19)
def L1 (M N : Mm) : Prop := (∀ k, 0 ≤ k → k < 24 → N 147 k = M 147 (24 + k) ∧ N 154 k = M 154 (24 + k)) ∧ (∀ k, 0 ≤ k → k < 10 → (N 149 k = M 149 (10 + k) ∧ N 150 k = M 150 (10 + k) ∧ N 151 k = M 151 (10 + k) ∧ N 152 k = M 152 (10 + k)) ∧ N 160 k = 0) ∧ (∀ k, 0 ≤ k → k < 60 → N 153 k = M 153 (60 + k) ∧ N 159 k = 0) ∧ (∀ k, 0 ≤ k → k < 4 → N 155 k = M 155 (4 + k) ∧ N 156 k = M 156 (4 + k) ∧ N 157 k = M 157 (4 + k)) ∧ (∀ k, 0 ≤ k → k < 36 → N 158 k = M 158 (36 + k) ∧ N 161 k = 0) ∧ (N 162 0 = 0 ∧ N 144 19 = 0) ∧ ∀ c j, ¬ L0 c j → N c j = M c j
theorem e_l56 (M : Mm) : ∃ N, f_Model_lay_56 zF 0 M = some (N 148 0, N) ∧ L1 M N := by
  refine zup (fun n i E => f_Model_lay_56 n i E) 24 (fun i E => 0 ≤ i ∧ (∀ k, 0 ≤ k → k < i → E 147 k = M 147 (24 + k) ∧ E 154 k = M 154 (24 + k)) ∧ ∀ c j, ¬ ((c = 147 ∨ c = 154) ∧ 0 ≤ j ∧ j < i) → E c j = M c j) (fun o => ∃ N, o = some (N 148 0, N) ∧ L1 M N) ?_ ?_ 24 zF 0 M rfl (by decide) (zF_pos (by decide)) ⟨by decide, fun k h0 h1 => by omega, fun c j _ => rfl⟩
  · intro n E ⟨_, h1, h2⟩
    obtain ⟨F, f1, f2, f3, f4, f5, f6, f7⟩ := e_l100 E
    refine ⟨F, ?_, fun k k0 k1 => ?_, fun k k0 k1 => ?_, fun k k0 k1 => ?_, fun k k0 k1 => ?_, fun k k0 k1 => ?_, f6, fun c j x => ?_⟩
    · show f_Model_lay_56 (n + 1) 24 E = _
      rw [f_Model_lay_56, if_pos (by decide +kernel), f1]
    · rw [f7 147 _ (by omega) (by omega) (by omega) (by omega) (by omega) (by omega) (by omega), f7 154 _ (by omega) (by omega) (by omega) (by omega) (by omega) (by omega) (by omega)]; exact h1 k k0 k1
    · have := f2 k k0 k1
      rw [h2 149 _ (by omega), h2 150 _ (by omega), h2 151 _ (by omega), h2 152 _ (by omega)] at this
      exact this
    · have := f3 k k0 k1
      rw [h2 _ _ (by omega)] at this
      exact this
    · have := f4 k k0 k1
      rw [h2 _ _ (by omega), h2 _ _ (by omega), h2 _ _ (by omega)] at this
      exact this
    · have := f5 k k0 k1
      rw [h2 _ _ (by omega)] at this
      exact this
    · unfold L0 at x
      rw [f7 _ _ (by omega) (by omega) (by omega) (by omega) (by omega) (by omega) (by omega)]; exact h2 c j (by omega)
  · intro n i E hi ⟨h0, h1, h2⟩
    refine ⟨stm (stm E 147 i (E 147 (24 + i))) 154 i (E 154 (24 + i)), ⟨by omega, fun k k0 k1 => ?_, fun c j x => ?_⟩, ?_⟩
    · by_cases hk : k = i
      · subst hk
        rw [stm_ne (show (147 : Int) ≠ 154 ∨ k ≠ k by omega), stm_eq ⟨rfl, rfl⟩, stm_eq ⟨rfl, rfl⟩, h2 _ _ (by omega), h2 _ _ (by omega)]
        exact ⟨rfl, rfl⟩
      · rw [stm_ne (by omega), stm_ne (by omega), stm_ne (by omega), stm_ne (by omega)]; exact h1 k k0 (by omega)
    · rw [stm_ne (by omega), stm_ne (by omega)]; exact h2 c j (by omega)
    · show f_Model_lay_56 (n + 1) i E = _
      have g1 : 0 ≤ 24 + i ∧ 24 + i < 48 := by omega
      have g2 : 0 ≤ i ∧ i < 48 := by omega
      rw [f_Model_lay_56, zleN (by omega) (by omega) (by omega) (by omega) (by omega)]
      simp only [zst, if_pos g1, if_pos g2]
      have u1 : stm E 147 i (E 147 (24 + i)) 154 (24 + i) = E 154 (24 + i) := stm_ne (by omega)
      rw [u1]

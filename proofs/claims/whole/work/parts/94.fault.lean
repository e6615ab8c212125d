theorem e_cl64 (q : Int) (D : Mm) : ∃ E, f_Quern_clear_64 q zF 0 D = some (0, E) ∧ (∀ s t, 0 ≤ s → s < 6 → 0 ≤ t → t < 6 → E (q + 31 + s) t = 0) ∧ (∀ t, 0 ≤ t → t < 4 → E (q + 28) t = 0 ∧ E (q + 29) t = 0) ∧ ∀ c j, ¬ (q + 31 ≤ c ∧ c < q + 37) → c ≠ q + 28 → c ≠ q + 29 → E c j = D c j := by
  refine zup (fun n i E => f_Quern_clear_64 q n i E) 6 (fun i E => 0 ≤ i ∧ (∀ s t, 0 ≤ s → s < i → 0 ≤ t → t < 6 → E (q + 31 + s) t = 0) ∧ ∀ c j, ¬ (q + 31 ≤ c ∧ c < q + 31 + i) → E c j = D c j) (fun o => ∃ E, o = some (0, E) ∧ (∀ s t, 0 ≤ s → s < 6 → 0 ≤ t → t < 6 → E (q + 31 + s) t = 0) ∧ (∀ t, 0 ≤ t → t < 4 → E (q + 28) t = 0 ∧ E (q + 29) t = 0) ∧ ∀ c j, ¬ (q + 31 ≤ c ∧ c < q + 37) → c ≠ q + 28 → c ≠ q + 29 → E c j = D c j) ?_ ?_ 6 zF 0 D rfl (by decide) (zF_pos (by decide)) ⟨by decide, fun s t h0 h1 => by omega, fun c j _ => rfl⟩
  · intro n E ⟨_, h1, h2⟩
    obtain ⟨F, f1, f2, f3⟩ := e_fill (c := q + 28) (n := 4) (v := 0) E (by decide) (by decide)
    obtain ⟨G, g1, g2, g3⟩ := e_fill (c := q + 29) (n := 4) (v := 0) F (by decide) (by decide)
    refine ⟨G, ?_, fun s t x1 x2 x3 x4 => ?_, fun t x1 x2 => ⟨?_, g2 t x1 x2⟩, fun c j x y z => ?_⟩
    · show f_Quern_clear_64 q (n + 1) 6 E = _
      rw [f_Quern_clear_64, if_pos (by decide +kernel), f1, zb_some, g1, zb_some]
    · rw [g3 _ _ (by omega), f3 _ _ (by omega)]; exact h1 s t x1 x2 x3 x4
    · rw [g3 _ _ (by omega)]; exact f2 t x1 x2
    · rw [g3 _ _ (by omega), f3 _ _ (by omega)]; exact h2 c j (by omega)
  · intro n i E hi ⟨h0, h1, h2⟩
    obtain ⟨F, f1, f2, f3⟩ := e_fill (c := q + 31 + i) (n := 6) (v := 0) E (by decide) (by decide)
    refine ⟨F, ⟨by omega, fun s t x1 x2 x3 x4 => ?_, fun c j x => ?_⟩, ?_⟩
    · by_cases hk : s = i
      · subst hk
        exact f2 t x3 x4
      · rw [f3 _ _ (by omega)]; exact h1 s t x1 (by omega) x3 x4
    · rw [f3 _ _ (by omega)]; exact h2 c j (by omega)
    · show f_Quern_clear_64 q (n + 1) i E = _
      rw [f_Quern_clear_64, zleN (by omega) (by omega) (by omega) (by omega) (by omega), if_pos (by omega), f1, zb_some]
theorem e_cl41 (q : Int) (D : Mm) : ∃ E, f_Quern_clear_41 q zF 0 D = some (0, E) ∧ (∀ s t, 0 ≤ s → s < 4 → 0 ≤ t → t < 6 → E (q + 24 + s) t = 0) ∧ (∀ s t, 0 ≤ s → s < 6 → 0 ≤ t → t < 6 → E (q + 31 + s) t = 0) ∧ (∀ t, 0 ≤ t → t < 4 → E (q + 28) t = 0 ∧ E (q + 29) t = 0) ∧ ∀ c j, ¬ (q + 24 ≤ c ∧ c < q + 37) → E c j = D c j := by
  refine zup (fun n i E => f_Quern_clear_41 q n i E) 4 (fun i E => 0 ≤ i ∧ (∀ s t, 0 ≤ s → s < i → 0 ≤ t → t < 6 → E (q + 24 + s) t = 0) ∧ ∀ c j, ¬ (q + 24 ≤ c ∧ c < q + 24 + i) → E c j = D c j) (fun o => ∃ E, o = some (0, E) ∧ (∀ s t, 0 ≤ s → s < 4 → 0 ≤ t → t < 6 → E (q + 24 + s) t = 0) ∧ (∀ s t, 0 ≤ s → s < 6 → 0 ≤ t → t < 6 → E (q + 31 + s) t = 0) ∧ (∀ t, 0 ≤ t → t < 4 → E (q + 28) t = 0 ∧ E (q + 29) t = 0) ∧ ∀ c j, ¬ (q + 24 ≤ c ∧ c < q + 37) → E c j = D c j) ?_ ?_ 4 zF 0 D rfl (by decide) (zF_pos (by decide)) ⟨by decide, fun s t h0 h1 => by omega, fun c j _ => rfl⟩
  · intro n E ⟨_, h1, h2⟩
    obtain ⟨F, f1, f2, f3, f4⟩ := e_cl64 q E
    refine ⟨F, ?_, fun s t x1 x2 x3 x4 => ?_, f2, f3, fun c j x => ?_⟩
    · show f_Quern_clear_41 q (n + 1) 4 E = _
      rw [f_Quern_clear_41, if_pos (by decide +kernel), f1]
    · rw [f4 _ _ (by omega) (by omega) (by omega)]; exact h1 s t x1 x2 x3 x4
    · rw [f4 _ _ (by omega) (by omega) (by omega)]; exact h2 c j (by omega)
  · intro n i E hi ⟨h0, h1, h2⟩
    obtain ⟨F, f1, f2, f3⟩ := e_fill (c := q + 24 + i) (n := 6) (v := 0) E (by decide) (by decide)
    refine ⟨F, ⟨by omega, fun s t x1 x2 x3 x4 => ?_, fun c j x => ?_⟩, ?_⟩
    · by_cases hk : s = i
      · subst hk
        exact f2 t x3 x4
      · rw [f3 _ _ (by omega)]; exact h1 s t x1 (by omega) x3 x4
    · rw [f3 _ _ (by omega)]; exact h2 c j (by omega)
    · show f_Quern_clear_41 q (n + 1) i E = _
      rw [f_Quern_clear_41, zleN (by omega) (by omega) (by omega) (by omega) (by omega), if_pos (by omega), f1, zb_some]
theorem e_cl17 (q : Int) (D : Mm) : ∃ E, f_Quern_clear_17 q zF 0 D = some (0, E) ∧ (∀ s t, 0 ≤ s → s < 10 → 0 ≤ t → t < 6 → E (q + 13 + s) t = 0) ∧ (∀ s t, 0 ≤ s → s < 4 → 0 ≤ t → t < 6 → E (q + 24 + s) t = 0) ∧ (∀ s t, 0 ≤ s → s < 6 → 0 ≤ t → t < 6 → E (q + 31 + s) t = 0) ∧ (∀ t, 0 ≤ t → t < 4 → E (q + 28) t = 0 ∧ E (q + 29) t = 0) ∧ ∀ c j, ¬ (q + 13 ≤ c ∧ c < q + 37) → E c j = D c j := by
  refine zup (fun n i E => f_Quern_clear_17 q n i E) 10 (fun i E => 0 ≤ i ∧ (∀ s t, 0 ≤ s → s < i → 0 ≤ t → t < 6 → E (q + 13 + s) t = 0) ∧ ∀ c j, ¬ (q + 13 ≤ c ∧ c < q + 13 + i) → E c j = D c j) (fun o => ∃ E, o = some (0, E) ∧ (∀ s t, 0 ≤ s → s < 10 → 0 ≤ t → t < 6 → E (q + 13 + s) t = 0) ∧ (∀ s t, 0 ≤ s → s < 4 → 0 ≤ t → t < 6 → E (q + 24 + s) t = 0) ∧ (∀ s t, 0 ≤ s → s < 6 → 0 ≤ t → t < 6 → E (q + 31 + s) t = 0) ∧ (∀ t, 0 ≤ t → t < 4 → E (q + 28) t = 0 ∧ E (q + 29) t = 0) ∧ ∀ c j, ¬ (q + 13 ≤ c ∧ c < q + 37) → E c j = D c j) ?_ ?_ 10 zF 0 D rfl (by decide) (zF_pos (by decide)) ⟨by decide, fun s t h0 h1 => by omega, fun c j _ => rfl⟩
  · intro n E ⟨_, h1, h2⟩
    obtain ⟨F, f1, f2, f3, f4, f5⟩ := e_cl41 q E
    refine ⟨F, ?_, fun s t x1 x2 x3 x4 => ?_, f2, f3, f4, fun c j x => ?_⟩
    · show f_Quern_clear_17 q (n + 1) 10 E = _
      rw [f_Quern_clear_17, if_pos (by decide +kernel), f1]
    · rw [f5 _ _ (by omega)]; exact h1 s t x1 x2 x3 x4
    · rw [f5 _ _ (by omega)]; exact h2 c j (by omega)
  · intro n i E hi ⟨h0, h1, h2⟩
    obtain ⟨F, f1, f2, f3⟩ := e_fill (c := q + 13 + i) (n := 6) (v := 0) E (by decide) (by decide)
    refine ⟨F, ⟨by omega, fun s t x1 x2 x3 x4 => ?_, fun c j x => ?_⟩, ?_⟩
    · by_cases hk : s = i
      · subst hk
        exact f2 t x3 x4
      · rw [f3 _ _ (by omega)]; exact h1 s t x1 (by omega) x3 x4
    · rw [f3 _ _ (by omega)]; exact h2 c j (by omega)
    · show f_Quern_clear_17 q (n + 1) i E = _
      rw [f_Quern_clear_17, zleN (by omega) (by omega) (by omega) (by omega) (by omega), if_pos (by omega), f1, zb_some]
-- the model's noStones
theorem e_ns114 {b : Int} (b0 : 0 ≤ b) (b1 : b < 2) (D : Mm) : ∃ E, f_Model_noStones_114 b zF 0 D = some (0, E) ∧ (∀ k, 0 ≤ k → k < 36 → E 158 (36 * b + k) = 0) ∧ ∀ c j, ¬ (c = 158 ∧ 36 * b ≤ j ∧ j < 36 * b + 36) → E c j = D c j := by
  refine zup (fun n i E => f_Model_noStones_114 b n i E) 36 (fun i E => 0 ≤ i ∧ (∀ k, 0 ≤ k → k < i → E 158 (36 * b + k) = 0) ∧ ∀ c j, ¬ (c = 158 ∧ 36 * b ≤ j ∧ j < 36 * b + i) → E c j = D c j) (fun o => ∃ E, o = some (0, E) ∧ (∀ k, 0 ≤ k → k < 36 → E 158 (36 * b + k) = 0) ∧ ∀ c j, ¬ (c = 158 ∧ 36 * b ≤ j ∧ j < 36 * b + 36) → E c j = D c j) ?_ ?_ 36 zF 0 D rfl (by decide) (zF_pos (by decide)) ⟨by decide, fun k h0 h1 => by omega, fun c j _ => rfl⟩
  · intro n E ⟨_, h1, h2⟩
    refine ⟨E, ?_, h1, h2⟩
    show f_Model_noStones_114 b (n + 1) 36 E = _
    rw [f_Model_noStones_114, if_pos (by decide +kernel)]
  · intro n i E hi ⟨h0, h1, h2⟩
    refine ⟨stm E 158 (36 * b + i) 0, ⟨by omega, fun k k0 k1 => ?_, fun c j x => ?_⟩, ?_⟩
    · by_cases hk : k = i
      · rw [stm_eq (by omega)]
      · rw [stm_ne (by omega)]; exact h1 k k0 (by omega)
    · rw [stm_ne (by omega)]; exact h2 c j (by omega)
    · show f_Model_noStones_114 b (n + 1) i E = _
      rw [f_Model_noStones_114, zleN (by omega) (by omega) (by omega) (by omega) (by omega), if_pos (by omega)]
      rfl
theorem e_ns68 {b : Int} (b0 : 0 ≤ b) (b1 : b < 2) (D : Mm) : ∃ E, f_Model_noStones_68 b zF 0 D = some (0, E) ∧ (∀ k, 0 ≤ k → k < 4 → E 155 (4 * b + k) = 0 ∧ E 156 (4 * b + k) = 0 ∧ E 157 (4 * b + k) = 0) ∧ (∀ k, 0 ≤ k → k < 36 → E 158 (36 * b + k) = 0) ∧ ∀ c j, ¬ (155 ≤ c ∧ c ≤ 157 ∧ 4 * b ≤ j ∧ j < 4 * b + 4) → ¬ (c = 158 ∧ 36 * b ≤ j ∧ j < 36 * b + 36) → E c j = D c j := by
  refine zup (fun n i E => f_Model_noStones_68 b n i E) 4 (fun i E => 0 ≤ i ∧ (∀ k, 0 ≤ k → k < i → E 155 (4 * b + k) = 0 ∧ E 156 (4 * b + k) = 0 ∧ E 157 (4 * b + k) = 0) ∧ ∀ c j, ¬ (155 ≤ c ∧ c ≤ 157 ∧ 4 * b ≤ j ∧ j < 4 * b + i) → E c j = D c j) (fun o => ∃ E, o = some (0, E) ∧ (∀ k, 0 ≤ k → k < 4 → E 155 (4 * b + k) = 0 ∧ E 156 (4 * b + k) = 0 ∧ E 157 (4 * b + k) = 0) ∧ (∀ k, 0 ≤ k → k < 36 → E 158 (36 * b + k) = 0) ∧ ∀ c j, ¬ (155 ≤ c ∧ c ≤ 157 ∧ 4 * b ≤ j ∧ j < 4 * b + 4) → ¬ (c = 158 ∧ 36 * b ≤ j ∧ j < 36 * b + 36) → E c j = D c j) ?_ ?_ 4 zF 0 D rfl (by decide) (zF_pos (by decide)) ⟨by decide, fun k h0 h1 => by omega, fun c j _ => rfl⟩
  · intro n E ⟨_, h1, h2⟩
    obtain ⟨F, f1, f2, f3⟩ := e_ns114 b0 b1 E
    refine ⟨F, ?_, fun k k0 k1 => ?_, f2, fun c j x y => ?_⟩
    · show f_Model_noStones_68 b (n + 1) 4 E = _
      rw [f_Model_noStones_68, if_pos (by decide +kernel), f1]
    · rw [f3 _ _ (by omega), f3 _ _ (by omega), f3 _ _ (by omega)]; exact h1 k k0 k1
    · rw [f3 _ _ (by omega)]; exact h2 c j (by omega)
  · intro n i E hi ⟨h0, h1, h2⟩
    refine ⟨stm (stm (stm E 155 (4 * b + i) 0) 156 (4 * b + i) 0) 157 (4 * b + i) 0, ⟨by omega, fun k k0 k1 => ?_, fun c j x => ?_⟩, ?_⟩
    · by_cases hk : k = i
      · refine ⟨?_, ?_, ?_⟩
        · rw [stm_ne (by omega), stm_ne (by omega), stm_eq (by omega)]
        · rw [stm_ne (by omega), stm_eq (by omega)]
        · rw [stm_eq (by omega)]
      · have := h1 k k0 (by omega)
        refine ⟨?_, ?_, ?_⟩
        · rw [stm_ne (by omega), stm_ne (by omega), stm_ne (by omega)]; exact this.1
        · rw [stm_ne (by omega), stm_ne (by omega), stm_ne (by omega)]; exact this.2.1
        · rw [stm_ne (by omega), stm_ne (by omega), stm_ne (by omega)]; exact this.2.2
    · rw [stm_ne (by omega), stm_ne (by omega), stm_ne (by omega)]; exact h2 c j (by omega)
    · show f_Model_noStones_68 b (n + 1) i E = _
      have g : 0 ≤ 4 * b + i ∧ 4 * b + i < 8 := by omega
      rw [f_Model_noStones_68, zleN (by omega) (by omega) (by omega) (by omega) (by omega), if_pos g]
      simp only [zst]
      rw [if_pos g, if_pos g]
theorem e_ns42 {b : Int} (b0 : 0 ≤ b) (b1 : b < 2) (D : Mm) : ∃ E, f_Model_noStones_42 b zF 0 D = some (0, E) ∧ (∀ k, 0 ≤ k → k < 24 → E 154 (24 * b + k) = 0) ∧ (∀ k, 0 ≤ k → k < 4 → E 155 (4 * b + k) = 0 ∧ E 156 (4 * b + k) = 0 ∧ E 157 (4 * b + k) = 0) ∧ (∀ k, 0 ≤ k → k < 36 → E 158 (36 * b + k) = 0) ∧ ∀ c j, ¬ (c = 154 ∧ 24 * b ≤ j ∧ j < 24 * b + 24) → ¬ (155 ≤ c ∧ c ≤ 157 ∧ 4 * b ≤ j ∧ j < 4 * b + 4) → ¬ (c = 158 ∧ 36 * b ≤ j ∧ j < 36 * b + 36) → E c j = D c j := by
  refine zup (fun n i E => f_Model_noStones_42 b n i E) 24 (fun i E => 0 ≤ i ∧ (∀ k, 0 ≤ k → k < i → E 154 (24 * b + k) = 0) ∧ ∀ c j, ¬ (c = 154 ∧ 24 * b ≤ j ∧ j < 24 * b + i) → E c j = D c j) (fun o => ∃ E, o = some (0, E) ∧ (∀ k, 0 ≤ k → k < 24 → E 154 (24 * b + k) = 0) ∧ (∀ k, 0 ≤ k → k < 4 → E 155 (4 * b + k) = 0 ∧ E 156 (4 * b + k) = 0 ∧ E 157 (4 * b + k) = 0) ∧ (∀ k, 0 ≤ k → k < 36 → E 158 (36 * b + k) = 0) ∧ ∀ c j, ¬ (c = 154 ∧ 24 * b ≤ j ∧ j < 24 * b + 24) → ¬ (155 ≤ c ∧ c ≤ 157 ∧ 4 * b ≤ j ∧ j < 4 * b + 4) → ¬ (c = 158 ∧ 36 * b ≤ j ∧ j < 36 * b + 36) → E c j = D c j) ?_ ?_ 24 zF 0 D rfl (by decide) (zF_pos (by decide)) ⟨by decide, fun k h0 h1 => by omega, fun c j _ => rfl⟩
  · intro n E ⟨_, h1, h2⟩
    obtain ⟨F, f1, f2, f3, f4⟩ := e_ns68 b0 b1 E
    refine ⟨F, ?_, fun k k0 k1 => ?_, f2, f3, fun c j x y z => ?_⟩
    · show f_Model_noStones_42 b (n + 1) 24 E = _
      rw [f_Model_noStones_42, if_pos (by decide +kernel), f1]
    · rw [f4 _ _ (by omega) (by omega)]; exact h1 k k0 k1
    · rw [f4 _ _ (by omega) (by omega)]; exact h2 c j (by omega)
  · intro n i E hi ⟨h0, h1, h2⟩
    refine ⟨stm E 154 (24 * b + i) 0, ⟨by omega, fun k k0 k1 => ?_, fun c j x => ?_⟩, ?_⟩
    · by_cases hk : k = i
      · rw [stm_eq (by omega)]
      · rw [stm_ne (by omega)]; exact h1 k k0 (by omega)
    · rw [stm_ne (by omega)]; exact h2 c j (by omega)
    · show f_Model_noStones_42 b (n + 1) i E = _
      rw [f_Model_noStones_42, zleN (by omega) (by omega) (by omega) (by omega) (by omega), if_pos (by omega)]
      rfl
theorem e_ns {b : Int} (b0 : 0 ≤ b) (b1 : b < 2) (D : Mm) : ∃ E, f_Model_noStones b D = some (0, E) ∧ (E 146 b = 0 ∧ E 148 b = 0) ∧ (∀ k, 0 ≤ k → k < 60 → E 153 (60 * b + k) = 0) ∧ (∀ k, 0 ≤ k → k < 24 → E 154 (24 * b + k) = 0) ∧ (∀ k, 0 ≤ k → k < 4 → E 155 (4 * b + k) = 0 ∧ E 156 (4 * b + k) = 0 ∧ E 157 (4 * b + k) = 0) ∧ (∀ k, 0 ≤ k → k < 36 → E 158 (36 * b + k) = 0) ∧ ∀ c j, ¬ ((c = 146 ∨ c = 148) ∧ j = b) → ¬ (c = 153 ∧ 60 * b ≤ j ∧ j < 60 * b + 60) → ¬ (c = 154 ∧ 24 * b ≤ j ∧ j < 24 * b + 24) → ¬ (155 ≤ c ∧ c ≤ 157 ∧ 4 * b ≤ j ∧ j < 4 * b + 4) → ¬ (c = 158 ∧ 36 * b ≤ j ∧ j < 36 * b + 36) → E c j = D c j := by
  unfold f_Model_noStones
  simp only [zst]
  rw [if_pos ⟨b0, b1⟩, if_pos ⟨b0, b1⟩]
  generalize hG : stm (stm D 146 b 0) 148 b 0 = G
  have G1 : G 146 b = 0 := by rw [← hG, stm_ne (by omega), stm_eq ⟨rfl, rfl⟩]
  have G2 : G 148 b = 0 := by rw [← hG, stm_eq ⟨rfl, rfl⟩]
  have eG : ∀ c j, ¬ ((c = 146 ∨ c = 148) ∧ j = b) → G c j = D c j := fun c j x => by rw [← hG, stm_ne (by omega), stm_ne (by omega)]
  clear hG
  refine zup (fun n i E => f_Model_noStones_16 b n i E) 60 (fun i E => 0 ≤ i ∧ (∀ k, 0 ≤ k → k < i → E 153 (60 * b + k) = 0) ∧ ∀ c j, ¬ (c = 153 ∧ 60 * b ≤ j ∧ j < 60 * b + i) → E c j = G c j) (fun o => ∃ E, o = some (0, E) ∧ (E 146 b = 0 ∧ E 148 b = 0) ∧ (∀ k, 0 ≤ k → k < 60 → E 153 (60 * b + k) = 0) ∧ (∀ k, 0 ≤ k → k < 24 → E 154 (24 * b + k) = 0) ∧ (∀ k, 0 ≤ k → k < 4 → E 155 (4 * b + k) = 0 ∧ E 156 (4 * b + k) = 0 ∧ E 157 (4 * b + k) = 0) ∧ (∀ k, 0 ≤ k → k < 36 → E 158 (36 * b + k) = 0) ∧ ∀ c j, ¬ ((c = 146 ∨ c = 148) ∧ j = b) → ¬ (c = 153 ∧ 60 * b ≤ j ∧ j < 60 * b + 60) → ¬ (c = 154 ∧ 24 * b ≤ j ∧ j < 24 * b + 24) → ¬ (155 ≤ c ∧ c ≤ 157 ∧ 4 * b ≤ j ∧ j < 4 * b + 4) → ¬ (c = 158 ∧ 36 * b ≤ j ∧ j < 36 * b + 36) → E c j = D c j) ?_ ?_ 60 zF 0 G rfl (by decide) (zF_pos (by decide)) ⟨by decide, fun k h0 h1 => by omega, fun c j _ => rfl⟩
  · intro n E ⟨_, h1, h2⟩
    obtain ⟨F, f1, f2, f3, f4, f5⟩ := e_ns42 b0 b1 E
    refine ⟨F, ?_, ⟨?_, ?_⟩, fun k k0 k1 => ?_, f2, f3, f4, fun c j x y z w u => ?_⟩
    · show f_Model_noStones_16 b (n + 1) 60 E = _
      rw [f_Model_noStones_16, if_pos (by decide +kernel), f1]
    · rw [f5 _ _ (by omega) (by omega) (by omega), h2 _ _ (by omega), G1]
    · rw [f5 _ _ (by omega) (by omega) (by omega), h2 _ _ (by omega), G2]
    · rw [f5 _ _ (by omega) (by omega) (by omega)]; exact h1 k k0 k1
    · rw [f5 _ _ (by omega) (by omega) (by omega), h2 c j (by omega), eG c j x]
  · intro n i E hi ⟨h0, h1, h2⟩
    refine ⟨stm E 153 (60 * b + i) 0, ⟨by omega, fun k k0 k1 => ?_, fun c j x => ?_⟩, ?_⟩
    · by_cases hk : k = i
      · rw [stm_eq (by omega)]
      · rw [stm_ne (by omega)]; exact h1 k k0 (by omega)
    · rw [stm_ne (by omega)]; exact h2 c j (by omega)
    · show f_Model_noStones_16 b (n + 1) i E = _
      rw [f_Model_noStones_16, zleN (by omega) (by omega) (by omega) (by omega) (by omega), if_pos (by omega)]
      rfl
theorem bitz_zz {t : Int} (t0 : 0 ≤ t) (t1 : t < 4) : bitz 0 t = 0 := by
  rcases (show t = 0 ∨ t = 1 ∨ t = 2 ∨ t = 3 by omega) with h | h | h | h <;> subst h <;> decide +kernel
/-- the class's reader, cleared: whatever the model's memory, its own clearing meets it -/
theorem e_start {q : Int} (C : Mm) : ∃ C0, f_Quern_clear q C = some (0, C0) ∧ CF q C0 C ∧ ∀ M, ∃ M0, f_Model_noStones 1 M = some (0, M0) ∧ QB C0 (stm M0 144 20 0) q ∧ MF (stm M0 144 20 0) M := by
  unfold f_Quern_clear
  simp only [zst]
  generalize hG : stm (stm (stm C q 0 0) q 1 0) q 11 0 = G
  have G0 : G q 0 = 0 := by rw [← hG, stm_ne (by omega), stm_ne (by omega), stm_eq ⟨rfl, rfl⟩]
  have G1 : G q 1 = 0 := by rw [← hG, stm_ne (by omega), stm_eq ⟨rfl, rfl⟩]
  have G11 : G q 11 = 0 := by rw [← hG, stm_eq ⟨rfl, rfl⟩]
  have eG : ∀ c j, c ≠ q → G c j = C c j := fun c j x => by rw [← hG, stm_ne (by omega), stm_ne (by omega), stm_ne (by omega)]
  clear hG
  obtain ⟨E, e1, e2, e3, e4, e5, e6⟩ := e_cl17 q G
  have z0 : E q 0 = 0 := by rw [e6 _ _ (by omega), G0]
  have z1 : E q 1 = 0 := by rw [e6 _ _ (by omega), G1]
  have z11 : E q 11 = 0 := by rw [e6 _ _ (by omega), G11]
  refine ⟨E, e1, fun c j x y => by rw [e6 _ _ (by omega), eG c j (by omega)], fun M => ?_⟩
  obtain ⟨N, n1, n2, n3, n4, n5, n6, n7⟩ := e_ns (b := 1) (by decide) (by decide) M
  have sN : ∀ c j, ¬ (c = 144 ∧ j = 20) → stm N 144 20 0 c j = N c j := fun c j x => stm_ne (by omega)
  refine ⟨N, n1, ⟨⟨by omega, by omega, ?_⟩, ⟨by omega, by omega, ?_⟩, fun s w x1 x2 => by omega, fun f x1 x2 => by omega, fun f s x1 x2 x3 x4 => ?_, fun t s x1 x2 x3 x4 => ?_, fun t x1 x2 => ?_, fun t x1 x2 => ?_, ⟨by omega, fun t x1 x2 => ?_⟩, fun s t x1 x2 x3 x4 => ?_, fun s x1 x2 => e4 s s x1 x2 x1 x2, fun s t x1 x2 x3 x4 => e4 s t x1 x2 (by omega) x4⟩, fun c j x => ?_⟩
  · rw [sN _ _ (by omega), n2.1, z0]
  · rw [sN _ _ (by omega), n2.2, z1]
  · have a := n3 (6 * f + s) (by omega) (by omega)
    rw [show (60 : Int) * 1 = 60 from rfl] at a
    rw [sN _ _ (by omega), a, e2 f s x1 x2 x3 x4]
    exact ⟨rfl, by decide, by decide⟩
  · have a := n4 (6 * t + s) (by omega) (by omega)
    rw [show (24 : Int) * 1 = 24 from rfl] at a
    rw [sN _ _ (by omega), a, e3 t s x1 x2 x3 x4]
    exact ⟨rfl, by decide, by decide⟩
  · have a := (n5 t (by omega) (by omega)).1
    rw [show (4 : Int) * 1 = 4 from rfl] at a
    rw [sN _ _ (by omega), a, (e5 t x1 x2).1]
    exact ⟨rfl, by decide, by decide⟩
  · have a := (n5 t (by omega) (by omega)).2.1
    rw [show (4 : Int) * 1 = 4 from rfl] at a
    rw [sN _ _ (by omega), a, (e5 t x1 x2).2]
    exact ⟨rfl, by decide, by decide⟩
  · have a := (n5 t (by omega) (by omega)).2.2
    rw [show (4 : Int) * 1 = 4 from rfl] at a
    rw [sN _ _ (by omega), a, z11, bitz_zz x1 x2]
  · have a := n6 (6 * s + t) (by omega) (by omega)
    rw [show (36 : Int) * 1 = 36 from rfl] at a
    rw [sN _ _ (by omega), a, e4 s t x1 x2 x3 x4]
    exact ⟨rfl, by decide, by decide⟩
  · unfold Mz at x
    rw [sN _ _ (by omega), n7 c j (by omega) (by omega) (by omega) (by omega) (by omega)]
theorem e_reads {D : Mm} (h : Iv D) : ∃ r D1, f_Scribe_placeOfFault (D 1 8) D = some (r, D1) ∧ CF (D 1 8) D1 D ∧ (-4 ≤ r ∧ r ≤ 500) ∧ ∀ M, (∀ j, M 144 j = D 144 j) → (∀ j, M 145 j = D 145 j) → ∃ M', f_Model_readAll M = some (r, M') ∧ MF M' M ∧ (r = -4 → QB D1 M' (D 1 8)) := by
  obtain ⟨⟨t0, t1, t2, t3⟩, hl, -⟩ := h
  have hq : D 1 8 = 32 ∨ D 1 8 = 69 := by rcases hl with h | h <;> simp [h.2]
  generalize hqq : D 1 8 = q at hq
  have tb : TB (fun k => D 3 k) (D 2 1) := ⟨t0, t1, fun k k0 k1 => (t3 k k0 k1).2⟩
  obtain ⟨C0, c1, c2, c3⟩ := e_start (q := q) D
  have tc : TC (fun k => D 3 k) (D 2 1) C0 := ⟨c2 2 1 (by omega) (by omega), fun k _ _ => c2 3 k (by omega) (by omega)⟩
  have run : ∀ M, (∀ j, M 144 j = D 144 j) → (∀ j, M 145 j = D 145 j) → ∃ r C' M', f_Scribe_placeOfFault q D = some (r, C') ∧ f_Model_readAll M = some (r, M') ∧ CF q C' D ∧ MF M' M ∧ (-4 ≤ r ∧ r ≤ 500) ∧ (r = -4 → QB C' M' q) := fun M m1 m2 => by
    obtain ⟨M0, a1, a2, a3⟩ := c3 M
    have tm : TM (fun k => D 3 k) (D 2 1) (stm M0 144 20 0) := ⟨by rw [a3 144 0 (by unfold Mz; omega), m1, t2], fun k k0 k1 => by rw [a3 145 k (by unfold Mz; omega), m2]; exact (t3 k k0 k1).1⟩
    obtain ⟨r, C', M', b1, b2, b3, b4, b5, b6⟩ := e_loop tb hq (D 2 1 - 0).toNat zF zF 0 0 C0 (stm M0 144 20 0) (Nat.le_refl _) (zF_pos (by omega)) (zF_pos (by omega)) (by decide) t0 (by decide) (by decide) tc tm a2 (stm_eq ⟨rfl, rfl⟩)
    refine ⟨r, C', M', ?_, ?_, fun c j x y => by rw [b3 c j x y, c2 c j x y], fun c j x => by rw [b4 c j x, a3 c j x], b5, b6⟩
    · unfold f_Scribe_placeOfFault
      rw [c1, zb_some, b1]
    · unfold f_Model_readAll
      rw [a1, zb_some]
      exact b2
  obtain ⟨r, D1, -, x1, -, x3, -, x5, -⟩ := run D (fun _ => rfl) (fun _ => rfl)
  refine ⟨r, D1, x1, x3, x5, fun M m1 m2 => ?_⟩
  obtain ⟨r', D1', D2, y1, y2, y3, y4, y5, y6⟩ := run M m1 m2
  rw [x1] at y1
  injection y1 with y1
  injection y1 with e1 e2
  subst e1
  subst e2
  exact ⟨D2, y2, y4, y6⟩
theorem q_fault {D : Mm} (h : Iv D) : EqMM (f_Main_fault D) f_Model_fault := by
  have hl := h.2.1
  have hq : D 1 8 = 32 ∨ D 1 8 = 69 := by rcases hl with h | h <;> simp [h.2]
  obtain ⟨r, D1, a1, a2, -, a3⟩ := e_reads h
  obtain ⟨D2, b1, b2, -⟩ := a3 D1 (fun j => a2 144 j (by omega) (by omega)) (fun j => a2 145 j (by omega) (by omega))
  refine ⟨r, D1, D2, ?_, ?_, ?_⟩
  · unfold f_Main_fault
    rw [if_pos hq, a1, zb_some]
  · unfold f_Model_fault
    rw [b1, zb_some]
  · refine h.cong (fun a i hr => ?_)
    unfold Rel Bk0 at hr
    rw [b2 a i (by unfold Mz; omega), a2 a i (by omega) (by omega)]

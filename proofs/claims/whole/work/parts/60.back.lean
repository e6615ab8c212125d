theorem q_keep {D : Mm} (h : Iv D) : EqMM (f_Main_keep D) f_Model_keep := by
  have hh := h
  have hq := h.q
  obtain ⟨h1, h2, h3, h4, h5, h6⟩ := h
  unfold f_Main_keep
  by_cases c : D 1 6 < 2
  · have g : 0 ≤ D 1 6 ∧ D 1 6 < 2 := by omega
    rw [if_pos ((zI_lt (by omega) (by omega) (by omega) (by omega)).mpr c), if_pos g]
    obtain ⟨E, e1, e2, e3, ⟨e4, e5, e6⟩, e7⟩ := e_cf (a := 106 + 19 * D 1 6) (b := 12) (by omega) D
    have k6 : E 1 6 = D 1 6 := e7 _ _ (by omega)
    rw [e1]
    generalize hD2 : stm (stm E 1 6 (D 1 6 + 1)) 144 19 (D 1 6 + 1) = D2
    obtain ⟨G, g1, g2, g3, g4, g5, g6⟩ := e_copy (a := 0) (b := D 1 6 + 1) (by omega) (by omega) (by omega) D2
    have o2 : ∀ c j, (c ≠ 1 ∨ j ≠ 6) → (c ≠ 144 ∨ j ≠ 19) → D2 c j = E c j := fun c j x y => by rw [← hD2, stm_ne y, stm_ne x]
    have og : ∀ c j, ¬ (106 + 19 * D 1 6 ≤ c ∧ c ≤ 106 + 19 * D 1 6 + 18) → (c ≠ 1 ∨ j ≠ 6) → (c ≠ 144 ∨ j ≠ 19) → ¬ (c = 159 ∧ 60 * (D 1 6 + 1) ≤ j ∧ j < 60 * (D 1 6 + 1) + 60) → ¬ (c = 160 ∧ 10 * (D 1 6 + 1) ≤ j ∧ j < 10 * (D 1 6 + 1) + 10) → ¬ (c = 161 ∧ 36 * (D 1 6 + 1) ≤ j ∧ j < 36 * (D 1 6 + 1) + 36) → ¬ (c = 162 ∧ j = D 1 6 + 1) → G c j = D c j := fun c j x1 x2 x3 x4 x5 x6 x7 => by rw [g6 c j x4 x5 x6 x7, o2 c j x2 x3, e7 c j x1]
    have G16 : G 1 6 = D 1 6 + 1 := by rw [g6 _ _ (by omega) (by omega) (by omega) (by omega), ← hD2, stm_ne (by omega), stm_eq (by omega)]
    have G19 : G 144 19 = D 1 6 + 1 := by rw [g6 _ _ (by omega) (by omega) (by omega) (by omega), ← hD2, stm_eq (by omega)]
    have G17 : G 1 7 = D 1 7 := og _ _ (by omega) (by omega) (by omega) (by omega) (by omega) (by omega) (by omega)
    have G18 : G 1 8 = D 1 8 := og _ _ (by omega) (by omega) (by omega) (by omega) (by omega) (by omega) (by omega)
    have Gq1 : G (D 1 7) 1 = D (D 1 7) 1 := og _ _ (by omega) (by omega) (by omega) (by omega) (by omega) (by omega) (by omega)
    refine ⟨D 1 6 + 1, stm E 1 6 (D 1 6 + 1), G, ?_, ?_, ?_⟩
    · show some (stm E 1 6 (E 1 6 + 1) 1 6, stm E 1 6 (E 1 6 + 1)) = _
      rw [stm_eq ⟨rfl, rfl⟩, k6]
    · unfold f_Model_keep
      have x1 : stm E 1 6 (D 1 6 + 1) 144 19 = D 1 6 := by rw [stm_ne (by omega), e7 _ _ (by omega), h5.2.2]
      rw [x1, if_neg (fun q => by have := (zI_eq (by omega) (by omega) (by omega) (by omega)).mp q; omega)]
      simp only [zst]
      have x2 : stm (stm E 1 6 (D 1 6 + 1)) 144 19 (D 1 6 + 1) 144 19 = D 1 6 + 1 := stm_eq ⟨rfl, rfl⟩
      rw [x2, hD2, g1]
      show some (G 144 19, G) = _
      rw [G19]
    · refine ⟨?_, ?_, ?_, ?_, ?_, ?_⟩
      · exact h1.cong (og _ _ (by omega) (by omega) (by omega) (by omega) (by omega) (by omega) (by omega)) (fun i => og _ _ (by omega) (by omega) (by omega) (by omega) (by omega) (by omega) (by omega)) (og _ _ (by omega) (by omega) (by omega) (by omega) (by omega) (by omega) (by omega)) (fun i => og _ _ (by omega) (by omega) (by omega) (by omega) (by omega) (by omega) (by omega))
      · rw [G17, G18]; exact h2
      · rw [G17]
        exact h3.cong (fun a i x y => og a i (by omega) (by omega) (by omega) (by omega) (by omega) (by omega) (by omega)) (fun a i x => by unfold Bk0 at x; exact og a i (by omega) (by omega) (by omega) (by omega) (by omega) (by omega) (by omega))
      · rw [G17, Gq1]
        exact h4.cong (fun a i x y => og a i (by omega) (by omega) (by omega) (by omega) (by omega) (by omega) (by omega)) (fun i _ _ => og _ _ (by omega) (by omega) (by omega) (by omega) (by omega) (by omega) (by omega)) (fun i _ _ => og _ _ (by omega) (by omega) (by omega) (by omega) (by omega) (by omega) (by omega)) (fun i _ _ => og _ _ (by omega) (by omega) (by omega) (by omega) (by omega) (by omega) (by omega)) (og _ _ (by omega) (by omega) (by omega) (by omega) (by omega) (by omega) (by omega))
      · rw [G16, G19, og 9 0 (by omega) (by omega) (by omega) (by omega) (by omega) (by omega) (by omega)]; exact ⟨by omega, by omega, rfl⟩
      · rw [G16, G17, Gq1]
        intro i i0 i1
        by_cases hi : i = D 1 6
        · subst hi
          have oc : ∀ c j, 106 + 19 * D 1 6 ≤ c → c ≤ 106 + 19 * D 1 6 + 18 → G c j = E c j := fun c j x y => by rw [g6 _ _ (by omega) (by omega) (by omega) (by omega), o2 _ _ (by omega) (by omega)]
          have om : ∀ c j, 159 ≤ c → c ≤ 162 → D2 c j = D c j := fun c j x y => by rw [o2 _ _ (by omega) (by omega), e7 _ _ (by omega)]
          obtain ⟨a1, a2, a3, a4, a5, a6⟩ := h4
          refine ⟨fun f s x1 x2 x3 x4 => ?_, ?_, fun f x1 x2 => ?_, fun s t x1 x2 x3 x4 => ?_, ?_, ?_⟩
          · rw [g2 _ (by omega) (by omega), om _ _ (by omega) (by omega), oc _ _ (by omega) (by omega), e2 f s x1 x2 x3 x4, Int.mul_zero, Int.zero_add]
            exact a1 f s x1 x2 x3 x4
          · rw [oc _ _ (by omega) (by omega), e4]; exact a2
          · rw [g3 _ (by omega) (by omega), om _ _ (by omega) (by omega), oc _ _ (by omega) (by omega), e4, Int.mul_zero, Int.zero_add]; exact a3 f x1 x2
          · rw [g4 _ (by omega) (by omega), om _ _ (by omega) (by omega), oc _ _ (by omega) (by omega), oc _ 3 (by omega) (by omega), e3 s t x1 x2 x3 x4, e5, Int.mul_zero, Int.zero_add]; exact a4 s t x1 x2 x3 x4
          · rw [oc _ 3 (by omega) (by omega), e5, zsum_cong (g := fun k => D 161 k) 36 (fun k k0 k1 => by rw [g4 k k0 (by omega), om _ _ (by omega) (by omega), Int.mul_zero, Int.zero_add])]; exact a5
          · rw [g5, om _ _ (by omega) (by omega), oc _ 4 (by omega) (by omega), e6]; exact a6
        · exact (h6 i i0 (by omega)).cong (fun a j x y => og a j (by omega) (by omega) (by omega) (by omega) (by omega) (by omega) (by omega)) (fun j x y => og _ _ (by omega) (by omega) (by omega) (by omega) (by omega) (by omega) (by omega)) (fun j _ _ => og _ _ (by omega) (by omega) (by omega) (by omega) (by omega) (by omega) (by omega)) (fun j _ _ => og _ _ (by omega) (by omega) (by omega) (by omega) (by omega) (by omega) (by omega)) (og _ _ (by omega) (by omega) (by omega) (by omega) (by omega) (by omega) (by omega))
  · rw [if_neg (fun q => c ((zI_lt (by omega) (by omega) (by omega) (by omega)).mp q))]
    refine ⟨-3, D, D, rfl, ?_, hh⟩
    unfold f_Model_keep
    rw [h5.2.2, if_pos ((zI_eq (by omega) (by omega) (by omega) (by omega)).mpr (by omega))]
theorem q_back {D : Mm} (h : Iv D) : EqMM (f_Main_back D) f_Model_back := by
  have hh := h
  have hq := h.q
  obtain ⟨h1, h2, h3, h4, h5, h6⟩ := h
  unfold f_Main_back
  by_cases c : D 1 6 = 0
  · rw [if_pos ((zI_eq0 (by omega) (by omega)).mpr c)]
    refine ⟨-2, D, D, rfl, ?_, hh⟩
    unfold f_Model_back
    rw [h5.2.2, if_pos ((zI_eq0 (by omega) (by omega)).mpr c)]
  · rw [if_neg (fun q => c ((zI_eq0 (by omega) (by omega)).mp q))]
    simp only [zst]
    have x1 : stm D 1 6 (D 1 6 - 1) 1 6 = D 1 6 - 1 := stm_eq ⟨rfl, rfl⟩
    have g : 0 ≤ D 1 6 - 1 ∧ D 1 6 - 1 < 2 := by omega
    rw [x1, if_pos g]
    obtain ⟨E, e1, e2, e3, ⟨e4, e5, e6⟩, e7⟩ := e_cf (a := 12) (b := 106 + 19 * (D 1 6 - 1)) (by omega) (stm D 1 6 (D 1 6 - 1))
    rw [e1]
    obtain ⟨G, g1, g2, g3, g4, g5, g6⟩ := e_copy (a := D 1 6) (b := 0) (by omega) (by omega) c E
    have oE : ∀ c j, ¬ (12 ≤ c ∧ c ≤ 30) → (c ≠ 1 ∨ j ≠ 6) → E c j = D c j := fun c j x y => by rw [e7 c j (by omega), stm_ne y]
    have E16 : E 1 6 = D 1 6 - 1 := by rw [e7 _ _ (by omega), x1]
    generalize hW : stm G 144 19 (D 1 6 - 1) = W
    have oW : ∀ c j, (c ≠ 144 ∨ j ≠ 19) → W c j = G c j := fun c j x => by rw [← hW, stm_ne x]
    have og : ∀ c j, ¬ (12 ≤ c ∧ c ≤ 30) → (c ≠ 1 ∨ j ≠ 6) → (c ≠ 144 ∨ j ≠ 19) → ¬ (c = 159 ∧ 0 ≤ j ∧ j < 60) → ¬ (c = 160 ∧ 0 ≤ j ∧ j < 10) → ¬ (c = 161 ∧ 0 ≤ j ∧ j < 36) → ¬ (c = 162 ∧ j = 0) → W c j = D c j := fun c j x1 x2 x3 x4 x5 x6 x7 => by rw [oW c j x3, g6 c j (by omega) (by omega) (by omega) (by omega), oE c j x1 x2]
    have W16 : W 1 6 = D 1 6 - 1 := by rw [oW _ _ (by omega), g6 _ _ (by omega) (by omega) (by omega) (by omega), E16]
    have W19 : W 144 19 = D 1 6 - 1 := by rw [← hW, stm_eq ⟨rfl, rfl⟩]
    have W17 : W 1 7 = D 1 7 := og _ _ (by omega) (by omega) (by omega) (by omega) (by omega) (by omega) (by omega)
    have W18 : W 1 8 = D 1 8 := og _ _ (by omega) (by omega) (by omega) (by omega) (by omega) (by omega) (by omega)
    have Wq1 : W (D 1 7) 1 = D (D 1 7) 1 := og _ _ (by omega) (by omega) (by omega) (by omega) (by omega) (by omega) (by omega)
    refine ⟨D 1 6 - 1, E, W, ?_, ?_, ?_⟩
    · show some (E 1 6, E) = _
      rw [E16]
    · unfold f_Model_back
      have x2 : E 144 19 = D 1 6 := by rw [oE _ _ (by omega) (by omega), h5.2.2]
      rw [x2, if_neg (fun q => c ((zI_eq0 (by omega) (by omega)).mp q)), g1]
      show some (stm G 144 19 (G 144 19 - 1) 144 19, stm G 144 19 (G 144 19 - 1)) = _
      rw [stm_eq ⟨rfl, rfl⟩, g6 144 19 (by omega) (by omega) (by omega) (by omega), x2, hW]
    · refine ⟨?_, ?_, ?_, ?_, ?_, ?_⟩
      · exact h1.cong (og _ _ (by omega) (by omega) (by omega) (by omega) (by omega) (by omega) (by omega)) (fun i => og _ _ (by omega) (by omega) (by omega) (by omega) (by omega) (by omega) (by omega)) (og _ _ (by omega) (by omega) (by omega) (by omega) (by omega) (by omega) (by omega)) (fun i => og _ _ (by omega) (by omega) (by omega) (by omega) (by omega) (by omega) (by omega))
      · rw [W17, W18]; exact h2
      · rw [W17]
        exact h3.cong (fun a i x y => og a i (by omega) (by omega) (by omega) (by omega) (by omega) (by omega) (by omega)) (fun a i x => by unfold Bk0 at x; exact og a i (by omega) (by omega) (by omega) (by omega) (by omega) (by omega) (by omega))
      · rw [W17, Wq1]
        obtain ⟨a1, a2, a3, a4, a5, a6⟩ := h6 (D 1 6 - 1) (by omega) (by omega)
        have oc : ∀ c j, 12 ≤ c → c ≤ 30 → W c j = E c j := fun c j x y => by rw [oW _ _ (by omega), g6 _ _ (by omega) (by omega) (by omega) (by omega)]
        have om : ∀ c j, 159 ≤ c → c ≤ 162 → E c j = D c j := fun c j x y => oE _ _ (by omega) (by omega)
        have os : ∀ c j, 106 ≤ c → stm D 1 6 (D 1 6 - 1) c j = D c j := fun c j x => stm_ne (by omega)
        have ek : D 1 6 - 1 + 1 = D 1 6 := by omega
        rw [ek] at a1 a3 a4 a5 a6
        have g2' : ∀ k, 0 ≤ k → k < 60 → W 159 k = D 159 (60 * D 1 6 + k) := fun k k0 k1 => by
          have := g2 k k0 k1
          rw [Int.mul_zero, Int.zero_add] at this
          rw [oW _ _ (by omega), this, om _ _ (by omega) (by omega)]
        have g3' : ∀ k, 0 ≤ k → k < 10 → W 160 k = D 160 (10 * D 1 6 + k) := fun k k0 k1 => by
          have := g3 k k0 k1
          rw [Int.mul_zero, Int.zero_add] at this
          rw [oW _ _ (by omega), this, om _ _ (by omega) (by omega)]
        have g4' : ∀ k, 0 ≤ k → k < 36 → W 161 k = D 161 (36 * D 1 6 + k) := fun k k0 k1 => by
          have := g4 k k0 k1
          rw [Int.mul_zero, Int.zero_add] at this
          rw [oW _ _ (by omega), this, om _ _ (by omega) (by omega)]
        refine ⟨fun f s x1 x2 x3 x4 => ?_, ?_, fun f x1 x2 => ?_, fun s t x1 x2 x3 x4 => ?_, ?_, ?_⟩
        · rw [g2' _ (by omega) (by omega), oc _ _ (by omega) (by omega), e2 f s x1 x2 x3 x4, os _ _ (by omega)]; exact a1 f s x1 x2 x3 x4
        · rw [oc _ _ (by omega) (by omega), e4, os _ _ (by omega)]; exact a2
        · rw [g3' _ x1 x2, oc _ _ (by omega) (by omega), e4, os _ _ (by omega)]; exact a3 f x1 x2
        · rw [g4' _ (by omega) (by omega), oc (12 + 13 + s) _ (by omega) (by omega), oc 12 3 (by omega) (by omega), e3 s t x1 x2 x3 x4, e5, os _ _ (by omega), os _ _ (by omega)]; exact a4 s t x1 x2 x3 x4
        · rw [oc 12 3 (by omega) (by omega), e5, os _ _ (by omega), zsum_cong (g := fun k => D 161 (36 * D 1 6 + k)) 36 (fun k k0 k1 => g4' k k0 (by omega))]; exact a5
        · rw [oW _ _ (by omega), g5, om _ _ (by omega) (by omega), oc 12 4 (by omega) (by omega), e6, os _ _ (by omega)]; exact a6
      · rw [W16, W19, og 9 0 (by omega) (by omega) (by omega) (by omega) (by omega) (by omega) (by omega)]; exact ⟨by omega, by omega, rfl⟩
      · rw [W16, W17, Wq1]
        intro i i0 i1
        exact (h6 i i0 (by omega)).cong (fun a j x y => og a j (by omega) (by omega) (by omega) (by omega) (by omega) (by omega) (by omega)) (fun j x y => og _ _ (by omega) (by omega) (by omega) (by omega) (by omega) (by omega) (by omega)) (fun j _ _ => og _ _ (by omega) (by omega) (by omega) (by omega) (by omega) (by omega) (by omega)) (fun j _ _ => og _ _ (by omega) (by omega) (by omega) (by omega) (by omega) (by omega) (by omega)) (og _ _ (by omega) (by omega) (by omega) (by omega) (by omega) (by omega) (by omega))

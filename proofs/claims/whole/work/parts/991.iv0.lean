theorem mB_z {c j : Int} (h : ¬ (c = 1 ∧ (j = 7 ∨ j = 8)) ∧ ¬ (c = 34 ∧ j = 0) ∧ ¬ (c = 32 ∧ (j = 0 ∨ j = 1)) ∧ ¬ (c = 42 ∧ j = 0)) : mB c j = 0 := by
  unfold mB mA
  rw [stm_ne (by omega), stm_ne (by omega), stm_ne (by omega), stm_ne (by omega), stm_ne (by omega), stm_ne (by omega)]
  rfl
theorem iv_0 : ∃ D1, f_Model_noStones 0 mB = some (0, D1) ∧ Iv (mF D1) := by
  obtain ⟨D1, n1, n2, n3, n4, n5, n6, n7⟩ := e_ns (b := 0) (by decide) (by decide) mB
  refine ⟨D1, n1, ?_⟩
  have hD : ∀ c j, c < 144 → D1 c j = mB c j := fun c j h => n7 c j (by omega) (by omega) (by omega) (by omega) (by omega)
  have hM : ∀ c j, ¬ (c = 146 ∧ j = 0) → ¬ (c = 147 ∧ j = 0) → ¬ (c = 148 ∧ j = 0) → ¬ (c = 151 ∧ j = 0) → mF D1 c j = D1 c j := fun c j a b c' d => by
    unfold mF
    rw [stm_ne (by omega), stm_ne (by omega), stm_ne (by omega), stm_ne (by omega)]
  have v146 : mF D1 146 0 = 1 := by unfold mF; rw [stm_ne (by omega), stm_ne (by omega), stm_ne (by omega), stm_eq ⟨rfl, rfl⟩]
  have v147 : mF D1 147 0 = 100 := by unfold mF; rw [stm_ne (by omega), stm_ne (by omega), stm_eq ⟨rfl, rfl⟩]
  have v148 : mF D1 148 0 = 1 := by unfold mF; rw [stm_ne (by omega), stm_eq ⟨rfl, rfl⟩]
  have v151 : mF D1 151 0 = 1 := by unfold mF; rw [stm_eq ⟨rfl, rfl⟩]
  have cM : ∀ c j, c < 144 → mF D1 c j = mB c j := fun c j h => by rw [hM c j (by omega) (by omega) (by omega) (by omega), hD c j h]
  have v17 : mF D1 1 7 = 32 := by rw [cM _ _ (by decide)]; decide +kernel
  have v18 : mF D1 1 8 = 69 := by rw [cM _ _ (by decide)]; decide +kernel
  have v340 : mF D1 34 0 = 100 := by rw [cM _ _ (by decide)]; decide +kernel
  have v320 : mF D1 32 0 = 1 := by rw [cM _ _ (by decide)]; decide +kernel
  have v321 : mF D1 32 1 = 1 := by rw [cM _ _ (by decide)]; decide +kernel
  have v420 : mF D1 42 0 = 1 := by rw [cM _ _ (by decide)]; decide +kernel
  have z1 : ∀ c j, c < 144 → ¬ (c = 1 ∧ (j = 7 ∨ j = 8)) ∧ ¬ (c = 34 ∧ j = 0) ∧ ¬ (c = 32 ∧ (j = 0 ∨ j = 1)) ∧ ¬ (c = 42 ∧ j = 0) → mF D1 c j = 0 := fun c j h g => by rw [cM c j h]; exact mB_z g
  have z2 : ∀ c j, 144 ≤ c → ¬ (146 ≤ c ∧ c ≤ 158) → mF D1 c j = 0 := fun c j h g => by
    rw [hM c j (by omega) (by omega) (by omega) (by omega), n7 c j (by omega) (by omega) (by omega) (by omega) (by omega)]
    exact mB_z (by omega)
  have z3 : ∀ c j, c = 147 ∨ (149 ≤ c ∧ c ≤ 152) → ¬ ((c = 147 ∨ c = 151) ∧ j = 0) → mF D1 c j = 0 := fun c j h g => by
    rw [hM c j (by omega) (by omega) (by omega) (by omega), n7 c j (by omega) (by omega) (by omega) (by omega) (by omega)]
    exact mB_z (by omega)
  have z4 : ∀ k, 0 ≤ k → k < 60 → mF D1 153 k = 0 := fun k k0 k1 => by
    have := n3 k k0 k1
    rw [show (60 : Int) * 0 + k = k by omega] at this
    rw [hM _ _ (by omega) (by omega) (by omega) (by omega), this]
  have z5 : ∀ k, 0 ≤ k → k < 24 → mF D1 154 k = 0 := fun k k0 k1 => by
    have := n4 k k0 k1
    rw [show (24 : Int) * 0 + k = k by omega] at this
    rw [hM _ _ (by omega) (by omega) (by omega) (by omega), this]
  have z6 : ∀ k, 0 ≤ k → k < 4 → mF D1 155 k = 0 ∧ mF D1 156 k = 0 ∧ mF D1 157 k = 0 := fun k k0 k1 => by
    have := n5 k k0 k1
    rw [show (4 : Int) * 0 + k = k by omega] at this
    rw [hM _ _ (by omega) (by omega) (by omega) (by omega), hM _ _ (by omega) (by omega) (by omega) (by omega), hM _ _ (by omega) (by omega) (by omega) (by omega)]
    exact this
  have z7 : ∀ k, 0 ≤ k → k < 36 → mF D1 158 k = 0 := fun k k0 k1 => by
    have := n6 k k0 k1
    rw [show (36 : Int) * 0 + k = k by omega] at this
    rw [hM _ _ (by omega) (by omega) (by omega) (by omega), this]
  generalize mF D1 = M at *
  have bz : ∀ f : Int, 0 ≤ f → f < 32 → bitz 0 f = 0 := fun f f0 f1 => by
    rw [bitz_nn (by decide) (by decide) f0 f1, show (0 : Int).toNat = 0 from rfl, Nat.zero_div]
    rfl
  refine ⟨?_, ?_, ?_, ?_, ?_, fun i i0 i1 => ?_⟩
  · have t : M 2 1 = 0 := z1 _ _ (by decide) (by omega)
    have u : M 144 0 = 0 := z2 _ _ (by decide) (by omega)
    exact ⟨by omega, by omega, by omega, fun k k0 k1 => by omega⟩
  · exact Or.inl ⟨v17, v18⟩
  · rw [v17]
    have e11 : M 32 11 = 0 := z1 _ _ (by decide) (by omega)
    refine ⟨by omega, by omega, fun s w x1 x2 x3 x4 => ?_, fun f x1 x2 => ?_, fun f s x1 x2 x3 x4 => ?_, fun t s x1 x2 x3 x4 => ?_, fun t x1 x2 => ?_, by omega, fun s t x1 x2 x3 x4 => ?_, fun s x1 x2 => ?_⟩
    · obtain rfl : s = 0 := by omega
      by_cases c : w = 0
      · subst c
        show M 147 0 = M 34 0 ∧ 0 ≤ M 34 0 ∧ M 34 0 ≤ 100
        rw [v147, v340]
        decide
      · rw [z3 147 _ (by omega) (by omega), z1 _ w (by omega) (by omega)]
        decide
    · obtain rfl : f = 0 := by omega
      show (M 149 0 = M 40 0 ∧ 0 ≤ M 40 0 ∧ M 40 0 ≤ 7) ∧ (M 150 0 = M 41 0 ∧ 0 ≤ M 41 0 ∧ M 41 0 ≤ 3) ∧ (M 151 0 = M 42 0 ∧ 1 ≤ M 42 0 ∧ M 42 0 ≤ 9) ∧ (M 152 0 = M 43 0 ∧ 0 ≤ M 43 0 ∧ M 43 0 ≤ 15)
      rw [v151, v420, z3 149 0 (by omega) (by omega), z3 150 0 (by omega) (by omega), z3 152 0 (by omega) (by omega), z1 40 0 (by omega) (by omega), z1 41 0 (by omega) (by omega), z1 43 0 (by omega) (by omega)]
      decide
    · rw [z4 _ (by omega) (by omega), z1 _ s (by omega) (by omega)]
      decide
    · rw [z5 _ (by omega) (by omega), z1 _ s (by omega) (by omega)]
      decide
    · obtain ⟨a, b, d⟩ := z6 t x1 x2
      rw [a, b, d, z1 (32 + 28) t (by omega) (by omega), z1 (32 + 29) t (by omega) (by omega), e11, bz t x1 (by omega)]
      decide
    · rw [z7 _ (by omega) (by omega), z1 _ t (by omega) (by omega)]
      decide
    · exact z1 _ s (by omega) (by omega)
  · have e2 : M 12 2 = 0 := z1 _ _ (by decide) (by omega)
    have e3 : M 12 3 = 0 := z1 _ _ (by decide) (by omega)
    have e4 : M 12 4 = 0 := z1 _ _ (by decide) (by omega)
    refine ⟨fun f s x1 x2 x3 x4 => ?_, by omega, fun f x1 x2 => ?_, fun s t x1 x2 x3 x4 => ?_, ⟨?_, by omega, by omega⟩, ?_⟩
    · rw [z2 159 _ (by decide) (by omega), z1 _ s (by omega) (by omega)]
      decide
    · rw [z2 160 _ (by decide) (by omega), e2, bz f x1 (by omega)]
      exact ⟨rfl, fun _ => rfl⟩
    · rw [z2 161 _ (by decide) (by omega), z1 _ t (by omega) (by omega), e3]
      decide
    · rw [e3]
      exact zsum_0 36 (fun k k0 k1 => z2 161 k (by decide) (by omega))
    · rw [z2 162 0 (by decide) (by omega), e4]
      decide
  · rw [z1 1 6 (by decide) (by omega), z1 9 0 (by decide) (by omega), z2 144 19 (by decide) (by omega)]
    decide
  · rw [z1 1 6 (by decide) (by omega)] at i1
    omega

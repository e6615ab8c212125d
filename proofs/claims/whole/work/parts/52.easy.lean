theorem bnd_if {α : Type} {c : Prop} {inst : Decidable c} {A B : Option α} : ((some (@ite _ c inst (1 : Int) 0)).bind fun r => if zI r = 0 then A else B) = @ite _ c inst B A := by
  by_cases h : c
  · rw [if_pos h, if_pos h, Option.bind_some, if_neg (by decide +kernel)]
  · rw [if_neg h, if_neg h, Option.bind_some, if_pos (by decide +kernel)]
theorem b01 {c : Prop} {inst : Decidable c} : ((some (@ite _ c inst (1 : Int) 0)).bind fun r => if r = 0 ∨ r = 1 then some r else none) = some (@ite _ c inst (1 : Int) 0) := by
  by_cases h : c
  · rw [if_pos h, Option.bind_some, if_pos (Or.inr rfl)]
  · rw [if_neg h, Option.bind_some, if_pos (Or.inl rfl)]
theorem ite_iff {α : Type} {c d : Prop} {i1 : Decidable c} {i2 : Decidable d} {a b : α} (h : c ↔ d) : @ite _ c i1 a b = @ite _ d i2 a b := by
  by_cases hc : c
  · rw [if_pos hc, if_pos (h.mp hc)]
  · rw [if_neg hc, if_neg (fun q => hc (h.mpr q))]
theorem e_isSort {D : Mm} {v n : Int} (hv : Rg v) (hn : D 146 0 = n) (hp : 0 ≤ n ∧ n ≤ 6) : f_Model_isSort v D = some (if 0 ≤ v ∧ v < n then 1 else 0) := by
  unfold f_Model_isSort
  have hv2 := hv
  unfold Rg at hv2
  rw [hn, wI_id hv.1 hv.2, wI_id (by omega) (by omega), e_in hv ⟨by decide, by decide⟩ ⟨by omega, by omega⟩, b01]
  exact congrArg some (ite_iff (by omega))
theorem e_isFace {D : Mm} {v n : Int} (hv : Rg v) (hn : D 148 0 = n) (hp : 0 ≤ n ∧ n ≤ 10) : f_Model_isFace v D = some (if 0 ≤ v ∧ v < n then 1 else 0) := by
  unfold f_Model_isFace
  have hv2 := hv
  unfold Rg at hv2
  rw [hn, wI_id hv.1 hv.2, wI_id (by omega) (by omega), e_in hv ⟨by decide, by decide⟩ ⟨by omega, by omega⟩, b01]
  exact congrArg some (ite_iff (by omega))
theorem e_isRead (D : Mm) (a f : Int) : f_Finds_isRead a f D = some (bitz (D a 2) f) := by
  unfold f_Finds_isRead
  have h := bitz_01 (D a 2) f
  show (if zI (bitz (D a 2) f) = 0 then some (0 : Int) else some 1) = _
  rcases h with h | h
  · rw [h]; decide +kernel
  · rw [h]; decide +kernel
theorem e_has (D : Mm) (x t : Int) : f_Model_has x t D = some (bitz x t) := by
  unfold f_Model_has
  have h := bitz_01 x t
  show (if zI (bitz x t) = zI 1 then some (1 : Int) else some 0) = _
  rcases h with h | h
  · rw [h]; decide +kernel
  · rw [h]; decide +kernel
theorem e_isDoubt {v : Int} (hv : Rg v) (D : Mm) : f_Main_isDoubt v D = some (if 0 ≤ v ∧ v ≤ 99 then 1 else 0) := by
  unfold f_Main_isDoubt
  rw [e_within hv ⟨by decide, by decide⟩ ⟨by decide, by decide⟩, b01]
theorem q_face {D : Mm} (h : Iv D) {f w : Int} (hf : Rg f) (hw : Rg w) : Eq2 (f_Main_face f w D) (f_Model_face f w D) := by
  have hq := h.q
  obtain ⟨-, -, ⟨hs, hp, hwv, hfc, -⟩, hfl, -⟩ := h
  unfold f_Main_face f_Model_face
  simp only [hq, if_true]
  rw [e_hasPatch hf ⟨by omega, by omega⟩, bnd_if, e_isFace hf hp.2.2 ⟨by omega, by omega⟩, bnd_if, wI_id hw.1 hw.2, e_in hw ⟨by decide, by decide⟩ ⟨by decide, by decide⟩, bnd_if]
  have hw2 := hw
  unfold Rg at hw2
  have ez : ∀ k : Int, 0 ≤ k → k ≤ 4 → ((zI w = zI k) ↔ w = k) := fun k h1 h2 => zI_eq (by omega) (by omega) (by omega) (by omega)
  simp only [ez 0 (by decide) (by decide), ez 1 (by decide) (by decide), ez 2 (by decide) (by decide), ez 3 (by decide) (by decide), ez 4 (by decide) (by decide)]
  by_cases c : 0 ≤ f ∧ f < D (D 1 7) 1
  · obtain ⟨a1, a2, a3, a4⟩ := hfc f c.1 c.2
    obtain ⟨b1, -⟩ := hfl.2.2.1 f c.1 (by omega)
    rw [if_pos c, if_pos c]
    have g1 : 0 ≤ f ∧ f < 10 := by omega
    have g2 : 0 ≤ f ∧ f < 20 := by omega
    have g3 : 0 ≤ f ∧ f < 30 := by omega
    simp only [g1, g2, g3, and_self, if_true]
    by_cases w0 : w = 0
    · subst w0; simp only [if_true, Int.le_refl]; exact Eq2.mk2 a1.1.symm
    · by_cases w1 : w = 1
      · subst w1; simp only [if_true]; exact Eq2.mk2 a2.1.symm
      · by_cases w2 : w = 2
        · subst w2; simp only [if_true]; exact Eq2.mk2 a3.1.symm
        · by_cases w3 : w = 3
          · subst w3; simp only [if_true]; exact Eq2.mk2 a4.1.symm
          · by_cases w4 : w = 4
            · subst w4
              rw [e_isRead]
              simp only [if_true, Option.bind_some]
              rw [b1]
              rcases bitz_01 (D 12 2) f with e | e <;> rw [e] <;> exact ⟨_, rfl, rfl⟩
            · rw [if_neg w0, if_neg w1, if_neg w2, if_neg w3, if_neg w4, if_neg (by omega)]
              exact Eq2.rf
  · rw [if_neg c, if_neg c]
    exact Eq2.rf

theorem xz_rg (xs : Nat → Int32) (i : Int) : Rg (xz xs i) := ⟨(xs i.toNat).le_toInt, (xs i.toNat).toInt_lt⟩
theorem l_168 {xs : Nat → Int32} {L : Nat} {v3 : Int} {K : Int → Mm → Option Unit} {D : Mm} (h : Iv D) (v0 : 0 ≤ v3) (v1 : v3 + 7 ≤ (L : Int)) : ∃ D', Iv D' ∧ f_Law_law_168 xs L v3 K D = K (v3 + 7) D' := by
  have g1 : 0 ≤ v3 + 1 ∧ v3 + 1 < (L : Int) := by omega
  have g2 : 0 ≤ v3 + 2 ∧ v3 + 2 < (L : Int) := by omega
  have g3 : 0 ≤ v3 + 3 ∧ v3 + 3 < (L : Int) := by omega
  obtain ⟨r, D1, D2, e1, e2, e3⟩ := q_write (v := jlor (jlshl (wI (xz xs (v3 + 2))) 32) (jland (wI (xz xs (v3 + 3))) 4294967295)) h (xz_rg xs (v3 + 1))
  refine ⟨D2, e3, ?_⟩
  unfold f_Law_law_168
  simp only [if_pos g1, if_pos g2, if_pos g3, e1, e2, zb_some, ↓reduceIte]
  rfl
theorem l_231 {xs : Nat → Int32} {L : Nat} {v3 : Int} {K : Int → Mm → Option Unit} {D : Mm} (h : Iv D) (v0 : 0 ≤ v3) (v1 : v3 + 7 ≤ (L : Int)) : ∃ D', Iv D' ∧ f_Law_law_231 xs L v3 K D = K (v3 + 7) D' := by
  obtain ⟨r, D1, D2, e1, e2, e3⟩ := q_wipe h 
  refine ⟨D2, e3, ?_⟩
  unfold f_Law_law_231
  simp only [e1, e2, zb_some, ↓reduceIte]
  rfl
theorem l_244 {xs : Nat → Int32} {L : Nat} {v3 : Int} {K : Int → Mm → Option Unit} {D : Mm} (h : Iv D) (v0 : 0 ≤ v3) (v1 : v3 + 7 ≤ (L : Int)) : ∃ D', Iv D' ∧ f_Law_law_244 xs L v3 K D = K (v3 + 7) D' := by
  obtain ⟨r, D1, D2, e1, e2, e3⟩ := q_fault h 
  refine ⟨D2, e3, ?_⟩
  unfold f_Law_law_244
  simp only [e1, e2, zb_some, ↓reduceIte]
  rfl
theorem l_257 {xs : Nat → Int32} {L : Nat} {v3 : Int} {K : Int → Mm → Option Unit} {D : Mm} (h : Iv D) (v0 : 0 ≤ v3) (v1 : v3 + 7 ≤ (L : Int)) : ∃ D', Iv D' ∧ f_Law_law_257 xs L v3 K D = K (v3 + 7) D' := by
  obtain ⟨r, D1, D2, e1, e2, e3⟩ := q_lay h 
  refine ⟨D2, e3, ?_⟩
  unfold f_Law_law_257
  simp only [e1, e2, zb_some, ↓reduceIte]
  rfl
theorem l_270 {xs : Nat → Int32} {L : Nat} {v3 : Int} {K : Int → Mm → Option Unit} {D : Mm} (h : Iv D) (v0 : 0 ≤ v3) (v1 : v3 + 7 ≤ (L : Int)) : ∃ D', Iv D' ∧ f_Law_law_270 xs L v3 K D = K (v3 + 7) D' := by
  have g1 : 0 ≤ v3 + 1 ∧ v3 + 1 < (L : Int) := by omega
  have g2 : 0 ≤ v3 + 2 ∧ v3 + 2 < (L : Int) := by omega
  obtain ⟨r, e1, e2⟩ := q_face h (xz_rg xs (v3 + 1)) (xz_rg xs (v3 + 2))
  refine ⟨D, h, ?_⟩
  unfold f_Law_law_270
  simp only [if_pos g1, if_pos g2, e1, e2, Option.bind_some, ↓reduceIte]
  rfl
theorem l_303 {xs : Nat → Int32} {L : Nat} {v3 : Int} {K : Int → Mm → Option Unit} {D : Mm} (h : Iv D) (v0 : 0 ≤ v3) (v1 : v3 + 7 ≤ (L : Int)) : ∃ D', Iv D' ∧ f_Law_law_303 xs L v3 K D = K (v3 + 7) D' := by
  have g1 : 0 ≤ v3 + 1 ∧ v3 + 1 < (L : Int) := by omega
  have g2 : 0 ≤ v3 + 2 ∧ v3 + 2 < (L : Int) := by omega
  have g3 : 0 ≤ v3 + 3 ∧ v3 + 3 < (L : Int) := by omega
  obtain ⟨r, e1, e2⟩ := q_lies h (xz_rg xs (v3 + 1)) (xz_rg xs (v3 + 2)) (xz_rg xs (v3 + 3))
  refine ⟨D, h, ?_⟩
  unfold f_Law_law_303
  simp only [if_pos g1, if_pos g2, if_pos g3, e1, e2, Option.bind_some, ↓reduceIte]
  rfl
theorem l_346 {xs : Nat → Int32} {L : Nat} {v3 : Int} {K : Int → Mm → Option Unit} {D : Mm} (h : Iv D) (v0 : 0 ≤ v3) (v1 : v3 + 7 ≤ (L : Int)) : ∃ D', Iv D' ∧ f_Law_law_346 xs L v3 K D = K (v3 + 7) D' := by
  have g1 : 0 ≤ v3 + 1 ∧ v3 + 1 < (L : Int) := by omega
  have g2 : 0 ≤ v3 + 2 ∧ v3 + 2 < (L : Int) := by omega
  have g3 : 0 ≤ v3 + 3 ∧ v3 + 3 < (L : Int) := by omega
  obtain ⟨r, e1, e2⟩ := q_read h (xz_rg xs (v3 + 1)) (xz_rg xs (v3 + 2)) (xz_rg xs (v3 + 3))
  refine ⟨D, h, ?_⟩
  unfold f_Law_law_346
  simp only [if_pos g1, if_pos g2, if_pos g3, e1, e2, Option.bind_some, ↓reduceIte]
  rfl
theorem l_389 {xs : Nat → Int32} {L : Nat} {v3 : Int} {K : Int → Mm → Option Unit} {D : Mm} (h : Iv D) (v0 : 0 ≤ v3) (v1 : v3 + 7 ≤ (L : Int)) : ∃ D', Iv D' ∧ f_Law_law_389 xs L v3 K D = K (v3 + 7) D' := by
  have g1 : 0 ≤ v3 + 1 ∧ v3 + 1 < (L : Int) := by omega
  have g2 : 0 ≤ v3 + 2 ∧ v3 + 2 < (L : Int) := by omega
  have g3 : 0 ≤ v3 + 3 ∧ v3 + 3 < (L : Int) := by omega
  have g4 : 0 ≤ v3 + 4 ∧ v3 + 4 < (L : Int) := by omega
  have g5 : 0 ≤ v3 + 5 ∧ v3 + 5 < (L : Int) := by omega
  obtain ⟨r, e1, e2⟩ := q_more (D := D) (xz_rg xs (v3 + 1)) (xz_rg xs (v3 + 2)) (xz_rg xs (v3 + 3)) (xz_rg xs (v3 + 4)) (xz_rg xs (v3 + 5))
  refine ⟨D, h, ?_⟩
  unfold f_Law_law_389
  simp only [if_pos g1, if_pos g2, if_pos g3, if_pos g4, if_pos g5, e1, e2, Option.bind_some, ↓reduceIte]
  rfl
theorem l_453 {xs : Nat → Int32} {L : Nat} {v3 : Int} {K : Int → Mm → Option Unit} {D : Mm} (h : Iv D) (v0 : 0 ≤ v3) (v1 : v3 + 7 ≤ (L : Int)) : ∃ D', Iv D' ∧ f_Law_law_453 xs L v3 K D = K (v3 + 7) D' := by
  have g1 : 0 ≤ v3 + 1 ∧ v3 + 1 < (L : Int) := by omega
  have g2 : 0 ≤ v3 + 2 ∧ v3 + 2 < (L : Int) := by omega
  have g3 : 0 ≤ v3 + 3 ∧ v3 + 3 < (L : Int) := by omega
  obtain ⟨r, e1, e2⟩ := q_says (D := D) (xz_rg xs (v3 + 1)) (xz_rg xs (v3 + 2)) (xz_rg xs (v3 + 3))
  refine ⟨D, h, ?_⟩
  unfold f_Law_law_453
  simp only [if_pos g1, if_pos g2, if_pos g3, e1, e2, Option.bind_some, ↓reduceIte]
  rfl
theorem l_496 {xs : Nat → Int32} {L : Nat} {v3 : Int} {K : Int → Mm → Option Unit} {D : Mm} (h : Iv D) (v0 : 0 ≤ v3) (v1 : v3 + 7 ≤ (L : Int)) : ∃ D', Iv D' ∧ f_Law_law_496 xs L v3 K D = K (v3 + 7) D' := by
  have g1 : 0 ≤ v3 + 1 ∧ v3 + 1 < (L : Int) := by omega
  have g2 : 0 ≤ v3 + 2 ∧ v3 + 2 < (L : Int) := by omega
  have g3 : 0 ≤ v3 + 3 ∧ v3 + 3 < (L : Int) := by omega
  obtain ⟨r, e1, e2⟩ := q_controls (D := D) (xz_rg xs (v3 + 1)) (xz_rg xs (v3 + 2)) (xz_rg xs (v3 + 3))
  refine ⟨D, h, ?_⟩
  unfold f_Law_law_496
  simp only [if_pos g1, if_pos g2, if_pos g3, e1, e2, Option.bind_some, ↓reduceIte]
  rfl
theorem l_539 {xs : Nat → Int32} {L : Nat} {v3 : Int} {K : Int → Mm → Option Unit} {D : Mm} (h : Iv D) (v0 : 0 ≤ v3) (v1 : v3 + 7 ≤ (L : Int)) : ∃ D', Iv D' ∧ f_Law_law_539 xs L v3 K D = K (v3 + 7) D' := by
  have g1 : 0 ≤ v3 + 1 ∧ v3 + 1 < (L : Int) := by omega
  have g2 : 0 ≤ v3 + 2 ∧ v3 + 2 < (L : Int) := by omega
  have g3 : 0 ≤ v3 + 3 ∧ v3 + 3 < (L : Int) := by omega
  have g4 : 0 ≤ v3 + 4 ∧ v3 + 4 < (L : Int) := by omega
  have g5 : 0 ≤ v3 + 5 ∧ v3 + 5 < (L : Int) := by omega
  have g6 : 0 ≤ v3 + 6 ∧ v3 + 6 < (L : Int) := by omega
  obtain ⟨r, D1, D2, e1, e2, e3⟩ := q_heap h (xz_rg xs (v3 + 1)) (xz_rg xs (v3 + 2)) (xz_rg xs (v3 + 3)) (xz_rg xs (v3 + 4)) (xz_rg xs (v3 + 5)) (xz_rg xs (v3 + 6))
  refine ⟨D2, e3, ?_⟩
  unfold f_Law_law_539
  simp only [if_pos g1, if_pos g2, if_pos g3, if_pos g4, if_pos g5, if_pos g6, e1, e2, zb_some, ↓reduceIte]
  rfl
theorem l_615 {xs : Nat → Int32} {L : Nat} {v3 : Int} {K : Int → Mm → Option Unit} {D : Mm} (h : Iv D) (v0 : 0 ≤ v3) (v1 : v3 + 7 ≤ (L : Int)) : ∃ D', Iv D' ∧ f_Law_law_615 xs L v3 K D = K (v3 + 7) D' := by
  have g1 : 0 ≤ v3 + 1 ∧ v3 + 1 < (L : Int) := by omega
  have g2 : 0 ≤ v3 + 2 ∧ v3 + 2 < (L : Int) := by omega
  have g3 : 0 ≤ v3 + 3 ∧ v3 + 3 < (L : Int) := by omega
  have g4 : 0 ≤ v3 + 4 ∧ v3 + 4 < (L : Int) := by omega
  obtain ⟨r, D1, D2, e1, e2, e3⟩ := q_most h (xz_rg xs (v3 + 1)) (xz_rg xs (v3 + 2)) (xz_rg xs (v3 + 3)) (xz_rg xs (v3 + 4))
  refine ⟨D2, e3, ?_⟩
  unfold f_Law_law_615
  simp only [if_pos g1, if_pos g2, if_pos g3, if_pos g4, e1, e2, zb_some, ↓reduceIte]
  rfl
theorem l_668 {xs : Nat → Int32} {L : Nat} {v3 : Int} {K : Int → Mm → Option Unit} {D : Mm} (h : Iv D) (v0 : 0 ≤ v3) (v1 : v3 + 7 ≤ (L : Int)) : ∃ D', Iv D' ∧ f_Law_law_668 xs L v3 K D = K (v3 + 7) D' := by
  have g1 : 0 ≤ v3 + 1 ∧ v3 + 1 < (L : Int) := by omega
  have g2 : 0 ≤ v3 + 2 ∧ v3 + 2 < (L : Int) := by omega
  have g3 : 0 ≤ v3 + 3 ∧ v3 + 3 < (L : Int) := by omega
  have g4 : 0 ≤ v3 + 4 ∧ v3 + 4 < (L : Int) := by omega
  have g5 : 0 ≤ v3 + 5 ∧ v3 + 5 < (L : Int) := by omega
  have g6 : 0 ≤ v3 + 6 ∧ v3 + 6 < (L : Int) := by omega
  obtain ⟨r, D1, D2, e1, e2, e3⟩ := q_shares h (xz_rg xs (v3 + 1)) (xz_rg xs (v3 + 2)) (xz_rg xs (v3 + 3)) (xz_rg xs (v3 + 4)) (xz_rg xs (v3 + 5)) (xz_rg xs (v3 + 6))
  refine ⟨D2, e3, ?_⟩
  unfold f_Law_law_668
  simp only [if_pos g1, if_pos g2, if_pos g3, if_pos g4, if_pos g5, if_pos g6, e1, e2, zb_some, ↓reduceIte]
  rfl
theorem l_743 {xs : Nat → Int32} {L : Nat} {v3 : Int} {K : Int → Mm → Option Unit} {D : Mm} (h : Iv D) (v0 : 0 ≤ v3) (v1 : v3 + 7 ≤ (L : Int)) : ∃ D', Iv D' ∧ f_Law_law_743 xs L v3 K D = K (v3 + 7) D' := by
  have g1 : 0 ≤ v3 + 1 ∧ v3 + 1 < (L : Int) := by omega
  have g2 : 0 ≤ v3 + 2 ∧ v3 + 2 < (L : Int) := by omega
  obtain ⟨r, D2, e1, e2, e3⟩ := q_kin h (xz_rg xs (v3 + 1)) (xz_rg xs (v3 + 2))
  refine ⟨D2, e3, ?_⟩
  unfold f_Law_law_743
  simp only [if_pos g1, if_pos g2, e1, e2, zb_some, Option.bind_some, ↓reduceIte]
  rfl
theorem l_776 {xs : Nat → Int32} {L : Nat} {v3 : Int} {K : Int → Mm → Option Unit} {D : Mm} (h : Iv D) (v0 : 0 ≤ v3) (v1 : v3 + 7 ≤ (L : Int)) : ∃ D', Iv D' ∧ f_Law_law_776 xs L v3 K D = K (v3 + 7) D' := by
  have g1 : 0 ≤ v3 + 1 ∧ v3 + 1 < (L : Int) := by omega
  have g2 : 0 ≤ v3 + 2 ∧ v3 + 2 < (L : Int) := by omega
  have g3 : 0 ≤ v3 + 3 ∧ v3 + 3 < (L : Int) := by omega
  obtain ⟨r, D2, e1, e2, e3⟩ := q_cooked h (xz_rg xs (v3 + 1)) (xz_rg xs (v3 + 2)) (xz_rg xs (v3 + 3))
  refine ⟨D2, e3, ?_⟩
  unfold f_Law_law_776
  simp only [if_pos g1, if_pos g2, if_pos g3, e1, e2, zb_some, Option.bind_some, ↓reduceIte]
  rfl
theorem l_819 {xs : Nat → Int32} {L : Nat} {v3 : Int} {K : Int → Mm → Option Unit} {D : Mm} (h : Iv D) (v0 : 0 ≤ v3) (v1 : v3 + 7 ≤ (L : Int)) : ∃ D', Iv D' ∧ f_Law_law_819 xs L v3 K D = K (v3 + 7) D' := by
  have g1 : 0 ≤ v3 + 1 ∧ v3 + 1 < (L : Int) := by omega
  have g2 : 0 ≤ v3 + 2 ∧ v3 + 2 < (L : Int) := by omega
  have g3 : 0 ≤ v3 + 3 ∧ v3 + 3 < (L : Int) := by omega
  obtain ⟨r, D1, D2, e1, e2, e3⟩ := q_count h (xz_rg xs (v3 + 1)) (xz_rg xs (v3 + 2)) (xz_rg xs (v3 + 3))
  refine ⟨D2, e3, ?_⟩
  unfold f_Law_law_819
  simp only [if_pos g1, if_pos g2, if_pos g3, e1, e2, zb_some, ↓reduceIte]
  rfl
theorem l_862 {xs : Nat → Int32} {L : Nat} {v3 : Int} {K : Int → Mm → Option Unit} {D : Mm} (h : Iv D) (v0 : 0 ≤ v3) (v1 : v3 + 7 ≤ (L : Int)) : ∃ D', Iv D' ∧ f_Law_law_862 xs L v3 K D = K (v3 + 7) D' := by
  have g1 : 0 ≤ v3 + 1 ∧ v3 + 1 < (L : Int) := by omega
  have g2 : 0 ≤ v3 + 2 ∧ v3 + 2 < (L : Int) := by omega
  have g3 : 0 ≤ v3 + 3 ∧ v3 + 3 < (L : Int) := by omega
  have g4 : 0 ≤ v3 + 4 ∧ v3 + 4 < (L : Int) := by omega
  unfold f_Law_law_862 f_Law_law_891 f_Law_law_923
  by_cases c : zI (xz xs (v3 + 4)) = 0
  · obtain ⟨r, D1, e1, e2, e3⟩ := q_books h (xz_rg xs (v3 + 1)) (xz_rg xs (v3 + 2)) (xz_rg xs (v3 + 3)) (show Rg 0 from ⟨by decide, by decide⟩)
    refine ⟨D1, e3, ?_⟩
    simp only [if_pos g1, if_pos g2, if_pos g3, if_pos g4, if_pos c, e1, e2, zb_some, Option.bind_some, ↓reduceIte]
    rfl
  · obtain ⟨r, D1, e1, e2, e3⟩ := q_books h (xz_rg xs (v3 + 1)) (xz_rg xs (v3 + 2)) (xz_rg xs (v3 + 3)) (show Rg 1 from ⟨by decide, by decide⟩)
    refine ⟨D1, e3, ?_⟩
    simp only [if_pos g1, if_pos g2, if_pos g3, if_pos g4, if_neg c, e1, e2, zb_some, Option.bind_some, ↓reduceIte]
    rfl
theorem l_931 {xs : Nat → Int32} {L : Nat} {v3 : Int} {K : Int → Mm → Option Unit} {D : Mm} (h : Iv D) (v0 : 0 ≤ v3) (v1 : v3 + 7 ≤ (L : Int)) : ∃ D', Iv D' ∧ f_Law_law_931 xs L v3 K D = K (v3 + 7) D' := by
  have g1 : 0 ≤ v3 + 1 ∧ v3 + 1 < (L : Int) := by omega
  have g2 : 0 ≤ v3 + 2 ∧ v3 + 2 < (L : Int) := by omega
  have g3 : 0 ≤ v3 + 3 ∧ v3 + 3 < (L : Int) := by omega
  have g4 : 0 ≤ v3 + 4 ∧ v3 + 4 < (L : Int) := by omega
  unfold f_Law_law_931 f_Law_law_960 f_Law_law_992
  by_cases c : zI (xz xs (v3 + 4)) = 0
  · obtain ⟨r, D1, e1, e2, e3⟩ := q_ground h (xz_rg xs (v3 + 1)) (xz_rg xs (v3 + 2)) (xz_rg xs (v3 + 3)) (show Rg 0 from ⟨by decide, by decide⟩)
    refine ⟨D1, e3, ?_⟩
    simp only [if_pos g1, if_pos g2, if_pos g3, if_pos g4, if_pos c, e1, e2, zb_some, Option.bind_some, ↓reduceIte]
    rfl
  · obtain ⟨r, D1, e1, e2, e3⟩ := q_ground h (xz_rg xs (v3 + 1)) (xz_rg xs (v3 + 2)) (xz_rg xs (v3 + 3)) (show Rg 1 from ⟨by decide, by decide⟩)
    refine ⟨D1, e3, ?_⟩
    simp only [if_pos g1, if_pos g2, if_pos g3, if_pos g4, if_neg c, e1, e2, zb_some, Option.bind_some, ↓reduceIte]
    rfl
theorem l_1000 {xs : Nat → Int32} {L : Nat} {v3 : Int} {K : Int → Mm → Option Unit} {D : Mm} (h : Iv D) (v0 : 0 ≤ v3) (v1 : v3 + 7 ≤ (L : Int)) : ∃ D', Iv D' ∧ f_Law_law_1000 xs L v3 K D = K (v3 + 7) D' := by
  have g1 : 0 ≤ v3 + 1 ∧ v3 + 1 < (L : Int) := by omega
  have g2 : 0 ≤ v3 + 2 ∧ v3 + 2 < (L : Int) := by omega
  obtain ⟨r, D1, e1, e2, e3⟩ := q_sure h (xz_rg xs (v3 + 1)) (xz_rg xs (v3 + 2))
  refine ⟨D1, e3, ?_⟩
  unfold f_Law_law_1000
  simp only [if_pos g1, if_pos g2, e1, e2, zb_some, Option.bind_some, ↓reduceIte]
  rfl
theorem l_1033 {xs : Nat → Int32} {L : Nat} {v3 : Int} {K : Int → Mm → Option Unit} {D : Mm} (h : Iv D) (v0 : 0 ≤ v3) (v1 : v3 + 7 ≤ (L : Int)) : ∃ D', Iv D' ∧ f_Law_law_1033 xs L v3 K D = K (v3 + 7) D' := by
  have g1 : 0 ≤ v3 + 1 ∧ v3 + 1 < (L : Int) := by omega
  have g2 : 0 ≤ v3 + 2 ∧ v3 + 2 < (L : Int) := by omega
  obtain ⟨r, e1, e2⟩ := q_leave h (xz_rg xs (v3 + 1)) (xz_rg xs (v3 + 2))
  refine ⟨D, h, ?_⟩
  unfold f_Law_law_1033
  simp only [if_pos g1, if_pos g2, e1, e2, Option.bind_some, ↓reduceIte]
  rfl
theorem l_1066 {xs : Nat → Int32} {L : Nat} {v3 : Int} {K : Int → Mm → Option Unit} {D : Mm} (h : Iv D) (v0 : 0 ≤ v3) (v1 : v3 + 7 ≤ (L : Int)) : ∃ D', Iv D' ∧ f_Law_law_1066 xs L v3 K D = K (v3 + 7) D' := by
  have g1 : 0 ≤ v3 + 1 ∧ v3 + 1 < (L : Int) := by omega
  have g2 : 0 ≤ v3 + 2 ∧ v3 + 2 < (L : Int) := by omega
  obtain ⟨r, D1, D2, e1, e2, e3⟩ := q_blind h (xz_rg xs (v3 + 1)) (xz_rg xs (v3 + 2))
  refine ⟨D2, e3, ?_⟩
  unfold f_Law_law_1066
  simp only [if_pos g1, if_pos g2, e1, e2, zb_some, ↓reduceIte]
  rfl
theorem l_1099 {xs : Nat → Int32} {L : Nat} {v3 : Int} {K : Int → Mm → Option Unit} {D : Mm} (h : Iv D) (v0 : 0 ≤ v3) (v1 : v3 + 7 ≤ (L : Int)) : ∃ D', Iv D' ∧ f_Law_law_1099 xs L v3 K D = K (v3 + 7) D' := by
  have g1 : 0 ≤ v3 + 1 ∧ v3 + 1 < (L : Int) := by omega
  have g2 : 0 ≤ v3 + 2 ∧ v3 + 2 < (L : Int) := by omega
  have g3 : 0 ≤ v3 + 3 ∧ v3 + 3 < (L : Int) := by omega
  obtain ⟨r, e1, e2⟩ := q_slips h (xz_rg xs (v3 + 1)) (xz_rg xs (v3 + 2)) (xz_rg xs (v3 + 3))
  refine ⟨D, h, ?_⟩
  unfold f_Law_law_1099
  simp only [if_pos g1, if_pos g2, if_pos g3, e1, e2, Option.bind_some, ↓reduceIte]
  rfl
theorem l_1142 {xs : Nat → Int32} {L : Nat} {v3 : Int} {K : Int → Mm → Option Unit} {D : Mm} (h : Iv D) (v0 : 0 ≤ v3) (v1 : v3 + 7 ≤ (L : Int)) : ∃ D', Iv D' ∧ f_Law_law_1142 xs L v3 K D = K (v3 + 7) D' := by
  have g1 : 0 ≤ v3 + 1 ∧ v3 + 1 < (L : Int) := by omega
  obtain ⟨r, e1, e2⟩ := q_lean h (xz_rg xs (v3 + 1))
  refine ⟨D, h, ?_⟩
  unfold f_Law_law_1142
  simp only [if_pos g1, e1, e2, Option.bind_some, ↓reduceIte]
  rfl
theorem l_1165 {xs : Nat → Int32} {L : Nat} {v3 : Int} {K : Int → Mm → Option Unit} {D : Mm} (h : Iv D) (v0 : 0 ≤ v3) (v1 : v3 + 7 ≤ (L : Int)) : ∃ D', Iv D' ∧ f_Law_law_1165 xs L v3 K D = K (v3 + 7) D' := by
  have g1 : 0 ≤ v3 + 1 ∧ v3 + 1 < (L : Int) := by omega
  have g2 : 0 ≤ v3 + 2 ∧ v3 + 2 < (L : Int) := by omega
  obtain ⟨r, e1, e2⟩ := q_right h (xz_rg xs (v3 + 1)) (xz_rg xs (v3 + 2))
  refine ⟨D, h, ?_⟩
  unfold f_Law_law_1165
  simp only [if_pos g1, if_pos g2, e1, e2, Option.bind_some, ↓reduceIte]
  rfl
theorem l_1198 {xs : Nat → Int32} {L : Nat} {v3 : Int} {K : Int → Mm → Option Unit} {D : Mm} (h : Iv D) (v0 : 0 ≤ v3) (v1 : v3 + 7 ≤ (L : Int)) : ∃ D', Iv D' ∧ f_Law_law_1198 xs L v3 K D = K (v3 + 7) D' := by
  have g1 : 0 ≤ v3 + 1 ∧ v3 + 1 < (L : Int) := by omega
  obtain ⟨r, D1, D2, e1, e2, e3⟩ := q_teeth h (xz_rg xs (v3 + 1))
  refine ⟨D2, e3, ?_⟩
  unfold f_Law_law_1198
  simp only [if_pos g1, e1, e2, zb_some, ↓reduceIte]
  rfl
theorem l_1221 {xs : Nat → Int32} {L : Nat} {v3 : Int} {K : Int → Mm → Option Unit} {D : Mm} (h : Iv D) (v0 : 0 ≤ v3) (v1 : v3 + 7 ≤ (L : Int)) : ∃ D', Iv D' ∧ f_Law_law_1221 xs L v3 K D = K (v3 + 7) D' := by
  have g1 : 0 ≤ v3 + 1 ∧ v3 + 1 < (L : Int) := by omega
  have g2 : 0 ≤ v3 + 2 ∧ v3 + 2 < (L : Int) := by omega
  obtain ⟨r, D1, e1, e2, e3⟩ := q_eaten h (xz_rg xs (v3 + 1)) (xz_rg xs (v3 + 2))
  refine ⟨D1, e3, ?_⟩
  unfold f_Law_law_1221
  simp only [if_pos g1, if_pos g2, e1, e2, zb_some, Option.bind_some, ↓reduceIte]
  rfl
theorem l_1254 {xs : Nat → Int32} {L : Nat} {v3 : Int} {K : Int → Mm → Option Unit} {D : Mm} (h : Iv D) (v0 : 0 ≤ v3) (v1 : v3 + 7 ≤ (L : Int)) : ∃ D', Iv D' ∧ f_Law_law_1254 xs L v3 K D = K (v3 + 7) D' := by
  obtain ⟨r, e1, e2⟩ := q_next h 
  refine ⟨D, h, ?_⟩
  unfold f_Law_law_1254
  simp only [e1, e2, Option.bind_some, ↓reduceIte]
  rfl
theorem l_1267 {xs : Nat → Int32} {L : Nat} {v3 : Int} {K : Int → Mm → Option Unit} {D : Mm} (h : Iv D) (v0 : 0 ≤ v3) (v1 : v3 + 7 ≤ (L : Int)) : ∃ D', Iv D' ∧ f_Law_law_1267 xs L v3 K D = K (v3 + 7) D' := by
  obtain ⟨r, D1, D2, e1, e2, e3⟩ := q_keep h 
  refine ⟨D2, e3, ?_⟩
  unfold f_Law_law_1267
  simp only [e1, e2, zb_some, ↓reduceIte]
  rfl
theorem l_1280 {xs : Nat → Int32} {L : Nat} {v3 : Int} {K : Int → Mm → Option Unit} {D : Mm} (h : Iv D) (v0 : 0 ≤ v3) (v1 : v3 + 7 ≤ (L : Int)) : ∃ D', Iv D' ∧ f_Law_law_1280 xs L v3 K D = K (v3 + 7) D' := by
  obtain ⟨r, D1, D2, e1, e2, e3⟩ := q_back h 
  refine ⟨D2, e3, ?_⟩
  unfold f_Law_law_1280
  simp only [e1, e2, zb_some, ↓reduceIte]
  rfl
theorem l_1293 {xs : Nat → Int32} {L : Nat} {v3 : Int} {K : Int → Mm → Option Unit} {D : Mm} (h : Iv D) (v0 : 0 ≤ v3) (v1 : v3 + 7 ≤ (L : Int)) : ∃ D', Iv D' ∧ f_Law_law_1293 xs L v3 K D = K (v3 + 7) D' := by
  have g1 : 0 ≤ v3 + 1 ∧ v3 + 1 < (L : Int) := by omega
  obtain ⟨r, e1, e2⟩ := q_size h (xz_rg xs (v3 + 1))
  refine ⟨D, h, ?_⟩
  unfold f_Law_law_1293
  simp only [if_pos g1, e1, e2, Option.bind_some, ↓reduceIte]
  rfl
theorem e_law {xs : Nat → Int32} {L : Nat} (hL : L ≤ 3584) : ∀ (k n : Nat) (v3 : Int) (D : Mm), ((L : Int) - v3).toNat ≤ k → k < n → 0 ≤ v3 → v3 ≤ 4000 → Iv D → f_Law_law_18 xs L n v3 D = some () := by
  intro k
  induction k with
  | zero =>
    intro n v3 D hk hn v0 v1 h
    obtain ⟨n, rfl⟩ : ∃ x, n = x + 1 := ⟨n - 1, by omega⟩
    rw [f_Law_law_18, zltY (by omega) (by omega) (by omega) (by omega) (by omega)]
  | succ k ih =>
    intro n v3 D hk hn v0 v1 h
    obtain ⟨n, rfl⟩ : ∃ x, n = x + 1 := ⟨n - 1, by omega⟩
    by_cases c : (L : Int) - 7 < v3
    · rw [f_Law_law_18, zltY c (by omega) (by omega) (by omega) (by omega)]
    · have v7 : v3 + 7 ≤ (L : Int) := by omega
      have fin : ∀ x : Option Unit, (∃ D', Iv D' ∧ x = f_Law_law_18 xs L n (v3 + 7) D') → x = some () := fun x ⟨D', h', e⟩ => by rw [e]; exact ih n (v3 + 7) D' (by omega) (by omega) (by omega) (by omega) h'
      rw [f_Law_law_18, zltN (by omega) (by omega) (by omega) (by omega) (by omega), if_pos (show 0 ≤ v3 ∧ v3 < (L : Int) by omega)]
      by_cases c0 : zI (jand (xz xs v3) 31) = zI 0
      · rw [if_pos c0]; exact fin _ (l_168 h v0 v7)
      rw [if_neg c0]
      by_cases c1 : zI (jand (xz xs v3) 31) = zI 1
      · rw [if_pos c1]; exact fin _ (l_231 h v0 v7)
      rw [if_neg c1]
      by_cases c2 : zI (jand (xz xs v3) 31) = zI 2
      · rw [if_pos c2]; exact fin _ (l_244 h v0 v7)
      rw [if_neg c2]
      by_cases c3 : zI (jand (xz xs v3) 31) = zI 3
      · rw [if_pos c3]; exact fin _ (l_257 h v0 v7)
      rw [if_neg c3]
      by_cases c4 : zI (jand (xz xs v3) 31) = zI 4
      · rw [if_pos c4]; exact fin _ (l_270 h v0 v7)
      rw [if_neg c4]
      by_cases c5 : zI (jand (xz xs v3) 31) = zI 5
      · rw [if_pos c5]; exact fin _ (l_303 h v0 v7)
      rw [if_neg c5]
      by_cases c6 : zI (jand (xz xs v3) 31) = zI 6
      · rw [if_pos c6]; exact fin _ (l_346 h v0 v7)
      rw [if_neg c6]
      by_cases c7 : zI (jand (xz xs v3) 31) = zI 7
      · rw [if_pos c7]; exact fin _ (l_389 h v0 v7)
      rw [if_neg c7]
      by_cases c8 : zI (jand (xz xs v3) 31) = zI 8
      · rw [if_pos c8]; exact fin _ (l_453 h v0 v7)
      rw [if_neg c8]
      by_cases c9 : zI (jand (xz xs v3) 31) = zI 9
      · rw [if_pos c9]; exact fin _ (l_496 h v0 v7)
      rw [if_neg c9]
      by_cases c10 : zI (jand (xz xs v3) 31) = zI 10
      · rw [if_pos c10]; exact fin _ (l_539 h v0 v7)
      rw [if_neg c10]
      by_cases c11 : zI (jand (xz xs v3) 31) = zI 11
      · rw [if_pos c11]; exact fin _ (l_615 h v0 v7)
      rw [if_neg c11]
      by_cases c12 : zI (jand (xz xs v3) 31) = zI 12
      · rw [if_pos c12]; exact fin _ (l_668 h v0 v7)
      rw [if_neg c12]
      by_cases c13 : zI (jand (xz xs v3) 31) = zI 13
      · rw [if_pos c13]; exact fin _ (l_743 h v0 v7)
      rw [if_neg c13]
      by_cases c14 : zI (jand (xz xs v3) 31) = zI 14
      · rw [if_pos c14]; exact fin _ (l_776 h v0 v7)
      rw [if_neg c14]
      by_cases c15 : zI (jand (xz xs v3) 31) = zI 15
      · rw [if_pos c15]; exact fin _ (l_819 h v0 v7)
      rw [if_neg c15]
      by_cases c16 : zI (jand (xz xs v3) 31) = zI 16
      · rw [if_pos c16]; exact fin _ (l_862 h v0 v7)
      rw [if_neg c16]
      by_cases c17 : zI (jand (xz xs v3) 31) = zI 17
      · rw [if_pos c17]; exact fin _ (l_931 h v0 v7)
      rw [if_neg c17]
      by_cases c18 : zI (jand (xz xs v3) 31) = zI 18
      · rw [if_pos c18]; exact fin _ (l_1000 h v0 v7)
      rw [if_neg c18]
      by_cases c19 : zI (jand (xz xs v3) 31) = zI 19
      · rw [if_pos c19]; exact fin _ (l_1033 h v0 v7)
      rw [if_neg c19]
      by_cases c20 : zI (jand (xz xs v3) 31) = zI 20
      · rw [if_pos c20]; exact fin _ (l_1066 h v0 v7)
      rw [if_neg c20]
      by_cases c21 : zI (jand (xz xs v3) 31) = zI 21
      · rw [if_pos c21]; exact fin _ (l_1099 h v0 v7)
      rw [if_neg c21]
      by_cases c22 : zI (jand (xz xs v3) 31) = zI 22
      · rw [if_pos c22]; exact fin _ (l_1142 h v0 v7)
      rw [if_neg c22]
      by_cases c23 : zI (jand (xz xs v3) 31) = zI 23
      · rw [if_pos c23]; exact fin _ (l_1165 h v0 v7)
      rw [if_neg c23]
      by_cases c24 : zI (jand (xz xs v3) 31) = zI 24
      · rw [if_pos c24]; exact fin _ (l_1198 h v0 v7)
      rw [if_neg c24]
      by_cases c25 : zI (jand (xz xs v3) 31) = zI 25
      · rw [if_pos c25]; exact fin _ (l_1221 h v0 v7)
      rw [if_neg c25]
      by_cases c26 : zI (jand (xz xs v3) 31) = zI 26
      · rw [if_pos c26]; exact fin _ (l_1254 h v0 v7)
      rw [if_neg c26]
      by_cases c27 : zI (jand (xz xs v3) 31) = zI 27
      · rw [if_pos c27]; exact fin _ (l_1267 h v0 v7)
      rw [if_neg c27]
      by_cases c28 : zI (jand (xz xs v3) 31) = zI 28
      · rw [if_pos c28]; exact fin _ (l_1280 h v0 v7)
      rw [if_neg c28]
      by_cases c29 : zI (jand (xz xs v3) 31) = zI 29
      · rw [if_pos c29]; exact fin _ (l_1293 h v0 v7)
      rw [if_neg c29]
      exact fin _ ⟨D, h, rfl⟩

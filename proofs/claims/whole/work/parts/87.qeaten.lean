theorem q_sure {D : Mm} (h : Iv D) {f e : Int} (hf : Rg f) (he : Rg e) : EqMP (f_Main_sure f e D) (f_Model_sure f e) := by
  have hh := h
  have hq := h.q
  obtain ⟨-, -, hql, -⟩ := h
  have hpp := hql.2.1
  have mod : ∀ E : Mm, E 148 0 = D (D 1 7) 1 → f_Model_sure f e E = if 0 ≤ f ∧ f < D (D 1 7) 1 then (if 0 ≤ e ∧ e ≤ 99 then (f_Model_sureOf f e E).bind (fun r => some r) else some (-1)) else some (-1) := fun E e148 => by
    unfold f_Model_sure
    rw [e_isFace hf e148 ⟨by omega, by omega⟩, bnd_if, wI_id he.1 he.2, e_in he ⟨by decide, by decide⟩ ⟨by decide, by decide⟩, bnd_if]
  unfold f_Main_sure
  rw [if_pos hq, e_hasPatch hf ⟨by omega, by omega⟩, bnd_if, e_isDoubt he, bnd_if]
  by_cases c1 : 0 ≤ f ∧ f < D (D 1 7) 1
  · by_cases c3 : 0 ≤ e ∧ e ≤ 99
    · rw [if_pos c1, if_pos c3]
      obtain ⟨E, r, E1, E2, E3, E4, E5⟩ := e_sure hh c1.1 c1.2 c3.1 c3.2
      rw [E1]
      refine ⟨r, E, rfl, ?_, hh.c69 E2 E3⟩
      rw [mod E (by rw [E2 _ _ (by omega)]; exact hpp.2.2), if_pos c1, if_pos c3, E5 E E2 E3]
      rfl
    · rw [if_pos c1, if_neg c3]
      exact ⟨-1, D, rfl, by rw [mod D hpp.2.2, if_pos c1, if_neg c3], hh⟩
  · rw [if_neg c1]
    exact ⟨-1, D, rfl, by rw [mod D hpp.2.2, if_neg c1], hh⟩
theorem q_eaten {D : Mm} (h : Iv D) {f e : Int} (hf : Rg f) (he : Rg e) : EqMP (f_Main_eaten f e D) (f_Model_eaten f e) := by
  have hh := h
  have hq := h.q
  obtain ⟨-, -, hql, hfl, -⟩ := h
  have hpp := hql.2.1
  have mod : ∀ E : Mm, E 148 0 = D (D 1 7) 1 → f_Model_eaten f e E = if 0 ≤ f ∧ f < D (D 1 7) 1 then (if 0 ≤ e ∧ e ≤ 99 then (f_Model_sureOf f e E).bind (fun r => some (jand r (E 162 0))) else some (-1)) else some (-1) := fun E e148 => by
    unfold f_Model_eaten
    rw [e_isFace hf e148 ⟨by omega, by omega⟩, bnd_if, wI_id he.1 he.2, e_in he ⟨by decide, by decide⟩ ⟨by decide, by decide⟩, bnd_if]
  unfold f_Main_eaten
  rw [if_pos hq, e_hasPatch hf ⟨by omega, by omega⟩, bnd_if, e_isDoubt he, bnd_if]
  by_cases c1 : 0 ≤ f ∧ f < D (D 1 7) 1
  · by_cases c3 : 0 ≤ e ∧ e ≤ 99
    · rw [if_pos c1, if_pos c3]
      obtain ⟨E, r, E1, E2, E3, E4, E5⟩ := e_sure hh c1.1 c1.2 c3.1 c3.2
      rw [E1]
      refine ⟨jand r (E 12 4), E, rfl, ?_, hh.c69 E2 E3⟩
      rw [mod E (by rw [E2 _ _ (by omega)]; exact hpp.2.2), if_pos c1, if_pos c3, E5 E E2 E3, E2 12 4 (by omega), E2 162 0 (by omega), hfl.2.2.2.2.2.1]
      rfl
    · rw [if_pos c1, if_neg c3]
      exact ⟨-1, D, rfl, by rw [mod D hpp.2.2, if_pos c1, if_neg c3], hh⟩
  · rw [if_neg c1]
    exact ⟨-1, D, rfl, by rw [mod D hpp.2.2, if_neg c1], hh⟩

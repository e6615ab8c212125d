theorem e_gom {D G : Mm} (h : Iv D) {f s e p b : Int} (f0 : 0 ≤ f) (f1 : f < D (D 1 7) 1) (s0 : 0 ≤ s) (s1 : s < D (D 1 7) 0) (e0 : 0 ≤ e) (e1 : e ≤ 99) (hp : Rg p) (ho : ∀ x j, ¬ (6 ≤ x ∧ x ≤ 9) → G x j = D x j) (h9 : G 9 0 = 0) (hb : Gst (Fn D (D 1 7) s e) (grd D (D 1 7) f s) p 10000 b) : f_Model_groundOf f s e p G = some b := by
  have hq := h.q
  have IG := h.c69 ho h9
  have g17 : G 1 7 = D 1 7 := ho _ _ (by omega)
  obtain ⟨c, c1, c2⟩ := e_gr IG (f := f) (s := s) (e := e) (p := p) f0 (by rw [g17, ho (D 1 7) 1 (by omega)]; exact f1) s0 (by rw [g17, ho (D 1 7) 0 (by omega)]; exact s1) e0 e1 hp
  have eF : Fn G (D 1 7) s e = Fn D (D 1 7) s e := funext (fun n => propext (Ft_cong hq ho))
  have eG : grd G (D 1 7) f s = grd D (D 1 7) f s := funext (fun n => by
    unfold grd
    rw [ho (12 + 2 + f) s (by omega), ho (D 1 7 + 11) f (by omega), ho (D 1 7 + 10) f (by omega)])
  rw [g17, eF, eG] at c2
  rw [c1, Gst_one c2 hb]
theorem q_ground {D : Mm} (h : Iv D) {f s e p : Int} (hf : Rg f) (hs0 : Rg s) (he : Rg e) (hp : Rg p) : EqMP (f_Main_ground f s e p D) (f_Model_ground f s e p) := by
  have hh := h
  have hq := h.q
  obtain ⟨-, -, hql, -⟩ := h
  have hs := hql.1
  have hpp := hql.2.1
  have mod : ∀ E : Mm, E 146 0 = D (D 1 7) 0 → E 148 0 = D (D 1 7) 1 → f_Model_ground f s e p E = if 0 ≤ f ∧ f < D (D 1 7) 1 then (if 0 ≤ s ∧ s < D (D 1 7) 0 then (if 0 ≤ e ∧ e ≤ 99 then (f_Model_groundOf f s e p E).bind (fun r => some r) else some (-1)) else some (-1)) else some (-1) := fun E e146 e148 => by
    unfold f_Model_ground
    rw [e_isFace hf e148 ⟨by omega, by omega⟩, bnd_if, e_isSort hs0 e146 ⟨by omega, by omega⟩, bnd_if, wI_id he.1 he.2, e_in he ⟨by decide, by decide⟩ ⟨by decide, by decide⟩, bnd_if]
  unfold f_Main_ground
  rw [if_pos hq, e_hasPatch hf ⟨by omega, by omega⟩, bnd_if, if_pos hq, e_hasSort hs0 ⟨by omega, by omega⟩, bnd_if, e_isDoubt he, bnd_if]
  by_cases c1 : 0 ≤ f ∧ f < D (D 1 7) 1
  · by_cases c2 : 0 ≤ s ∧ s < D (D 1 7) 0
    · by_cases c3 : 0 ≤ e ∧ e ≤ 99
      · rw [if_pos c1, if_pos c2, if_pos c3]
        obtain ⟨E, b, E1, E2, E3, E4⟩ := e_gon hh c1.1 c1.2 c2.1 c2.2 c3.1 c3.2 hp
        rw [E1]
        refine ⟨b, E, rfl, ?_, hh.c69 E2 E3⟩
        rw [mod E (by rw [E2 _ _ (by omega)]; exact hs.2.2) (by rw [E2 _ _ (by omega)]; exact hpp.2.2), if_pos c1, if_pos c2, if_pos c3, e_gom hh c1.1 c1.2 c2.1 c2.2 c3.1 c3.2 hp E2 E3 E4]
        rfl
      · rw [if_pos c1, if_pos c2, if_neg c3]
        exact ⟨-1, D, rfl, by rw [mod D hs.2.2 hpp.2.2, if_pos c1, if_pos c2, if_neg c3], hh⟩
    · rw [if_pos c1, if_neg c2]
      exact ⟨-1, D, rfl, by rw [mod D hs.2.2 hpp.2.2, if_pos c1, if_neg c2], hh⟩
  · rw [if_neg c1]
    exact ⟨-1, D, rfl, by rw [mod D hs.2.2 hpp.2.2, if_neg c1], hh⟩

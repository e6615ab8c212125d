theorem q_lyL {D : Mm} {q f s o : Int} (h : QL D q) (f0 : 0 ≤ f) (f1 : f < D q 1) (s0 : 0 ≤ s) (s1 : s < 6) (ho : Rg o) : ∀ (k n : Nat) (v t : Int), (4 - t).toNat = k → 0 ≤ t → t ≤ 4 → 0 ≤ v → v ≤ 60 + 81 * t → k < n → ∃ r, f_Quern_lying_22 q f s o D n v t = some r ∧ f_Model_liesOf_25 f s o D n v t = some r ∧ 0 ≤ r ∧ r ≤ 400 := by
  obtain ⟨a1, a2, a3, a4, a5, a6, a7, a8, a9, a10⟩ := h
  obtain ⟨-, -, ar, stp⟩ := a4 f f0 f1
  unfold Rg at ho
  intro k
  induction k with
  | zero =>
    intro n v t hk t0 t1 v0 v1 hn
    obtain ⟨m, rfl⟩ : ∃ m, n = m + 1 := ⟨n - 1, by omega⟩
    have : t = 4 := by omega
    subst this
    rw [f_Quern_lying_22, f_Model_liesOf_25, if_pos (by decide +kernel), if_pos (by decide +kernel)]
    exact ⟨v, rfl, rfl, v0, by omega⟩
  | succ k ih =>
    intro n v t hk t0 t1 v0 v1 hn
    obtain ⟨m, rfl⟩ : ∃ m, n = m + 1 := ⟨n - 1, by omega⟩
    have hc : ¬ zI 4 ≤ zI t := fun q => by have := (zI_le (by omega) (by omega) (by omega) (by omega)).mp q; omega
    have gf : 0 ≤ f ∧ f < 10 := by omega
    have gf2 : 0 ≤ f ∧ f < 20 := by omega
    have gt : 0 ≤ t ∧ t < 4 := by omega
    have gt2 : 0 ≤ t ∧ t < 8 := by omega
    have gs : 0 ≤ s ∧ s < 6 := ⟨s0, s1⟩
    have gi : 0 ≤ 6 * t + s ∧ 6 * t + s < 48 := by omega
    obtain ⟨⟨w1, w2, w3⟩, -, -⟩ := a7 t gt.1 gt.2
    obtain ⟨b1, b2, b3⟩ := a6 t s gt.1 gt.2 s0 s1
    rw [f_Quern_lying_22, f_Model_liesOf_25, if_neg hc, if_neg hc, if_pos gf, if_pos gf2, e_has, stp.1]
    rw [show jand (jshr (D (q + 11) f) t) 1 = bitz (D (q + 11) f) t from rfl]
    simp only [Option.bind_some]
    have m0 : 0 ≤ v * D (q + 28) t := Int.mul_nonneg v0 w2
    have m1 : v * D (q + 28) t ≤ v * 99 := Int.mul_le_mul_of_nonneg_left w3 v0
    have hd : jdiv (v * D (q + 28) t) 100 = v * D (q + 28) t / 100 := jdiv_nn m0 (by omega) (by decide) (by decide)
    have p0 : 0 ≤ D (q + 24 + t) s * D (q + 10) f := Int.mul_nonneg b2 (by omega)
    have p1 : D (q + 24 + t) s * D (q + 10) f ≤ 9 * 9 := Int.mul_le_mul b3 ar.2.2 (by omega) (by decide)
    by_cases hb : zI (bitz (D (q + 11) f) t) = 0
    · rw [if_pos hb, if_pos hb]
      exact ih m v (t + 1) (by omega) (by omega) (by omega) v0 (by omega) (by omega)
    · rw [if_neg hb, if_neg hb, if_pos gt, if_pos gt2, w1]
      by_cases ht : t = o
      · subst ht
        rw [if_pos rfl, if_pos rfl, if_pos gt, if_pos gs, if_pos gf, if_pos gi, if_pos gf2, b1, ar.1]
        show ∃ r, f_Quern_lying_22 q f s t D m _ (t + 1) = some r ∧ f_Model_liesOf_25 f s t D m _ (t + 1) = some r ∧ _
        rw [hd]
        exact ih m _ (t + 1) (by omega) (by omega) (by omega) (by omega) (by omega) (by omega)
      · have n1 : ¬ zI t = zI o := fun q => ht ((zI_eq (by omega) (by omega) (by omega) (by omega)).mp q)
        have n2 : ¬ zI o = zI t := fun q => n1 q.symm
        rw [if_neg n1, if_neg n2]
        show ∃ r, f_Quern_lying_22 q f s o D m _ (t + 1) = some r ∧ f_Model_liesOf_25 f s o D m _ (t + 1) = some r ∧ _
        rw [hd, Int.add_zero]
        exact ih m _ (t + 1) (by omega) (by omega) (by omega) (by omega) (by omega) (by omega)
theorem q_ly {D : Mm} {q f s o : Int} (h : QL D q) (f0 : 0 ≤ f) (f1 : f < D q 1) (s0 : 0 ≤ s) (s1 : s < 6) (ho : Rg o) : ∃ r, f_Quern_lying q f s o D = some r ∧ f_Model_liesOf f s o D = some r ∧ 0 ≤ r ∧ r ≤ 400 := by
  have h' := h
  obtain ⟨a1, a2, a3, a4, a5, -⟩ := h
  obtain ⟨u1, u2, u3⟩ := a5 f s f0 (by omega) s0 s1
  unfold f_Quern_lying f_Model_liesOf f_Quern_lying_17 f_Model_liesOf_20
  by_cases c : zI o = zI 4
  · rw [if_pos c, if_pos c, if_pos ⟨f0, by omega⟩, if_pos ⟨s0, s1⟩, if_pos (by omega), u1]
    exact q_lyL h' f0 f1 s0 s1 ho 4 zF _ 0 rfl (by decide) (by decide) u2 (by omega) (zF_pos (by decide))
  · rw [if_neg c, if_neg c]
    exact q_lyL h' f0 f1 s0 s1 ho 4 zF 0 0 rfl (by decide) (by decide) (by decide) (by decide) (zF_pos (by decide))
theorem q_all {D : Mm} {q f s : Int} (h : QL D q) (f0 : 0 ≤ f) (f1 : f < D q 1) (s0 : 0 ≤ s) (s1 : s < 6) : ∃ r, f_Quern_lyingOfAll q f s D = some r ∧ f_Model_allOf f s D = some r ∧ 0 ≤ r ∧ r ≤ 2000 := by
  have L : ∀ (k n : Nat) (v t : Int), (5 - t).toNat = k → 0 ≤ t → t ≤ 5 → 0 ≤ v → v ≤ 400 * t → k < n → ∃ r, f_Quern_lyingOfAll_5 q f s D n v t = some r ∧ f_Model_allOf_5 f s D n v t = some r ∧ 0 ≤ r ∧ r ≤ 2000 := by
    intro k
    induction k with
    | zero =>
      intro n v t hk t0 t1 v0 v1 hn
      obtain ⟨m, rfl⟩ : ∃ m, n = m + 1 := ⟨n - 1, by omega⟩
      have : t = 5 := by omega
      subst this
      rw [f_Quern_lyingOfAll_5, f_Model_allOf_5, if_pos (by decide +kernel), if_pos (by decide +kernel)]
      exact ⟨v, rfl, rfl, v0, by omega⟩
    | succ k ih =>
      intro n v t hk t0 t1 v0 v1 hn
      obtain ⟨m, rfl⟩ : ∃ m, n = m + 1 := ⟨n - 1, by omega⟩
      have hc : ¬ zI 5 ≤ zI t := fun q => by have := (zI_le (by omega) (by omega) (by omega) (by omega)).mp q; omega
      obtain ⟨r, r1, r2, r3, r4⟩ := q_ly h f0 f1 s0 s1 (o := t) ⟨by omega, by omega⟩
      rw [f_Quern_lyingOfAll_5, f_Model_allOf_5, if_neg hc, if_neg hc, r1, r2]
      exact ih m (v + r) (t + 1) (by omega) (by omega) (by omega) (by omega) (by omega) (by omega)
  exact L 5 zF 0 0 rfl (by decide) (by decide) (by decide) (by decide) (zF_pos (by decide))
theorem q_lies {D : Mm} (h : Iv D) {f s o : Int} (hf : Rg f) (hs0 : Rg s) (ho : Rg o) : Eq2 (f_Main_lies f s o D) (f_Model_lies f s o D) := by
  have hq := h.q
  obtain ⟨-, -, hql, -⟩ := h
  have hql' := hql
  obtain ⟨hs, hp, -⟩ := hql
  unfold f_Main_lies f_Model_lies
  simp only [hq, if_true]
  rw [e_hasPatch hf ⟨by omega, by omega⟩, bnd_if, e_isFace hf hp.2.2 ⟨by omega, by omega⟩, bnd_if, e_hasSort hs0 ⟨by omega, by omega⟩, bnd_if, e_isSort hs0 hs.2.2 ⟨by omega, by omega⟩, bnd_if, e_within ho ⟨by decide, by decide⟩ ⟨by decide, by decide⟩, bnd_if, wI_id ho.1 ho.2, e_in ho ⟨by decide, by decide⟩ ⟨by decide, by decide⟩, bnd_if]
  split
  · rename_i c1
    split
    · rename_i c2
      split
      · rename_i c3
        by_cases hm : o = -1
        · subst hm
          rw [if_pos rfl, if_neg (by decide +kernel)]
          obtain ⟨r, r1, r2, -⟩ := q_all hql' c1.1 c1.2 c2.1 (show s < 6 by omega)
          rw [r1, r2]
          exact Eq2.rf
        · rw [if_neg (fun q => hm ((zI_eq (by omega) (by omega) (by omega) (by omega)).mp q)), if_pos ((zI_0le (by omega) (by omega)).mpr (by omega))]
          obtain ⟨r, r1, r2, -⟩ := q_ly hql' c1.1 c1.2 c2.1 (show s < 6 by omega) ho
          rw [r1, r2]
          exact Eq2.rf
      · exact Eq2.rf
    · exact Eq2.rf
  · exact Eq2.rf
-- READ
theorem q_calledL {D : Mm} {q s r : Int} (h : QL D q) (s0 : 0 ≤ s) (s1 : s < D q 0) (r0 : 0 ≤ r) (r1 : r < 2147483648) : ∀ (k n : Nat) (v t : Int), (D q 0 - t).toNat = k → 0 ≤ t → t ≤ D q 0 → 0 ≤ v → v ≤ 99 * t → v ≤ r → k < n → Eq2 (f_Quern_calledBy_5 q s r D n v t) (f_Model_calledBy_5 s r D n v t) := by
  obtain ⟨a1, a2, a3, a4, a5, a6, a7, a8, a9, a10⟩ := h
  intro k
  induction k with
  | zero =>
    intro n v t hk t0 t1 v0 v1 v2 hn
    obtain ⟨m, rfl⟩ : ∃ m, n = m + 1 := ⟨n - 1, by omega⟩
    have : t = D q 0 := by omega
    subst this
    rw [f_Quern_calledBy_5, f_Model_calledBy_5, a1.2.2, if_pos (Int32.le_refl _), if_pos (Int32.le_refl _)]
    exact Eq2.rf
  | succ k ih =>
    intro n v t hk t0 t1 v0 v1 v2 hn
    obtain ⟨m, rfl⟩ : ∃ m, n = m + 1 := ⟨n - 1, by omega⟩
    have hc : ¬ zI (D q 0) ≤ zI t := fun q => by have := (zI_le (by omega) (by omega) (by omega) (by omega)).mp q; omega
    obtain ⟨b1, b2, b3⟩ := a9 s t s0 (by omega) t0 (by omega)
    rw [f_Quern_calledBy_5, f_Model_calledBy_5, a1.2.2, if_neg hc, if_neg hc, if_pos ⟨s0, by omega⟩, if_pos ⟨t0, by omega⟩]
    by_cases ht : t = s
    · subst ht
      have z := a10 t t0 (by omega)
      rw [z, Int.add_zero, if_pos rfl, if_pos ((zI_le (by omega) (by omega) (by omega) (by omega)).mpr v2)]
      unfold f_Model_calledBy_39 f_Model_calledBy_55
      rw [if_pos rfl, Int.add_zero]
      exact ih m v (t + 1) (by omega) (by omega) (by omega) v0 (by omega) v2 (by omega)
    · have n1 : ¬ zI t = zI s := fun q => ht ((zI_eq (by omega) (by omega) (by omega) (by omega)).mp q)
      unfold f_Model_calledBy_39 f_Model_calledBy_55
      have gi : 0 ≤ 6 * s + t ∧ 6 * s + t < 72 := by omega
      rw [if_neg n1, if_pos gi, if_neg n1, b1]
      by_cases hr : v + D (q + 31 + s) t ≤ r
      · have c := (zI_le (a := v + D (q + 31 + s) t) (b := r) (by omega) (by omega) (by omega) (by omega)).mpr hr
        rw [if_pos c, if_pos c]
        exact ih m _ (t + 1) (by omega) (by omega) (by omega) (by omega) (by omega) hr (by omega)
      · have c : ¬ zI (v + D (q + 31 + s) t) ≤ zI r := fun x => hr ((zI_le (by omega) (by omega) (by omega) (by omega)).mp x)
        rw [if_neg c, if_neg c]
        exact Eq2.rf
theorem q_called {D : Mm} {q s r : Int} (h : QL D q) (s0 : 0 ≤ s) (s1 : s < D q 0) (r0 : 0 ≤ r) (r1 : r < 2147483648) : Eq2 (f_Quern_calledBy q s r D) (f_Model_calledBy s r D) := by
  have h0 := h.1
  exact q_calledL h s0 s1 r0 r1 (D q 0 - 0).toNat zF 0 0 rfl (by decide) (by omega) (by decide) (by decide) r0 (zF_pos (by omega))
theorem e_draw {D : Mm} {f z t : Int} (f0 : 0 ≤ f) (f1 : f ≤ 10) (z0 : 0 ≤ z) (z1 : z ≤ 9999) (t0 : 0 ≤ t) (t1 : t ≤ 12000) : ∃ r, f_Quern_draw f z t D = some r ∧ f_Model_draw z t f D = some r ∧ 0 ≤ r ∧ r < 100 := by
  unfold f_Quern_draw f_Model_draw zlt
  rw [wI_id (a := f) (by omega) (by omega), wI_id (a := z) (by omega) (by omega), wI_id (a := t) (by omega) (by omega)]
  generalize hx : 7919 * z + 6151 * t + 3571 * f + 1 = x
  have x0 : 0 ≤ x := by omega
  have x1 : x ≤ 200000000 := by omega
  have y0 : 0 ≤ x * x := Int.mul_nonneg x0 x0
  have y1 : x * x ≤ 200000000 * 200000000 := Int.mul_le_mul x1 x1 x0 (by decide)
  have e1 : jlrem (x * x) 65521 = x * x % 65521 := jlrem_nn y0 (by omega) (by decide) (by decide)
  have m0 := Int.emod_nonneg (x * x) (show (65521 : Int) ≠ 0 by decide)
  have m1 := Int.emod_lt_of_pos (x * x) (show (0 : Int) < 65521 by decide)
  have e2 : jlrem (x * x % 65521) 100 = x * x % 65521 % 100 := jlrem_nn m0 (by omega) (by decide) (by decide)
  dsimp only
  rw [e1, e2]
  exact ⟨_, rfl, rfl, Int.emod_nonneg _ (by decide), Int.emod_lt_of_pos _ (by decide)⟩
theorem q_readIn {D : Mm} {q f z s own : Int} (h : QL D q) (f0 : 0 ≤ f) (f1 : f ≤ 10) (z0 : 0 ≤ z) (z1 : z ≤ 9999) (o0 : 0 ≤ own) (o1 : own < D q 0) (K : Int → Int → Int → Option Int) (K2 : Int → Int → Int → Option Int) (b : Int) (many : Int) (t0 : Int) (ht0 : 0 ≤ t0) (hb : b = t0 + many) (hb1 : b ≤ 12000) (hm : 0 ≤ many)
    (hK : ∀ c, Eq2 (K c b (own + 1)) (K2 c b (own + 1))) : ∀ (k n : Nat) (c t : Int), (b - t).toNat = k → t0 ≤ t → t ≤ b → k < n → Eq2 (f_Quern_calledOn_30 q f z s own b K D n c t) (f_Model_read_62 f z s own many K2 D n c t (t - t0)) := by
  have hs := h.1
  intro k
  induction k with
  | zero =>
    intro n c t hk x0 x1 hn
    obtain ⟨m, rfl⟩ : ∃ m, n = m + 1 := ⟨n - 1, by omega⟩
    have : t = b := by omega
    subst this
    have e : t - t0 = many := by omega
    rw [f_Quern_calledOn_30, f_Model_read_62, e, if_pos (Int32.le_refl _), if_pos (Int32.le_refl _)]
    exact hK c
  | succ k ih =>
    intro n c t hk x0 x1 hn
    obtain ⟨m, rfl⟩ : ∃ m, n = m + 1 := ⟨n - 1, by omega⟩
    have c1 : ¬ zI b ≤ zI t := fun q => by have := (zI_le (by omega) (by omega) (by omega) (by omega)).mp q; omega
    have c2 : ¬ zI many ≤ zI (t - t0) := fun q => by have := (zI_le (by omega) (by omega) (by omega) (by omega)).mp q; omega
    obtain ⟨r, r1, r2, r3, r4⟩ := e_draw (D := D) f0 f1 z0 z1 (show 0 ≤ t by omega) (show t ≤ 12000 by omega)
    obtain ⟨w, w1, w2⟩ := q_called h o0 o1 r3 (show r < 2147483648 by omega)
    rw [f_Quern_calledOn_30, f_Model_read_62, if_neg c1, if_neg c2, r1, r2]
    simp only [Option.bind_some]
    rw [w1, w2]
    simp only [Option.bind_some]
    have e : t - t0 + 1 = t + 1 - t0 := by omega
    unfold f_Quern_calledOn_57 f_Model_read_93
    rw [e]
    by_cases z : zI w = zI s
    · rw [if_pos z, if_pos z]
      exact ih m (c + 1) (t + 1) (by omega) (by omega) (by omega) (by omega)
    · rw [if_neg z, if_neg z, Int.add_zero]
      exact ih m c (t + 1) (by omega) (by omega) (by omega) (by omega)
theorem q_readOut {D : Mm} {q f z s : Int} (h : QL D q) (f0 : 0 ≤ f) (f1 : f < D q 1) (z0 : 0 ≤ z) (z1 : z ≤ 9999) : ∀ (k n : Nat) (c t own : Int), (D q 0 - own).toNat = k → 0 ≤ own → own ≤ D q 0 → 0 ≤ t → t ≤ 2000 * own → k < n → Eq2 (f_Quern_calledOn_9 q f z s D n c t own) (f_Model_read_39 f z s D n c t own) := by
  have hs := h.1
  have hp := h.2.1
  intro k
  induction k with
  | zero =>
    intro n c t own hk o0 o1 t0 t1 hn
    obtain ⟨m, rfl⟩ : ∃ m, n = m + 1 := ⟨n - 1, by omega⟩
    have : own = D q 0 := by omega
    subst this
    rw [f_Quern_calledOn_9, f_Model_read_39, hs.2.2, if_pos (Int32.le_refl _), if_pos (Int32.le_refl _)]
    exact Eq2.rf
  | succ k ih =>
    intro n c t own hk o0 o1 t0 t1 hn
    obtain ⟨m, rfl⟩ : ∃ m, n = m + 1 := ⟨n - 1, by omega⟩
    have hc : ¬ zI (D q 0) ≤ zI own := fun q => by have := (zI_le (by omega) (by omega) (by omega) (by omega)).mp q; omega
    obtain ⟨r, r1, r2, r3, r4⟩ := q_all h f0 f1 o0 (show own < 6 by omega)
    rw [f_Quern_calledOn_9, f_Model_read_39, hs.2.2, if_neg hc, if_neg hc, r1, r2]
    simp only [Option.bind_some]
    have e0 : (0 : Int) = t - t := by omega
    have key := q_readIn (s := s) h f0 (show f ≤ 10 by omega) z0 z1 o0 (show own < D q 0 by omega) (f_Quern_calledOn_9 q f z s D m) (f_Model_read_39 f z s D m) (t + r) r t t0 rfl (by omega) r3 (fun c => ih m c (t + r) (own + 1) (by omega) (by omega) (by omega) (by omega) (by omega) (by omega)) (t + r - t).toNat zF c t rfl (by omega) (by omega) (zF_pos (by omega))
    rw [Int.sub_self] at key
    exact key
theorem q_read {D : Mm} (h : Iv D) {f z s : Int} (hf : Rg f) (hz : Rg z) (hs0 : Rg s) : Eq2 (f_Main_read f z s D) (f_Model_read f z s D) := by
  have hq := h.q
  obtain ⟨-, -, hql, -⟩ := h
  have hql' := hql
  obtain ⟨hs, hp, -⟩ := hql
  unfold f_Main_read f_Model_read
  simp only [hq, if_true]
  rw [e_hasPatch hf ⟨by omega, by omega⟩, bnd_if, e_isFace hf hp.2.2 ⟨by omega, by omega⟩, bnd_if, e_hasSort hs0 ⟨by omega, by omega⟩, bnd_if, e_isSort hs0 hs.2.2 ⟨by omega, by omega⟩, bnd_if, e_within hz ⟨by decide, by decide⟩ ⟨by decide, by decide⟩, bnd_if, wI_id hz.1 hz.2, e_in hz ⟨by decide, by decide⟩ ⟨by decide, by decide⟩, bnd_if]
  split
  · rename_i c1
    split
    · rename_i c2
      split
      · obtain ⟨r, r1, r2⟩ := q_readOut (s := s) hql' c1.1 c1.2 c2.1 c2.2 (D (D 1 7) 0 - 0).toNat zF 0 0 0 rfl (by decide) (by omega) (by decide) (by decide) (zF_pos (by omega))
        unfold f_Quern_calledOn
        rw [r1, r2]
        exact Eq2.rf
      · exact Eq2.rf
    · exact Eq2.rf
  · exact Eq2.rf

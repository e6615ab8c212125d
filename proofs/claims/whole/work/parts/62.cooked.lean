def ckd (D : Mm) (q s c w : Int) : Int := D (q + 2 + s) w - (if w < 3 then D (q + 2 + s) w * c / 100 else 0) + (if 0 < w then D (q + 2 + s) (w - 1) * c / 100 else 0)
def zabs (x : Int) : Int := if 0 ≤ x then x else -x
theorem mul100 {x c : Int} (x0 : 0 ≤ x) (x1 : x ≤ 100) (c0 : 0 ≤ c) (c1 : c ≤ 100) : 0 ≤ x * c ∧ x * c ≤ 10000 ∧ 0 ≤ x * c / 100 ∧ x * c / 100 ≤ x := by
  have h1 : 0 ≤ x * c := Int.mul_nonneg x0 c0
  have h2 : x * c ≤ x * 100 := Int.mul_le_mul_of_nonneg_left c1 x0
  exact ⟨h1, by omega, by omega, by omega⟩
theorem e_cw {D : Mm} {q s c w : Int} (h : QL D q) (s0 : 0 ≤ s) (s1 : s < D q 0) (c0 : 0 ≤ c) (c1 : c ≤ 100) (w0 : 0 ≤ w) (w1 : w < 4) : f_Quern_cookedWave q s c w D = some (ckd D q s c w) ∧ 0 ≤ ckd D q s c w ∧ ckd D q s c w ≤ 200 := by
  obtain ⟨a1, -, a3, -⟩ := h
  obtain ⟨-, b2, b3⟩ := a3 s w s0 s1 w0 w1
  obtain ⟨m1, m2, m3, m4⟩ := mul100 b2 b3 c0 c1
  have gs : 0 ≤ s ∧ s < 6 := by omega
  have gw : 0 ≤ w ∧ w < 4 := ⟨w0, w1⟩
  have hd := jdiv_nn (x := D (q + 2 + s) w * c) (y := 100) m1 (by omega) (by decide) (by decide)
  have prev : 0 < w → (f_Quern_cookedWave_22 q s c w = fun s0 D' => f_Quern_cookedWave_22 q s c w s0 D') := fun _ => rfl
  unfold f_Quern_cookedWave f_Quern_cookedWave_22 f_Quern_cookedWave_47 ckd
  by_cases hw : w = 0
  · subst hw
    rw [if_neg (by decide +kernel), if_pos gs, if_pos gw, if_pos (by decide +kernel), if_pos gs, if_pos gw, hd, if_pos (by decide), if_neg (by decide)]
    exact ⟨rfl, by omega, by omega⟩
  · obtain ⟨-, p2, p3⟩ := a3 s (w - 1) s0 s1 (by omega) (by omega)
    obtain ⟨n1, n2, n3, n4⟩ := mul100 p2 p3 c0 c1
    have hd2 := jdiv_nn (x := D (q + 2 + s) (w - 1) * c) (y := 100) n1 (by omega) (by decide) (by decide)
    have gw1 : 0 ≤ w - 1 ∧ w - 1 < 4 := by omega
    have nz : ¬ zI w ≤ 0 := fun x => by have := (zI_le0 (by omega) (by omega)).mp x; omega
    by_cases h3 : w < 3
    · rw [if_neg (fun x => by have := (zI_le (by omega) (by omega) (by omega) (by omega)).mp x; omega), if_pos gs, if_pos gw, if_neg nz, if_pos gs, if_pos gw1, if_pos gs, if_pos gw, hd, hd2, if_pos h3, if_pos (by omega)]
      exact ⟨rfl, by omega, by omega⟩
    · rw [if_pos ((zI_le (by omega) (by omega) (by omega) (by omega)).mpr (by omega)), if_neg nz, if_pos gs, if_pos gw1, if_pos gs, if_pos gw, hd2, if_neg h3, if_pos (by omega)]
      exact ⟨rfl, by omega, by omega⟩
theorem e_abs {D : Mm} {x : Int} (h0 : -2147483648 ≤ x) (h1 : x < 2147483648) : f_Math_abs x D = some (zabs x) := by
  unfold f_Math_abs zabs
  by_cases h : 0 ≤ x
  · rw [if_pos ((zI_0le h0 h1).mpr h), if_pos h]
  · rw [if_neg (fun y => h ((zI_0le h0 h1).mp y)), if_neg h]
def dfs (D : Mm) (q s c o : Int) : Int := zsum (fun w => zabs (ckd D q s c w - D (q + 2 + o) w)) 4
theorem zabs_b {x : Int} (h0 : -200 ≤ x) (h1 : x ≤ 200) : 0 ≤ zabs x ∧ zabs x ≤ 200 := by
  unfold zabs
  split <;> omega
theorem e_diff {D : Mm} {q s c o : Int} (h : QL D q) (s0 : 0 ≤ s) (s1 : s < D q 0) (c0 : 0 ≤ c) (c1 : c ≤ 100) (o0 : 0 ≤ o) (o1 : o < D q 0) : f_Quern_differenceOfCooked q s c o D = some (dfs D q s c o) ∧ 0 ≤ dfs D q s c o ∧ dfs D q s c o ≤ 800 := by
  have hb : ∀ k : Int, 0 ≤ k → k < 4 → 0 ≤ zabs (ckd D q s c k - D (q + 2 + o) k) ∧ zabs (ckd D q s c k - D (q + 2 + o) k) ≤ 200 := fun k k0 k1 => by
    obtain ⟨-, x1, x2⟩ := e_cw h s0 s1 c0 c1 k0 k1
    obtain ⟨-, y1, y2⟩ := h.2.2.1 o k o0 o1 k0 k1
    exact zabs_b (by omega) (by omega)
  have hz := zsum_b (f := fun w => zabs (ckd D q s c w - D (q + 2 + o) w)) (M := 200) (by decide) 4 (fun k k0 k1 => hb k k0 (by omega))
  refine ⟨?_, hz.1, by have := hz.2; unfold dfs; omega⟩
  unfold f_Quern_differenceOfCooked
  refine zup (fun n i b => f_Quern_differenceOfCooked_6 q s c o D n b i) 4 (fun i b => 0 ≤ i ∧ b = zsum (fun w => zabs (ckd D q s c w - D (q + 2 + o) w)) i.toNat) (fun x => x = some (dfs D q s c o)) ?_ ?_ 4 zF 0 0 rfl (by decide) (zF_pos (by decide)) ⟨by decide, rfl⟩
  · intro n b ⟨_, hb⟩
    show f_Quern_differenceOfCooked_6 q s c o D (n + 1) b 4 = _
    rw [f_Quern_differenceOfCooked_6, if_pos (by decide +kernel), hb]
    rfl
  · intro n i b hi ⟨h2, hbb⟩
    refine ⟨b + zabs (ckd D q s c i - D (q + 2 + o) i), ⟨by omega, by rw [hbb, zsum_s _ h2]⟩, ?_⟩
    show f_Quern_differenceOfCooked_6 q s c o D (n + 1) b i = _
    obtain ⟨x0, x1, x2⟩ := e_cw h s0 s1 c0 c1 h2 hi
    obtain ⟨-, y1, y2⟩ := h.2.2.1 o i o0 o1 h2 hi
    have hs := h.1
    rw [f_Quern_differenceOfCooked_6, if_neg (fun q => by have := (zI_le (by omega) (by omega) (by omega) (by omega)).mp q; omega), x0]
    simp only [Option.bind_some]
    rw [if_pos ⟨o0, by omega⟩, if_pos ⟨h2, hi⟩, e_abs (by omega) (by omega)]
    rfl
-- the model's row and distance
theorem e_apart {E : Mm} {k r : Int} {g : Int → Int} (k0 : 0 ≤ k) (k1 : k < 6) (hb : ∀ w, 0 ≤ w → w < 4 → -200 ≤ E 147 (4 * k + w) - E r w ∧ E 147 (4 * k + w) - E r w ≤ 200) : f_Model_apart k r E = some (zsum (fun w => zabs (E 147 (4 * k + w) - E r w)) 4) := by
  unfold f_Model_apart
  refine zup (fun n i b => f_Model_apart_5 k r E n b i) 4 (fun i b => 0 ≤ i ∧ b = zsum (fun w => zabs (E 147 (4 * k + w) - E r w)) i.toNat) (fun x => x = some (zsum (fun w => zabs (E 147 (4 * k + w) - E r w)) 4)) ?_ ?_ 4 zF 0 0 rfl (by decide) (zF_pos (by decide)) ⟨by decide, rfl⟩
  · intro n b ⟨_, hb⟩
    show f_Model_apart_5 k r E (n + 1) b 4 = _
    rw [f_Model_apart_5, if_pos (by decide +kernel), hb]
    rfl
  · intro n i b hi ⟨h2, hbb⟩
    refine ⟨b + zabs (E 147 (4 * k + i) - E r i), ⟨by omega, by rw [hbb, zsum_s _ h2]⟩, ?_⟩
    show f_Model_apart_5 k r E (n + 1) b i = _
    obtain ⟨y1, y2⟩ := hb i h2 hi
    have g1 : 0 ≤ 4 * k + i ∧ 4 * k + i < 48 := by omega
    rw [f_Model_apart_5, if_neg (fun q => by have := (zI_le (by omega) (by omega) (by omega) (by omega)).mp q; omega), if_pos g1, if_pos ⟨h2, hi⟩]
    unfold zabs f_Model_apart_43
    by_cases z : 0 ≤ E 147 (4 * k + i) - E r i
    · rw [if_pos ((zI_0le (by omega) (by omega)).mpr z), if_pos z]
    · rw [if_neg (fun y => z ((zI_0le (by omega) (by omega)).mp y)), if_neg z]
theorem zabs_sym (a b : Int) : zabs (a - b) = zabs (b - a) := by
  unfold zabs
  split <;> split <;> omega
theorem q_likeL {D E : Mm} {q s c : Int} (h : QL D q) (s0 : 0 ≤ s) (s1 : s < D q 0) (c0 : 0 ≤ c) (c1 : c ≤ 100) (hE : ∀ w, 0 ≤ w → w < 4 → E 166 w = ckd D q s c w) (hE2 : ∀ a i, a ≠ 166 → E a i = D a i) : ∀ (k n : Nat) (v i : Int), (D q 0 - i).toNat = k → 0 ≤ i → i ≤ D q 0 → 0 ≤ v → v < D q 0 → k < n → ∃ r, f_Quern_likeCooked_5 q s c D n v i = some r ∧ f_Model_cooked_121 E n v i = some (r, E) := by
  have hs := h.1
  have ap : ∀ o, 0 ≤ o → o < D q 0 → f_Model_apart o 166 E = some (dfs D q s c o) := fun o o0 o1 => by
    have hb : ∀ w, 0 ≤ w → w < 4 → E 147 (4 * o + w) = D (q + 2 + o) w ∧ -200 ≤ D (q + 2 + o) w - ckd D q s c w ∧ D (q + 2 + o) w - ckd D q s c w ≤ 200 := fun w w0 w1 => by
      obtain ⟨-, x1, x2⟩ := e_cw h s0 s1 c0 c1 w0 w1
      obtain ⟨y0, y1, y2⟩ := h.2.2.1 o w o0 o1 w0 w1
      exact ⟨by rw [hE2 _ _ (by omega), y0], by omega, by omega⟩
    rw [e_apart (g := fun _ => 0) o0 (by omega) (fun w w0 w1 => by rw [(hb w w0 w1).1, hE w w0 w1]; exact (hb w w0 w1).2)]
    congr 1
    exact zsum_cong 4 (fun w w0 w1 => by rw [(hb w w0 (by omega)).1, hE w w0 (by omega), zabs_sym])
  intro k
  induction k with
  | zero =>
    intro n v i hk i0 i1 v0 v1 hn
    obtain ⟨m, rfl⟩ : ∃ m, n = m + 1 := ⟨n - 1, by omega⟩
    have : i = D q 0 := by omega
    subst this
    rw [f_Quern_likeCooked_5, f_Model_cooked_121, hE2 _ _ (by omega), hs.2.2, if_pos (Int32.le_refl _), if_pos (Int32.le_refl _)]
    exact ⟨v, rfl, rfl⟩
  | succ k ih =>
    intro n v i hk i0 i1 v0 v1 hn
    obtain ⟨m, rfl⟩ : ∃ m, n = m + 1 := ⟨n - 1, by omega⟩
    have hc : ¬ zI (D q 0) ≤ zI i := fun q => by have := (zI_le (by omega) (by omega) (by omega) (by omega)).mp q; omega
    rw [f_Quern_likeCooked_5, f_Model_cooked_121, hE2 146 _ (by omega), hs.2.2, if_neg hc, if_neg hc, (e_diff h s0 s1 c0 c1 i0 (show i < D q 0 by omega)).1, (e_diff h s0 s1 c0 c1 v0 v1).1, ap i i0 (by omega), ap v v0 v1]
    simp only [Option.bind_some]
    unfold f_Quern_likeCooked_35 f_Model_cooked_162
    by_cases z : zI (dfs D q s c v) ≤ zI (dfs D q s c i)
    · rw [if_pos z, if_pos z]
      exact ih m v (i + 1) (by omega) (by omega) (by omega) v0 v1 (by omega)
    · rw [if_neg z, if_neg z]
      exact ih m i (i + 1) (by omega) (by omega) (by omega) i0 (by omega) (by omega)
theorem q_cooked {D : Mm} (h : Iv D) {s c w : Int} (hs0 : Rg s) (hc : Rg c) (hw : Rg w) : EqPM (f_Main_cooked s c w D) (f_Model_cooked s c w D) := by
  have hh := h
  have hq := h.q
  obtain ⟨-, -, hql, -⟩ := h
  have hs := hql.1
  unfold f_Main_cooked f_Model_cooked
  simp only [hq, if_true]
  rw [e_hasSort hs0 ⟨by omega, by omega⟩, bnd_if, e_isSort hs0 hs.2.2 ⟨by omega, by omega⟩, bnd_if, e_within hc ⟨by decide, by decide⟩ ⟨by decide, by decide⟩, bnd_if, wI_id hc.1 hc.2, e_in hc ⟨by decide, by decide⟩ ⟨by decide, by decide⟩, bnd_if, e_within hw ⟨by decide, by decide⟩ ⟨by decide, by decide⟩, bnd_if, wI_id hw.1 hw.2, e_in hw ⟨by decide, by decide⟩ ⟨by decide, by decide⟩, bnd_if]
  by_cases c1 : 0 ≤ s ∧ s < D (D 1 7) 0
  · by_cases c2 : 0 ≤ c ∧ c ≤ 100
    · by_cases c3 : 0 ≤ w ∧ w ≤ 4
      · rw [if_pos c1, if_pos c1, if_pos c2, if_pos c2, if_pos c3, if_pos c3]
        have fin : ∀ E : Mm, (∀ a i, a ≠ 166 → E a i = D a i) → Iv E := fun E hE => hh.cong (fun a i hr => hE a i (by unfold Rel Bk0 at hr; omega))
        refine zup (fun n i (b : Int × Mm) => f_Model_cooked_40 s c w n b.1 i b.2) 4 (fun i b => 0 ≤ i ∧ (i < 4 → b.1 = (if 0 < i then D (D 1 7 + 2 + s) (i - 1) * c / 100 else 0)) ∧ (∀ k, 0 ≤ k → k < i → b.2 166 k = ckd D (D 1 7) s c k) ∧ ∀ a j, a ≠ 166 → b.2 a j = D a j) (fun o => EqPM _ o) ?_ ?_ 4 zF 0 (0, D) rfl (by decide) (zF_pos (by decide)) ⟨by decide, fun _ => rfl, fun k k0 k1 => by omega, fun a j _ => rfl⟩
        · intro n b ⟨_, b1, b2, b3⟩
          show EqPM _ (f_Model_cooked_40 s c w (n + 1) b.1 4 b.2)
          rw [f_Model_cooked_40, if_pos (show zI 4 ≤ zI 4 from Int32.le_refl _)]
          by_cases h4 : w = 4
          · subst h4
            rw [if_pos rfl, if_pos (show zI 4 ≤ zI 4 from Int32.le_refl _)]
            obtain ⟨r, r1, r2⟩ := q_likeL hql c1.1 c1.2 c2.1 c2.2 b2 b3 (D (D 1 7) 0 - 1).toNat zF 0 1 rfl (by decide) (by omega) (by decide) (by omega) (zF_pos (by omega))
            unfold f_Quern_likeCooked
            rw [r1, r2]
            exact ⟨r, b.2, rfl, rfl, fin b.2 b3⟩
          · rw [if_neg (fun x => h4 ((zI_eq (by omega) (by omega) (by omega) (by omega)).mp x)), if_neg (fun x => by have := (zI_le (by omega) (by omega) (by omega) (by omega)).mp x; omega), if_pos ⟨c3.1, by omega⟩, (e_cw hql c1.1 c1.2 c2.1 c2.2 c3.1 (show w < 4 by omega)).1, b2 w c3.1 (by omega)]
            exact ⟨_, b.2, rfl, rfl, fin b.2 b3⟩
        · intro n i b hi ⟨i0, b1, b2, b3⟩
          obtain ⟨y0, y1, y2⟩ := hql.2.2.1 s i c1.1 c1.2 i0 hi
          obtain ⟨m1, m2, m3, m4⟩ := mul100 y1 y2 c2.1 c2.2
          have g1 : 0 ≤ 4 * s + i ∧ 4 * s + i < 48 := by omega
          have e147 : b.2 147 (4 * s + i) = D (D 1 7 + 2 + s) i := by rw [b3 _ _ (by omega), y0]
          refine ⟨(if i < 3 then D (D 1 7 + 2 + s) i * c / 100 else 0, stm b.2 166 i (ckd D (D 1 7) s c i)), ⟨by omega, ?_, fun k k0 k1 => ?_, fun a j ha => ?_⟩, ?_⟩
          · intro h3
            show (if i < 3 then _ else (0 : Int)) = if 0 < i + 1 then D (D 1 7 + 2 + s) (i + 1 - 1) * c / 100 else 0
            rw [if_pos (show 0 < i + 1 by omega), show i + 1 - 1 = i by omega, if_pos (by omega)]
          · show stm b.2 166 i _ 166 k = _
            by_cases hk : k = i
            · subst hk; rw [stm_eq ⟨rfl, rfl⟩]
            · rw [stm_ne (by omega)]; exact b2 k k0 (by omega)
          · show stm b.2 166 i _ a j = _
            rw [stm_ne (by omega)]; exact b3 a j ha
          · show f_Model_cooked_40 s c w (n + 1) b.1 i b.2 = f_Model_cooked_40 s c w n _ (i + 1) _
            rw [f_Model_cooked_40, if_neg (fun x => by have := (zI_le (by omega) (by omega) (by omega) (by omega)).mp x; omega), if_pos g1, e147, jdiv_nn m1 (by omega) (by decide) (by decide)]
            unfold f_Model_cooked_76
            simp only [if_pos (show 0 ≤ i ∧ i < 4 from ⟨i0, hi⟩)]
            unfold ckd
            rw [← b1 hi]
            by_cases h3 : i < 3
            · rw [if_neg (fun x => by have := (zI_le (by omega) (by omega) (by omega) (by omega)).mp x; omega), if_pos h3]
              rfl
            · rw [if_pos ((zI_le (by omega) (by omega) (by omega) (by omega)).mpr (by omega)), if_neg h3]
              rfl
      · rw [if_pos c1, if_pos c1, if_pos c2, if_pos c2, if_neg c3, if_neg c3]
        exact ⟨-1, D, rfl, rfl, hh⟩
    · rw [if_pos c1, if_pos c1, if_neg c2, if_neg c2]
      exact ⟨-1, D, rfl, rfl, hh⟩
  · rw [if_neg c1, if_neg c1]
    exact ⟨-1, D, rfl, rfl, hh⟩

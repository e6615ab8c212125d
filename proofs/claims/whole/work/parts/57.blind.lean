theorem e_were {D : Mm} {a s : Int} (s0 : 0 ≤ s) (s1 : s < 6) : f_Finds_blindThatWere a s D = some (zsum (fun t => D (a + 13 + s) t) 6) := by
  unfold f_Finds_blindThatWere
  refine zup (fun n i b => f_Finds_blindThatWere_4 a s D n b i) 6 (fun i b => 0 ≤ i ∧ b = zsum (fun t => D (a + 13 + s) t) i.toNat) (fun o => o = some (zsum (fun t => D (a + 13 + s) t) 6)) ?_ ?_ 6 zF 0 0 rfl (by decide) (zF_pos (by decide)) ⟨by decide, rfl⟩
  · intro n b ⟨_, hb⟩
    show f_Finds_blindThatWere_4 a s D (n + 1) b 6 = _
    rw [f_Finds_blindThatWere_4, if_pos (by decide +kernel), hb]
    rfl
  · intro n i b hi ⟨h2, hb⟩
    refine ⟨b + D (a + 13 + s) i, ⟨by omega, by rw [hb, zsum_s _ h2]⟩, ?_⟩
    show f_Finds_blindThatWere_4 a s D (n + 1) b i = _
    rw [f_Finds_blindThatWere_4, if_neg (fun q => by have := (zI_le (by omega) (by omega) (by omega) (by omega)).mp q; omega), if_pos ⟨s0, s1⟩, if_pos ⟨h2, hi⟩]
theorem e_called {D : Mm} {a s : Int} (s0 : 0 ≤ s) (s1 : s < 6) : f_Finds_blindCalled a s D = some (zsum (fun t => D (a + 13 + t) s) 6) := by
  unfold f_Finds_blindCalled
  refine zup (fun n i b => f_Finds_blindCalled_4 a s D n b i) 6 (fun i b => 0 ≤ i ∧ b = zsum (fun t => D (a + 13 + t) s) i.toNat) (fun o => o = some (zsum (fun t => D (a + 13 + t) s) 6)) ?_ ?_ 6 zF 0 0 rfl (by decide) (zF_pos (by decide)) ⟨by decide, rfl⟩
  · intro n b ⟨_, hb⟩
    show f_Finds_blindCalled_4 a s D (n + 1) b 6 = _
    rw [f_Finds_blindCalled_4, if_pos (by decide +kernel), hb]
    rfl
  · intro n i b hi ⟨h2, hb⟩
    refine ⟨b + D (a + 13 + i) s, ⟨by omega, by rw [hb, zsum_s _ h2]⟩, ?_⟩
    show f_Finds_blindCalled_4 a s D (n + 1) b i = _
    rw [f_Finds_blindCalled_4, if_neg (fun q => by have := (zI_le (by omega) (by omega) (by omega) (by omega)).mp q; omega), if_pos ⟨h2, hi⟩, if_pos ⟨s0, s1⟩]
theorem e_ofF {D : Mm} {s : Int} (s0 : 0 ≤ s) (s1 : s < 6) : f_Model_blindOf s 0 D = some (zsum (fun t => D 161 (6 * s + t)) 6) := by
  unfold f_Model_blindOf
  refine zup (fun n i b => f_Model_blindOf_5 s 0 D n b i) 6 (fun i b => 0 ≤ i ∧ b = zsum (fun t => D 161 (6 * s + t)) i.toNat) (fun o => o = some (zsum (fun t => D 161 (6 * s + t)) 6)) ?_ ?_ 6 zF 0 0 rfl (by decide) (zF_pos (by decide)) ⟨by decide, rfl⟩
  · intro n b ⟨_, hb⟩
    show f_Model_blindOf_5 s 0 D (n + 1) b 6 = _
    rw [f_Model_blindOf_5, if_pos (by decide +kernel), hb]
    rfl
  · intro n i b hi ⟨h2, hb⟩
    refine ⟨b + D 161 (6 * s + i), ⟨by omega, by rw [hb, zsum_s _ h2]⟩, ?_⟩
    show f_Model_blindOf_5 s 0 D (n + 1) b i = _
    rw [f_Model_blindOf_5, if_neg (fun q => by have := (zI_le (by omega) (by omega) (by omega) (by omega)).mp q; omega), if_pos (by decide +kernel), if_pos ⟨by omega, by omega⟩]
    rfl
theorem e_ofT {D : Mm} {s : Int} (s0 : 0 ≤ s) (s1 : s < 6) : f_Model_blindOf s 1 D = some (zsum (fun t => D 161 (6 * t + s)) 6) := by
  unfold f_Model_blindOf
  refine zup (fun n i b => f_Model_blindOf_5 s 1 D n b i) 6 (fun i b => 0 ≤ i ∧ b = zsum (fun t => D 161 (6 * t + s)) i.toNat) (fun o => o = some (zsum (fun t => D 161 (6 * t + s)) 6)) ?_ ?_ 6 zF 0 0 rfl (by decide) (zF_pos (by decide)) ⟨by decide, rfl⟩
  · intro n b ⟨_, hb⟩
    show f_Model_blindOf_5 s 1 D (n + 1) b 6 = _
    rw [f_Model_blindOf_5, if_pos (by decide +kernel), hb]
    rfl
  · intro n i b hi ⟨h2, hb⟩
    refine ⟨b + D 161 (6 * i + s), ⟨by omega, by rw [hb, zsum_s _ h2]⟩, ?_⟩
    show f_Model_blindOf_5 s 1 D (n + 1) b i = _
    rw [f_Model_blindOf_5, if_neg (fun q => by have := (zI_le (by omega) (by omega) (by omega) (by omega)).mp q; omega), if_neg (by decide +kernel), if_pos ⟨by omega, by omega⟩]
    rfl
theorem e_blindAll (D : Mm) : f_Model_blindAll D = some (zsum (fun k => D 161 k) 36) := by
  unfold f_Model_blindAll
  refine zup (fun n i b => f_Model_blindAll_4 D n b i) 36 (fun i b => 0 ≤ i ∧ b = zsum (fun k => D 161 k) i.toNat) (fun o => o = some (zsum (fun k => D 161 k) 36)) ?_ ?_ 36 zF 0 0 rfl (by decide) (zF_pos (by decide)) ⟨by decide, rfl⟩
  · intro n b ⟨_, hb⟩
    show f_Model_blindAll_4 D (n + 1) b 36 = _
    rw [f_Model_blindAll_4, if_pos (by decide +kernel), hb]
    rfl
  · intro n i b hi ⟨h2, hb⟩
    refine ⟨b + D 161 i, ⟨by omega, by rw [hb, zsum_s _ h2]⟩, ?_⟩
    show f_Model_blindAll_4 D (n + 1) b i = _
    rw [f_Model_blindAll_4, if_neg (fun q => by have := (zI_le (by omega) (by omega) (by omega) (by omega)).mp q; omega), if_pos ⟨by omega, by omega⟩]
theorem zsum_b {f : Int → Int} {M : Int} (hM : 0 ≤ M) : ∀ n : Nat, (∀ k : Int, 0 ≤ k → k < n → 0 ≤ f k ∧ f k ≤ M) → 0 ≤ zsum f n ∧ zsum f n ≤ n * M := by
  intro n
  induction n with
  | zero => intro _; exact ⟨Int.le_refl _, by simp [zsum]⟩
  | succ n ih =>
    intro h
    obtain ⟨h1, h2⟩ := ih (fun k h0 h1 => h k h0 (by omega))
    obtain ⟨h3, h4⟩ := h n (by omega) (by omega)
    have e : ((n + 1 : Nat) : Int) * M = n * M + M := by
      rw [Int.natCast_add, Int.add_mul]
      simp
    rw [e]
    show 0 ≤ zsum f n + f n ∧ zsum f n + f n ≤ _
    omega
theorem were_eq {D : Mm} {p s : Int} (h : FL D p) (s0 : 0 ≤ s) (s1 : s < 6) : zsum (fun t => D 161 (6 * s + t)) 6 = zsum (fun t => D (12 + 13 + s) t) 6 ∧ 0 ≤ zsum (fun t => D (12 + 13 + s) t) 6 ∧ zsum (fun t => D (12 + 13 + s) t) 6 ≤ 1200 := by
  obtain ⟨-, -, -, h4, h5, -⟩ := h
  refine ⟨zsum_cong 6 (fun k k0 k1 => (h4 s k s0 s1 k0 (by omega)).1), ?_⟩
  have := zsum_b (f := fun t => D (12 + 13 + s) t) (M := 200) (by decide) 6 (fun k k0 k1 => by have := h4 s k s0 s1 k0 (by omega); constructor <;> omega)
  exact ⟨this.1, by have := this.2; omega⟩
theorem called_eq {D : Mm} {p s : Int} (h : FL D p) (s0 : 0 ≤ s) (s1 : s < 6) : zsum (fun t => D 161 (6 * t + s)) 6 = zsum (fun t => D (12 + 13 + t) s) 6 ∧ 0 ≤ zsum (fun t => D (12 + 13 + t) s) 6 ∧ zsum (fun t => D (12 + 13 + t) s) 6 ≤ 1200 := by
  obtain ⟨-, -, -, h4, h5, -⟩ := h
  refine ⟨zsum_cong 6 (fun k k0 k1 => (h4 k s k0 (by omega) s0 s1).1), ?_⟩
  have := zsum_b (f := fun t => D (12 + 13 + t) s) (M := 200) (by decide) 6 (fun k k0 k1 => by have := h4 k s k0 (by omega) s0 s1; constructor <;> omega)
  exact ⟨this.1, by have := this.2; omega⟩
theorem q_lean {D : Mm} (h : Iv D) {t : Int} (ht : Rg t) : Eq2 (f_Main_lean t D) (f_Model_lean t D) := by
  have hq := h.q
  obtain ⟨-, -, ⟨hs, -⟩, hfl, -⟩ := h
  unfold f_Main_lean f_Model_lean
  simp only [hq, if_true]
  rw [e_hasSort ht ⟨by omega, by omega⟩, bnd_if, e_isSort ht hs.2.2 ⟨by omega, by omega⟩, bnd_if]
  by_cases c : 0 ≤ t ∧ t < D (D 1 7) 0
  · rw [if_pos c, if_pos c, e_called c.1 (by omega), e_were c.1 (by omega), e_ofT c.1 (by omega), e_ofF c.1 (by omega), (were_eq hfl c.1 (by omega)).1, (called_eq hfl c.1 (by omega)).1]
    exact Eq2.rf
  · rw [if_neg c, if_neg c]
    exact Eq2.rf
theorem q_right {D : Mm} (h : Iv D) {t c : Int} (ht : Rg t) (hc : Rg c) : Eq2 (f_Main_right t c D) (f_Model_right t c D) := by
  have hq := h.q
  obtain ⟨-, -, ⟨hs, -⟩, hfl, -⟩ := h
  unfold f_Main_right f_Model_right
  simp only [hq, if_true]
  rw [e_hasSort ht ⟨by omega, by omega⟩, bnd_if, e_isSort ht hs.2.2 ⟨by omega, by omega⟩, bnd_if, e_within hc ⟨by decide, by decide⟩ ⟨by decide, by decide⟩, bnd_if, wI_id hc.1 hc.2, e_in hc ⟨by decide, by decide⟩ ⟨by decide, by decide⟩, bnd_if]
  by_cases c1 : 0 ≤ t ∧ t < D (D 1 7) 0
  · rw [if_pos c1, if_pos c1]
    by_cases c2 : 0 ≤ c ∧ c ≤ 999
    · rw [if_pos c2, if_pos c2, e_called c1.1 (by omega), e_were c1.1 (by omega), e_ofT c1.1 (by omega), e_ofF c1.1 (by omega), (were_eq hfl c1.1 (by omega)).1, (called_eq hfl c1.1 (by omega)).1]
      simp only [Option.bind_some]
      by_cases z : zI (zsum (fun t_1 => D (12 + 13 + t_1) t) 6) = 0
      · simp only [if_pos z]; exact Eq2.rf
      · simp only [if_neg z]; exact Eq2.rf
    · rw [if_neg c2, if_neg c2]; exact Eq2.rf
  · rw [if_neg c1, if_neg c1]; exact Eq2.rf
theorem q_slips {D : Mm} (h : Iv D) {s t p : Int} (hs0 : Rg s) (ht : Rg t) (hp : Rg p) : Eq2 (f_Main_slips s t p D) (f_Model_slips s t p D) := by
  have hq := h.q
  obtain ⟨-, -, ⟨hs, -⟩, hfl, -⟩ := h
  unfold f_Main_slips f_Model_slips
  simp only [hq, if_true]
  rw [e_hasSort hs0 ⟨by omega, by omega⟩, bnd_if, e_isSort hs0 hs.2.2 ⟨by omega, by omega⟩, bnd_if, e_hasSort ht ⟨by omega, by omega⟩, bnd_if, e_isSort ht hs.2.2 ⟨by omega, by omega⟩, bnd_if, e_within hp ⟨by decide, by decide⟩ ⟨by decide, by decide⟩, bnd_if, wI_id hp.1 hp.2, e_in hp ⟨by decide, by decide⟩ ⟨by decide, by decide⟩, bnd_if]
  by_cases c1 : 0 ≤ s ∧ s < D (D 1 7) 0
  · rw [if_pos c1, if_pos c1]
    by_cases c2 : 0 ≤ t ∧ t < D (D 1 7) 0
    · rw [if_pos c2, if_pos c2]
      by_cases c3 : 0 ≤ p ∧ p ≤ 1
      · obtain ⟨w1, w2, w3⟩ := were_eq hfl c1.1 (show s < 6 by omega)
        obtain ⟨b1, b2, b3⟩ := hfl.2.2.2.1 s t c1.1 (by omega) c2.1 (by omega)
        have b4 := hfl.2.2.2.2.1.2.2
        rw [if_pos c3, if_pos c3, e_were c1.1 (by omega), e_ofF c1.1 (by omega), w1]
        simp only [Option.bind_some]
        generalize zsum (fun t => D (12 + 13 + s) t) 6 = W at w2 w3 ⊢
        by_cases z : W = 0
        · have z2 := (zI_eq0 (a := W) (by omega) (by omega)).mpr z
          simp only [if_pos z2]; exact Eq2.rf
        · have z2 : ¬ zI W = 0 := fun q => z ((zI_eq0 (by omega) (by omega)).mp q)
          have g1 : 0 ≤ 6 * s + t ∧ 6 * s + t < 108 := by omega
          have g0 := zgcd_pos (x := D (12 + 13 + s) t) (show 0 < W by omega)
          have g2 := zgcd_le (x := D (12 + 13 + s) t) (show 0 < W by omega)
          rw [if_neg z2, if_neg z2, if_pos ⟨c1.1, by omega⟩, if_pos ⟨c2.1, by omega⟩, if_pos g1, b1, wI_id (a := D (12 + 13 + s) t) (by omega) (by omega), wI_id (a := W) (by omega) (by omega), e_lowest b2 (by omega) (by omega) (by omega) hp, e_common b2 (by omega) (by omega) (by omega)]
          simp only [Option.bind_some, if_pos g1]
          have z3 : ¬ zI (zgcd (D (12 + 13 + s) t) W) = 0 := fun q => by have := (zI_eq0 (by omega) (by omega)).mp q; omega
          rw [if_neg z3, if_neg z3, jdiv_nn b2 (by omega) g0 (by omega), jdiv_nn w2 (by omega) g0 (by omega)]
          by_cases hp0 : p = 0
          · rw [if_pos hp0, if_pos ((zI_eq0 hp.1 hp.2).mpr hp0)]; exact Eq2.rf
          · rw [if_neg hp0, if_neg (fun q => hp0 ((zI_eq0 hp.1 hp.2).mp q))]; exact Eq2.rf
      · rw [if_neg c3, if_neg c3]; exact Eq2.rf
    · rw [if_neg c2, if_neg c2]; exact Eq2.rf
  · rw [if_neg c1, if_neg c1]; exact Eq2.rf

/-! the two readers of the text: one number -/
def TC (T : Int → Int) (L : Int) (C : Mm) : Prop := C 2 1 = L ∧ ∀ k, 0 ≤ k → k < L → C 3 k = T k
def TM (T : Int → Int) (L : Int) (M : Mm) : Prop := M 144 0 = L ∧ ∀ k, 0 ≤ k → k < L → M 145 k = T k
def TB (T : Int → Int) (L : Int) : Prop := 0 ≤ L ∧ L ≤ 500 ∧ ∀ k, 0 ≤ k → k < L → 0 ≤ T k ∧ T k ≤ 255
def dgt (T : Int → Int) (L p : Int) : Prop := p < L ∧ 48 ≤ T p ∧ T p ≤ 57
def Nm (T : Int → Int) (L p k v : Int) : Prop := dgt T L p ∧ ((k = 1 ∧ ¬ dgt T L (p + 1) ∧ v = T p - 48) ∨ (k = 2 ∧ dgt T L (p + 1) ∧ ¬ dgt T L (p + 2) ∧ v = (T p - 48) * 10 + T (p + 1) - 48) ∨ (k = 3 ∧ dgt T L (p + 1) ∧ dgt T L (p + 2) ∧ ¬ dgt T L (p + 3) ∧ v = ((T p - 48) * 10 + T (p + 1) - 48) * 10 + T (p + 2) - 48))
def N4 (T : Int → Int) (L p : Int) : Prop := dgt T L p ∧ dgt T L (p + 1) ∧ dgt T L (p + 2) ∧ dgt T L (p + 3)
theorem Nm_all (T : Int → Int) (L p : Int) : ¬ dgt T L p ∨ N4 T L p ∨ ∃ k v, Nm T L p k v := by
  by_cases h0 : dgt T L p
  · by_cases h1 : dgt T L (p + 1)
    · by_cases h2 : dgt T L (p + 2)
      · by_cases h3 : dgt T L (p + 3)
        · exact Or.inr (Or.inl ⟨h0, h1, h2, h3⟩)
        · exact Or.inr (Or.inr ⟨3, _, h0, Or.inr (Or.inr ⟨rfl, h1, h2, h3, rfl⟩)⟩)
      · exact Or.inr (Or.inr ⟨2, _, h0, Or.inr (Or.inl ⟨rfl, h1, h2, rfl⟩)⟩)
    · exact Or.inr (Or.inr ⟨1, _, h0, Or.inl ⟨rfl, h1, rfl⟩⟩)
  · exact Or.inl h0
theorem Nm.r {T : Int → Int} {L p k v : Int} (h : Nm T L p k v) : 1 ≤ k ∧ k ≤ 3 ∧ 0 ≤ v ∧ v ≤ 999 ∧ p + k ≤ L := by
  unfold Nm dgt at h
  omega
theorem e_at {T : Int → Int} {L : Int} {C : Mm} (tb : TB T L) (tc : TC T L C) {p : Int} (p0 : 0 ≤ p) (p1 : p ≤ 1000) : f_Text_at p C = some (if p < L then T p else -1) := by
  unfold f_Text_at
  obtain ⟨l0, l1, -⟩ := tb
  rw [if_neg (fun q => by have := (zI_lt0 (by omega) (by omega)).mp q; omega), tc.1]
  by_cases c : p < L
  · rw [if_neg (fun q => by have := (zI_le (by omega) (by omega) (by omega) (by omega)).mp q; omega), if_pos (by omega), if_pos c, tc.2 p p0 c]
  · rw [if_pos ((zI_le (by omega) (by omega) (by omega) (by omega)).mpr (by omega)), if_neg c]
theorem e_bat {T : Int → Int} {L : Int} {M : Mm} (tb : TB T L) (tm : TM T L M) {p : Int} (p0 : 0 ≤ p) (p1 : p ≤ 1000) : f_Model_byteAt p M = some (if p < L then T p else 0) := by
  unfold f_Model_byteAt
  obtain ⟨l0, l1, -⟩ := tb
  rw [tm.1]
  by_cases c : p < L
  · rw [if_neg (fun q => by have := (zI_le (by omega) (by omega) (by omega) (by omega)).mp q; omega), if_pos (by omega), if_pos c, tm.2 p p0 c]
  · rw [if_pos ((zI_le (by omega) (by omega) (by omega) (by omega)).mpr (by omega)), if_neg c]
theorem e_isFy {T : Int → Int} {L : Int} {C : Mm} (tb : TB T L) (tc : TC T L C) {p : Int} (p0 : 0 ≤ p) (h : dgt T L p) : f_Text_isFigure p C = some 1 := by
  unfold f_Text_isFigure
  obtain ⟨h1, h2, h3⟩ := h
  have l1 := tb.2.1
  rw [e_at tb tc p0 (by omega), if_pos h1]
  simp only [Option.bind_some]
  rw [if_neg (fun q => by have := (zI_lt (by omega) (by omega) (by omega) (by omega)).mp q; omega), if_neg (fun q => by have := (zI_lt (by omega) (by omega) (by omega) (by omega)).mp q; omega)]
theorem e_isFn {T : Int → Int} {L : Int} {C : Mm} (tb : TB T L) (tc : TC T L C) {p : Int} (p0 : 0 ≤ p) (p1 : p ≤ 1000) (h : ¬ dgt T L p) : f_Text_isFigure p C = some 0 := by
  unfold f_Text_isFigure
  rw [e_at tb tc p0 p1]
  simp only [Option.bind_some]
  by_cases c : p < L
  · have tt := tb.2.2 p p0 c
    rw [if_pos c]
    by_cases d : T p < 48
    · rw [if_pos ((zI_lt (by omega) (by omega) (by omega) (by omega)).mpr d)]
    · rw [if_neg (fun q => by have := (zI_lt (by omega) (by omega) (by omega) (by omega)).mp q; omega), if_pos ((zI_lt (by omega) (by omega) (by omega) (by omega)).mpr (by unfold dgt at h; omega))]
  · rw [if_neg c, if_pos (by decide +kernel)]
theorem e_figs0 {T : Int → Int} {L : Int} {C : Mm} (tb : TB T L) (tc : TC T L C) {p : Int} (p0 : 0 ≤ p) (p1 : p ≤ 900) (h : ¬ dgt T L p) : f_Scribe_figuresAt p C = some 0 := by
  unfold f_Scribe_figuresAt
  obtain ⟨n, hn⟩ : ∃ n, zF = n + 5 := ⟨999995, rfl⟩
  rw [hn, f_Scribe_figuresAt_2, if_neg (by decide +kernel), e_isFn tb tc (p := p + 0) (by omega) (by omega) (by rw [Int.add_zero]; exact h)]
  rfl
theorem e_fst {T : Int → Int} {L : Int} {C : Mm} (tb : TB T L) (tc : TC T L C) {p i : Int} (n : Nat) (i0 : 0 ≤ i) (i1 : i < 3) (p0 : 0 ≤ p) (h : dgt T L (p + i)) : f_Scribe_figuresAt_2 p C (n + 1) i = f_Scribe_figuresAt_2 p C n (i + 1) := by
  rw [f_Scribe_figuresAt_2, if_neg (fun q => by have := (zI_le (by omega) (by omega) (by omega) (by omega)).mp q; omega), e_isFy tb tc (by omega) h]
  rfl
theorem e_fsn {T : Int → Int} {L : Int} {C : Mm} (tb : TB T L) (tc : TC T L C) {p i : Int} (n : Nat) (i0 : 0 ≤ i) (i1 : i < 3) (p0 : 0 ≤ p) (p1 : p ≤ 900) (h : ¬ dgt T L (p + i)) : f_Scribe_figuresAt_2 p C (n + 1) i = some i := by
  rw [f_Scribe_figuresAt_2, if_neg (fun q => by have := (zI_le (by omega) (by omega) (by omega) (by omega)).mp q; omega), e_isFn tb tc (by omega) (by omega) h]
  rfl
theorem e_figs3 {T : Int → Int} {L : Int} {C : Mm} (tb : TB T L) (tc : TC T L C) {p : Int} (p0 : 0 ≤ p) (h : dgt T L p) (h1 : dgt T L (p + 1)) (h2 : dgt T L (p + 2)) : f_Scribe_figuresAt p C = some 3 := by
  unfold f_Scribe_figuresAt
  obtain ⟨n, hn⟩ : ∃ n, zF = n + 5 := ⟨999995, rfl⟩
  rw [hn, e_fst tb tc (n + 4) (by decide) (by decide) p0 (by rw [Int.add_zero]; exact h), show (0 : Int) + 1 = 1 from rfl, e_fst tb tc (n + 3) (by decide) (by decide) p0 h1, show (1 : Int) + 1 = 2 from rfl, e_fst tb tc (n + 2) (by decide) (by decide) p0 h2, show (2 : Int) + 1 = 3 from rfl, f_Scribe_figuresAt_2, if_pos (by decide +kernel)]
theorem e_figs {T : Int → Int} {L : Int} {C : Mm} (tb : TB T L) (tc : TC T L C) {p k v : Int} (p0 : 0 ≤ p) (h : Nm T L p k v) : f_Scribe_figuresAt p C = some k := by
  obtain ⟨h0, h⟩ := h
  have l1 := tb.2.1
  have p1 : p ≤ 900 := by unfold dgt at h0; omega
  rcases h with ⟨rfl, h1, -⟩ | ⟨rfl, h1, h2, -⟩ | ⟨rfl, h1, h2, -, -⟩
  · unfold f_Scribe_figuresAt
    obtain ⟨n, hn⟩ : ∃ n, zF = n + 5 := ⟨999995, rfl⟩
    rw [hn, e_fst tb tc (n + 4) (by decide) (by decide) p0 (by rw [Int.add_zero]; exact h0), show (0 : Int) + 1 = 1 from rfl, e_fsn tb tc (n + 3) (by decide) (by decide) p0 p1 h1]
  · unfold f_Scribe_figuresAt
    obtain ⟨n, hn⟩ : ∃ n, zF = n + 5 := ⟨999995, rfl⟩
    rw [hn, e_fst tb tc (n + 4) (by decide) (by decide) p0 (by rw [Int.add_zero]; exact h0), show (0 : Int) + 1 = 1 from rfl, e_fst tb tc (n + 3) (by decide) (by decide) p0 h1, show (1 : Int) + 1 = 2 from rfl, e_fsn tb tc (n + 2) (by decide) (by decide) p0 p1 h2]
  · exact e_figs3 tb tc p0 h0 h1 h2
theorem e_nst {T : Int → Int} {L : Int} {C : Mm} (tb : TB T L) (tc : TC T L C) {p k a i : Int} (n : Nat) (i0 : 0 ≤ i) (i1 : i < k) (k1 : k ≤ 3) (p0 : 0 ≤ p) (h : dgt T L (p + i)) : f_Scribe_numberAt_5 p k C (n + 1) a i = f_Scribe_numberAt_5 p k C n (a * 10 + T (p + i) - 48) (i + 1) := by
  have l1 := tb.2.1
  obtain ⟨h1, h2, h3⟩ := h
  rw [f_Scribe_numberAt_5, if_neg (fun q => by have := (zI_le (by omega) (by omega) (by omega) (by omega)).mp q; omega), e_at tb tc (by omega) (by omega), if_pos h1]
  rfl
theorem e_nse {C : Mm} {p k a : Int} (n : Nat) : f_Scribe_numberAt_5 p k C (n + 1) a k = some a := by
  rw [f_Scribe_numberAt_5, if_pos (Int32.le_refl _)]
theorem e_nmb {T : Int → Int} {L : Int} {C : Mm} (tb : TB T L) (tc : TC T L C) {p k v : Int} (p0 : 0 ≤ p) (h : Nm T L p k v) : f_Scribe_numberAt p k C = some v := by
  obtain ⟨h0, h⟩ := h
  unfold f_Scribe_numberAt
  obtain ⟨n, hn⟩ : ∃ n, zF = n + 5 := ⟨999995, rfl⟩
  rw [hn]
  rcases h with ⟨rfl, h1, rfl⟩ | ⟨rfl, h1, h2, rfl⟩ | ⟨rfl, h1, h2, -, rfl⟩
  · rw [e_nst tb tc (n + 4) (by decide) (by decide) (by decide) p0 (by rw [Int.add_zero]; exact h0), show (0 : Int) + 1 = 1 from rfl, e_nse, Int.add_zero]
    congr 1
    omega
  · rw [e_nst tb tc (n + 4) (by decide) (by decide) (by decide) p0 (by rw [Int.add_zero]; exact h0), show (0 : Int) + 1 = 1 from rfl, e_nst (k := 2) tb tc (n + 3) (by decide) (by decide) (by decide) p0 h1, show (1 : Int) + 1 = 2 from rfl, e_nse, Int.add_zero]
    congr 1
    omega
  · rw [e_nst tb tc (n + 4) (by decide) (by decide) (by decide) p0 (by rw [Int.add_zero]; exact h0), show (0 : Int) + 1 = 1 from rfl, e_nst (k := 3) tb tc (n + 3) (by decide) (by decide) (by decide) p0 h1, show (1 : Int) + 1 = 2 from rfl, e_nst (k := 3) tb tc (n + 2) (by decide) (by decide) (by decide) p0 h2, show (2 : Int) + 1 = 3 from rfl, e_nse, Int.add_zero]
    congr 1
    omega
-- the model's number
def PF (M' M : Mm) : Prop := ∀ c j, ¬ (c = 144 ∧ j = 20) → M' c j = M c j
theorem TM.pf {T : Int → Int} {L : Int} {M M' : Mm} (tm : TM T L M) (h : PF M' M) : TM T L M' := ⟨by rw [h _ _ (by omega)]; exact tm.1, fun k k0 k1 => by rw [h _ _ (by omega)]; exact tm.2 k k0 k1⟩
theorem e_m12y {T : Int → Int} {L : Int} {M : Mm} (tb : TB T L) (tm : TM T L M) {m i a b p : Int} {K : Int → Mm → Option (Int × Mm)} (n : Nat) (hp : M 144 20 = p) (p0 : 0 ≤ p) (h : dgt T L p) (a0 : 0 ≤ a) (a1 : a < 4) : ∃ M', f_Model_figures_12 m i K (n + 1) a b M = f_Model_figures_12 m i K n (a + 1) (10 * b + T p - 48) M' ∧ M' 144 20 = p + 1 ∧ PF M' M := by
  have l1 := tb.2.1
  obtain ⟨h1, h2, h3⟩ := h
  refine ⟨stm M 144 20 (p + 1), ?_, stm_eq ⟨rfl, rfl⟩, fun c j x => stm_ne (by omega)⟩
  rw [f_Model_figures_12, hp, e_bat tb tm p0 (by omega), if_pos h1]
  simp only [Option.bind_some]
  rw [wI_id (by omega) (by omega), e_in ⟨by omega, by omega⟩ ⟨by decide, by decide⟩ ⟨by decide, by decide⟩, if_pos ⟨h2, h3⟩]
  simp only [Option.bind_some]
  rw [if_neg (by decide +kernel), if_neg (fun q => by have := (zI_le (by omega) (by omega) (by omega) (by omega)).mp q; omega)]
  rfl
theorem e_m12n {T : Int → Int} {L : Int} {M : Mm} (tb : TB T L) (tm : TM T L M) {m i a b p : Int} {K : Int → Mm → Option (Int × Mm)} (n : Nat) (hp : M 144 20 = p) (p0 : 0 ≤ p) (p1 : p ≤ 1000) (h : ¬ dgt T L p) : f_Model_figures_12 m i K (n + 1) a b M = f_Model_figures_73 m i a b K M := by
  rw [f_Model_figures_12, hp, e_bat tb tm p0 (by omega)]
  simp only [Option.bind_some]
  by_cases c : p < L
  · have tt := tb.2.2 p p0 c
    rw [if_pos c, wI_id (by omega) (by omega), e_in ⟨by omega, by omega⟩ ⟨by decide, by decide⟩ ⟨by decide, by decide⟩, if_neg (by unfold dgt at h; omega)]
    simp only [Option.bind_some]
    rw [if_pos (by decide +kernel)]
  · rw [if_neg c, wI_id (by omega) (by omega), e_in ⟨by omega, by omega⟩ ⟨by decide, by decide⟩ ⟨by decide, by decide⟩, if_neg (by omega)]
    simp only [Option.bind_some]
    rw [if_pos (by decide +kernel)]
theorem e_m12f {T : Int → Int} {L : Int} {M : Mm} (tb : TB T L) (tm : TM T L M) {m i b p : Int} {K : Int → Mm → Option (Int × Mm)} (n : Nat) (hp : M 144 20 = p) (p0 : 0 ≤ p) (p1 : p ≤ 1000) : f_Model_figures_12 m i K (n + 1) 4 b M = f_Model_figures_73 m i 4 b K M := by
  by_cases h : dgt T L p
  · obtain ⟨h1, h2, h3⟩ := h
    rw [f_Model_figures_12, hp, e_bat tb tm p0 (by omega), if_pos h1]
    simp only [Option.bind_some]
    rw [wI_id (by omega) (by omega), e_in ⟨by omega, by omega⟩ ⟨by decide, by decide⟩ ⟨by decide, by decide⟩, if_pos ⟨h2, h3⟩]
    simp only [Option.bind_some]
    rw [if_neg (by decide +kernel), if_pos (by decide +kernel)]
  · exact e_m12n tb tm n hp p0 p1 h
theorem PF.t {A B C : Mm} (h1 : PF A B) (h2 : PF B C) : PF A C := fun c j x => (h1 c j x).trans (h2 c j x)
theorem PF.r (A : Mm) : PF A A := fun _ _ _ => rfl
theorem e_mnm {T : Int → Int} {L : Int} {M : Mm} (tb : TB T L) (tm : TM T L M) {m i p k v : Int} {K : Int → Mm → Option (Int × Mm)} (hp : M 144 20 = p) (p0 : 0 ≤ p) (h : Nm T L p k v) : ∃ M', f_Model_figures_12 m i K zF 0 0 M = f_Model_figures_73 m i k v K M' ∧ M' 144 20 = p + k ∧ PF M' M := by
  have l1 := tb.2.1
  have hr := h.r
  obtain ⟨h0, h⟩ := h
  obtain ⟨n, hn⟩ : ∃ n, zF = n + 5 := ⟨999995, rfl⟩
  rw [hn]
  obtain ⟨A, a1, a2, a3⟩ := e_m12y tb tm (m := m) (i := i) (a := 0) (b := 0) (K := K) (n + 4) hp p0 h0 (by decide) (by decide)
  have ta := tm.pf a3
  rcases h with ⟨rfl, h1, rfl⟩ | ⟨rfl, h1, h2, rfl⟩ | ⟨rfl, h1, h2, h3, rfl⟩
  · refine ⟨A, ?_, a2, a3⟩
    rw [a1, e_m12n tb ta (n + 3) a2 (by omega) (by omega) h1]
    congr 1
    omega
  · obtain ⟨B, b1, b2, b3⟩ := e_m12y tb ta (m := m) (i := i) (a := 0 + 1) (b := 10 * 0 + T p - 48) (K := K) (n + 3) a2 (by omega) h1 (by decide) (by decide)
    have tb' := ta.pf b3
    refine ⟨B, ?_, by omega, b3.t a3⟩
    rw [a1, b1, e_m12n tb tb' (n + 2) b2 (by omega) (by omega) (by rw [show p + 1 + 1 = p + 2 by omega]; exact h2)]
    congr 1
    omega
  · obtain ⟨B, b1, b2, b3⟩ := e_m12y tb ta (m := m) (i := i) (a := 0 + 1) (b := 10 * 0 + T p - 48) (K := K) (n + 3) a2 (by omega) h1 (by decide) (by decide)
    have tb' := ta.pf b3
    obtain ⟨G, c1, c2, c3⟩ := e_m12y tb tb' (m := m) (i := i) (a := 0 + 1 + 1) (b := 10 * (10 * 0 + T p - 48) + T (p + 1) - 48) (K := K) (n + 2) b2 (by omega) (by rw [show p + 1 + 1 = p + 2 by omega]; exact h2) (by decide) (by decide)
    have tc' := tb'.pf c3
    refine ⟨G, ?_, by omega, (c3.t b3).t a3⟩
    rw [a1, b1, c1, e_m12n tb tc' (n + 1) c2 (by omega) (by omega) (by rw [show p + 1 + 1 + 1 = p + 3 by omega]; exact h3)]
    rw [show p + 1 + 1 = p + 2 by omega]
    congr 1
    omega
theorem e_m73b {M : Mm} {m i k v : Int} {K : Int → Mm → Option (Int × Mm)} (h : k = 0 ∨ k = 4) : f_Model_figures_73 m i k v K M = some (0, M) := by
  unfold f_Model_figures_73
  rw [wI_id (by omega) (by omega), e_in ⟨by omega, by omega⟩ ⟨by decide, by decide⟩ ⟨by decide, by decide⟩, if_neg (by omega)]
  rfl
theorem e_mbd {T : Int → Int} {L : Int} {M : Mm} (tb : TB T L) (tm : TM T L M) {m i p : Int} {K : Int → Mm → Option (Int × Mm)} (hp : M 144 20 = p) (p0 : 0 ≤ p) (p1 : p ≤ 900) (h : ¬ dgt T L p ∨ N4 T L p) : ∃ M', f_Model_figures_12 m i K zF 0 0 M = some (0, M') ∧ PF M' M := by
  obtain ⟨n, hn⟩ : ∃ n, zF = n + 5 := ⟨999995, rfl⟩
  rw [hn]
  rcases h with h | ⟨h0, h1, h2, h3⟩
  · exact ⟨M, by rw [e_m12n tb tm (n + 4) hp p0 (by omega) h, e_m73b (Or.inl rfl)], PF.r _⟩
  · obtain ⟨A, a1, a2, a3⟩ := e_m12y tb tm (m := m) (i := i) (a := 0) (b := 0) (K := K) (n + 4) hp p0 h0 (by decide) (by decide)
    have ta := tm.pf a3
    obtain ⟨B, b1, b2, b3⟩ := e_m12y tb ta (m := m) (i := i) (a := 0 + 1) (b := 10 * 0 + T p - 48) (K := K) (n + 3) a2 (by omega) h1 (by decide) (by decide)
    have tb' := ta.pf b3
    obtain ⟨G, c1, c2, c3⟩ := e_m12y tb tb' (m := m) (i := i) (a := 0 + 1 + 1) (b := 10 * (10 * 0 + T p - 48) + T (p + 1) - 48) (K := K) (n + 2) b2 (by omega) (by rw [show p + 1 + 1 = p + 2 by omega]; exact h2) (by decide) (by decide)
    have tc' := tb'.pf c3
    obtain ⟨H, d1, d2, d3⟩ := e_m12y tb tc' (m := m) (i := i) (a := 0 + 1 + 1 + 1) (b := 10 * (10 * (10 * 0 + T p - 48) + T (p + 1) - 48) + T (p + 1 + 1) - 48) (K := K) (n + 1) c2 (by omega) (by rw [show p + 1 + 1 + 1 = p + 3 by omega]; exact h3) (by decide) (by decide)
    have td' := tc'.pf d3
    refine ⟨H, ?_, ((d3.t c3).t b3).t a3⟩
    rw [a1, b1, c1, d1]
    exact (e_m12f tb td' n d2 (by omega) (by omega)).trans (e_m73b (Or.inr rfl))

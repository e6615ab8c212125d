def sepz (m i : Int) : Int := if i = m - 1 then 59 else 44
theorem sepz_or (m i : Int) : sepz m i = 59 ∨ sepz m i = 44 := by unfold sepz; split <;> omega
theorem e_sepC {T : Int → Int} {L : Int} {C : Mm} (tb : TB T L) (tc : TC T L C) {m i p k v : Int} (n : Nat) (m0 : 2 ≤ m) (m4 : m ≤ 4) (i0 : 0 ≤ i) (i1 : i < m) (p0 : 0 ≤ p) (hf : f_Scribe_figuresAt p C = some k) (hv : f_Scribe_numberAt p k C = some v) (k1 : 1 ≤ k) (k3 : k ≤ 3) (pk : p + k ≤ L) : f_Scribe_placeBehindItem_23 m (n + 1) p i C = if p + k < L ∧ T (p + k) = sepz m i then f_Scribe_placeBehindItem_23 m n (p + k + 1) (i + 1) (stm C 5 i v) else some (-1, stm C 5 i v) := by
  have tc' : TC T L (stm C 5 i v) := ⟨by rw [stm_ne (by omega)]; exact tc.1, fun k k0 k1 => by rw [stm_ne (by omega)]; exact tc.2 k k0 k1⟩
  have l1 := tb.2.1
  rw [f_Scribe_placeBehindItem_23, if_neg (fun q => by have := (zI_le (by omega) (by omega) (by omega) (by omega)).mp q; omega), hf]
  simp only [Option.bind_some]
  rw [if_neg (fun q => by have := (zI_eq0 (by omega) (by omega)).mp q; omega), hv]
  simp only [Option.bind_some]
  rw [if_pos (by omega)]
  simp only [zst]
  rw [e_at tb tc' (by omega) (by omega)]
  simp only [Option.bind_some]
  unfold f_Scribe_placeBehindItem_87 sepz
  have fin : ∀ s : Int, s = 59 ∨ s = 44 → (if zI (if p + k < L then T (p + k) else -1) = zI s then f_Scribe_placeBehindItem_23 m n (p + k + 1) (i + 1) (stm C 5 i v) else some (-1, stm C 5 i v)) = if p + k < L ∧ T (p + k) = s then f_Scribe_placeBehindItem_23 m n (p + k + 1) (i + 1) (stm C 5 i v) else some (-1, stm C 5 i v) := fun s hs => by
    by_cases c : p + k < L
    · have tt := tb.2.2 (p + k) (by omega) c
      rw [if_pos c]
      by_cases d : T (p + k) = s
      · rw [if_pos (by rw [d]), if_pos ⟨c, d⟩]
      · rw [if_neg (fun q => d ((zI_eq (by omega) (by omega) (by omega) (by omega)).mp q)), if_neg (fun q => d q.2)]
    · rw [if_neg c, if_neg (fun q => by have := (zI_eq (by omega) (by omega) (by omega) (by omega)).mp q; omega), if_neg (fun q => c q.1)]
  by_cases e : i = m - 1
  · rw [if_pos (by rw [e]), if_pos e]
    exact fin 59 (by omega)
  · rw [if_neg (fun q => e ((zI_eq (by omega) (by omega) (by omega) (by omega)).mp q)), if_neg e]
    exact fin 44 (by omega)
theorem e_sepM {T : Int → Int} {L : Int} {M : Mm} (tb : TB T L) (tm : TM T L M) {m i p k v : Int} (n : Nat) (m0 : 2 ≤ m) (m4 : m ≤ 4) (i0 : 0 ≤ i) (i1 : i < m) (hp : M 144 20 = p) (p0 : 0 ≤ p) (h : Nm T L p k v) : ∃ M', f_Model_figures_2 m (n + 1) i M = (if p + k < L ∧ T (p + k) = sepz m i then f_Model_figures_2 m n (i + 1) (stm (stm M' 163 i v) 144 20 (p + k + 1)) else some (0, M')) ∧ M' 144 20 = p + k ∧ PF M' M := by
  have l1 := tb.2.1
  have hr := h.r
  obtain ⟨A, a1, a2, a3⟩ := e_mnm tb tm (m := m) (i := i) (K := f_Model_figures_2 m n) hp p0 h
  refine ⟨A, ?_, a2, a3⟩
  have ta := tm.pf a3
  rw [f_Model_figures_2, if_neg (fun q => by have := (zI_le (by omega) (by omega) (by omega) (by omega)).mp q; omega), a1]
  unfold f_Model_figures_73
  rw [wI_id (by omega) (by omega), e_in ⟨by omega, by omega⟩ ⟨by decide, by decide⟩ ⟨by decide, by decide⟩, if_pos (by omega)]
  simp only [Option.bind_some]
  rw [if_neg (by decide +kernel), a2, e_bat tb ta (by omega) (by omega)]
  simp only [Option.bind_some]
  unfold f_Model_figures_107 sepz
  simp only [zst]
  rw [if_pos (show 0 ≤ i ∧ i < 4 by omega), stm_ne (show (144 : Int) ≠ 163 ∨ (20 : Int) ≠ i by omega), a2]
  have fin : ∀ s : Int, s = 59 ∨ s = 44 → (if zI (if p + k < L then T (p + k) else 0) = zI s then f_Model_figures_2 m n (i + 1) (stm (stm A 163 i v) 144 20 (p + k + 1)) else some (0, A)) = if p + k < L ∧ T (p + k) = s then f_Model_figures_2 m n (i + 1) (stm (stm A 163 i v) 144 20 (p + k + 1)) else some (0, A) := fun s hs => by
    by_cases c : p + k < L
    · have tt := tb.2.2 (p + k) (by omega) c
      rw [if_pos c]
      by_cases d : T (p + k) = s
      · rw [if_pos (by rw [d]), if_pos ⟨c, d⟩]
      · rw [if_neg (fun q => d ((zI_eq (by omega) (by omega) (by omega) (by omega)).mp q)), if_neg (fun q => d q.2)]
    · rw [if_neg c, if_neg (fun q => by have := (zI_eq (by omega) (by omega) (by omega) (by omega)).mp q; omega), if_neg (fun q => c q.1)]
  by_cases e : i = m - 1
  · rw [if_pos ((zI_le (by omega) (by omega) (by omega) (by omega)).mpr (by omega)), if_pos e]
    exact fin 59 (by omega)
  · rw [if_neg (fun q => by have := (zI_le (by omega) (by omega) (by omega) (by omega)).mp q; omega), if_neg e]
    exact fin 44 (by omega)
def NC (C' C : Mm) : Prop := ∀ c j, c ≠ 5 → C' c j = C c j
def NM (M' M : Mm) : Prop := ∀ c j, ¬ (c = 144 ∧ j = 20) → c ≠ 163 → M' c j = M c j
def Nq (m : Int) (C M : Mm) : Prop := ∀ j, 0 ≤ j → j < m → M 163 j = C 5 j ∧ 0 ≤ C 5 j ∧ C 5 j ≤ 999
theorem TC.nc {T : Int → Int} {L : Int} {C C' : Mm} (tc : TC T L C) (h : NC C' C) : TC T L C' := ⟨by rw [h _ _ (by omega)]; exact tc.1, fun k k0 k1 => by rw [h _ _ (by omega)]; exact tc.2 k k0 k1⟩
theorem TM.nm {T : Int → Int} {L : Int} {M M' : Mm} (tm : TM T L M) (h : NM M' M) : TM T L M' := ⟨by rw [h _ _ (by omega) (by omega)]; exact tm.1, fun k k0 k1 => by rw [h _ _ (by omega) (by omega)]; exact tm.2 k k0 k1⟩
theorem e_nums {T : Int → Int} {L : Int} (tb : TB T L) {m : Int} (m0 : 2 ≤ m) (m4 : m ≤ 4) : ∀ (k n : Nat) (i p : Int) (C M : Mm), (m - i).toNat = k → 0 ≤ i → i ≤ m → k < n → 0 ≤ p → p ≤ L → TC T L C → TM T L M → M 144 20 = p → Nq i C M → (∃ C' M', f_Scribe_placeBehindItem_23 m n p i C = some (-1, C') ∧ f_Model_figures_2 m n i M = some (0, M') ∧ NC C' C ∧ NM M' M) ∨ (∃ p' C' M', f_Scribe_placeBehindItem_23 m n p i C = some (p', C') ∧ f_Model_figures_2 m n i M = some (1, M') ∧ (M' 144 20 = p' ∧ p ≤ p' ∧ p' ≤ L) ∧ Nq m C' M' ∧ NC C' C ∧ NM M' M) := by
  have l1 := tb.2.1
  intro k
  induction k with
  | zero =>
    intro n i p C M hk i0 i1 hn p0 p1 tc tm hp hq
    obtain ⟨n, rfl⟩ : ∃ x, n = x + 1 := ⟨n - 1, by omega⟩
    have hi : i = m := by omega
    subst hi
    refine Or.inr ⟨p, C, M, ?_, ?_, ⟨hp, Int.le_refl _, p1⟩, hq, fun _ _ _ => rfl, fun _ _ _ _ => rfl⟩
    · rw [f_Scribe_placeBehindItem_23, if_pos (Int32.le_refl _)]
    · rw [f_Model_figures_2, if_pos (Int32.le_refl _)]
  | succ k ih =>
    intro n i p C M hk i0 i1 hn p0 p1 tc tm hp hq
    obtain ⟨n, rfl⟩ : ∃ x, n = x + 1 := ⟨n - 1, by omega⟩
    have nc : ¬ zI m ≤ zI i := fun q => by have := (zI_le (by omega) (by omega) (by omega) (by omega)).mp q; omega
    rcases Nm_all T L p with h | h | ⟨d, v, h⟩
    · obtain ⟨M', a1, a2⟩ := e_mbd tb tm (m := m) (i := i) (K := f_Model_figures_2 m n) hp p0 (by omega) (Or.inl h)
      refine Or.inl ⟨C, M', ?_, ?_, fun _ _ _ => rfl, fun c j x _ => a2 c j x⟩
      · rw [f_Scribe_placeBehindItem_23, if_neg nc, e_figs0 tb tc p0 (by omega) h]
        rfl
      · rw [f_Model_figures_2, if_neg nc, a1]
    · obtain ⟨M', a1, a2⟩ := e_mbd tb tm (m := m) (i := i) (K := f_Model_figures_2 m n) hp p0 (by omega) (Or.inr h)
      obtain ⟨h0, h1, h2, h3⟩ := h
      have hn3 : f_Scribe_numberAt p 3 C = some (((T p - 48) * 10 + T (p + 1) - 48) * 10 + T (p + 2) - 48) := by
        unfold f_Scribe_numberAt
        obtain ⟨n, hn⟩ : ∃ n, zF = n + 5 := ⟨999995, rfl⟩
        rw [hn, e_nst tb tc (n + 4) (by decide) (by decide) (by decide) p0 (by rw [Int.add_zero]; exact h0), show (0 : Int) + 1 = 1 from rfl, e_nst (k := 3) tb tc (n + 3) (by decide) (by decide) (by decide) p0 h1, show (1 : Int) + 1 = 2 from rfl, e_nst (k := 3) tb tc (n + 2) (by decide) (by decide) (by decide) p0 h2, show (2 : Int) + 1 = 3 from rfl, e_nse, Int.add_zero]
        congr 1
        omega
      have s4 := sepz_or m i
      unfold dgt at h3
      refine Or.inl ⟨_, M', (e_sepC tb tc n m0 m4 i0 (by omega) p0 (e_figs3 tb tc p0 h0 h1 h2) hn3 (by decide) (by decide) (by omega)).trans (if_neg (by omega)), ?_, fun c j x => stm_ne (by omega), fun c j x _ => a2 c j x⟩
      rw [f_Model_figures_2, if_neg nc, a1]
    · have hr := h.r
      have ec := e_sepC tb tc n m0 m4 i0 (by omega) p0 (e_figs tb tc p0 h) (e_nmb tb tc p0 h) hr.1 hr.2.1 hr.2.2.2.2
      obtain ⟨M', em, a2, a3⟩ := e_sepM tb tm n m0 m4 i0 (by omega) hp p0 h
      by_cases s : p + d < L ∧ T (p + d) = sepz m i
      · rw [if_pos s] at ec em
        have tc' : TC T L (stm C 5 i v) := tc.nc (fun c j x => stm_ne (by omega))
        have nm' : NM (stm (stm M' 163 i v) 144 20 (p + d + 1)) M := fun c j x y => by rw [stm_ne (by omega), stm_ne (by omega)]; exact a3 c j x
        have hq' : Nq (i + 1) (stm C 5 i v) (stm (stm M' 163 i v) 144 20 (p + d + 1)) := fun j j0 j1 => by
          rw [stm_ne (show (163 : Int) ≠ 144 ∨ j ≠ 20 by omega)]
          by_cases e : j = i
          · rw [stm_eq ⟨rfl, e⟩, stm_eq ⟨rfl, e⟩]
            exact ⟨rfl, hr.2.2.1, hr.2.2.2.1⟩
          · rw [stm_ne (by omega), stm_ne (by omega), a3 _ _ (by omega)]
            exact hq j j0 (by omega)
        rcases ih n (i + 1) (p + d + 1) _ _ (by omega) (by omega) (by omega) (by omega) (by omega) (by omega) tc' (tm.nm nm') (stm_eq ⟨rfl, rfl⟩) hq' with ⟨A, B, x1, x2, x3, x4⟩ | ⟨p', A, B, x1, x2, x3, x4, x5, x6⟩
        · exact Or.inl ⟨A, B, ec.trans x1, em.trans x2, fun c j x => (x3 c j x).trans (stm_ne (by omega)), fun c j x y => (x4 c j x y).trans (nm' c j x y)⟩
        · exact Or.inr ⟨p', A, B, ec.trans x1, em.trans x2, ⟨x3.1, by omega, x3.2.2⟩, x4, fun c j x => (x5 c j x).trans (stm_ne (by omega)), fun c j x y => (x6 c j x y).trans (nm' c j x y)⟩
      · rw [if_neg s] at ec em
        exact Or.inl ⟨_, M', ec, em, fun c j x => stm_ne (by omega), fun c j x _ => a3 c j x⟩

theorem e_ntz {D : Mm} {x : Int} (x0 : 0 < x) (x1 : x < 64) : ∃ t, 0 ≤ t ∧ t < 6 ∧ f_Integer_numberOfTrailingZeros x D = some t ∧ bitz x t = 1 ∧ ∀ g, 0 ≤ g → g < 6 → bitz x g = 1 → t ≤ g := by
  have h : ∀ g : Int, 0 ≤ g → g < 6 → ∃ t : Fin 6, f_Integer_numberOfTrailingZeros x D = some ((t.val : Nat) : Int) ∧ bitz x ((t.val : Nat) : Int) = 1 ∧ (bitz x g = 1 → (t.val : Int) ≤ g) := by
    intro g g0 g1
    have a := of_decide_eq_true (List.all_eq_true.mp (List.all_eq_true.mp ntz_all x.toNat (List.mem_range.mpr (by omega))) g.toNat (List.mem_range.mpr (by omega)))
    rcases a with a | ⟨t, t1, t2, t3⟩
    · omega
    · rw [show ((x.toNat : Nat) : Int) = x by omega] at t1 t2 t3
      rw [show ((g.toNat : Nat) : Int) = g by omega] at t3
      exact ⟨t, t1, t2, fun y => by have := t3 y; omega⟩
  obtain ⟨t, t1, t2, -⟩ := h 0 (by decide) (by decide)
  refine ⟨((t.val : Nat) : Int), Int.natCast_nonneg _, by have := t.isLt; omega, t1, t2, fun g g0 g1 hg => ?_⟩
  obtain ⟨u, u1, u2, u3⟩ := h g g0 g1
  have : ((t.val : Nat) : Int) = ((u.val : Nat) : Int) := Option.some.inj (t1.symm.trans u1)
  rw [this]
  exact u3 hg
theorem bitz_z1 {x g : Int} (x0 : 0 ≤ x) (x1 : x < 64) (g0 : 0 ≤ g) (g1 : g < 32) : (zI (bitz x g) = 0) ↔ ¬ bitz x g = 1 := by
  rw [bitz_tb x0 (by omega) g0 g1]
  cases x.toNat.testBit g.toNat <;> decide +kernel
theorem bitz_0 {g : Int} (g0 : 0 ≤ g) (g1 : g < 32) : ¬ bitz 0 g = 1 := by
  rw [bitz_tb (by decide) (by decide) g0 g1, show (0 : Int).toNat = 0 from rfl, Nat.zero_testBit]
  decide
theorem bitz_shl {s g : Int} (s0 : 0 ≤ s) (s1 : s < 6) (g0 : 0 ≤ g) (g1 : g < 32) : 0 < jshl 1 s ∧ jshl 1 s < 64 ∧ (bitz (jshl 1 s) g = 1 ↔ g = s) := by
  have hp : (2 : Nat) ^ s.toNat < 2 ^ 6 := Nat.pow_lt_pow_right (by decide) (by omega)
  have hq : 0 < (2 : Nat) ^ s.toNat := Nat.pow_pos (by decide)
  rw [jshl1 s0 (by omega)]
  refine ⟨by omega, by omega, ?_⟩
  rw [bitz_tb (by omega) (by omega) g0 g1, Int.toNat_natCast, Nat.testBit_two_pow]
  by_cases h : g = s
  · subst h; simp
  · have : ¬ s.toNat = g.toNat := by omega
    simp [h, this]
def nrr (D : Mm) (q L a b : Int) : Prop := dfs D q a 0 b ≤ L
theorem e_nearOnes {D : Mm} {q s L : Int} (h : QL D q) (s0 : 0 ≤ s) (s1 : s < D q 0) (L0 : 0 ≤ L) (L1 : L ≤ 200) : ∃ v, f_Quern_nearOnes q s L D = some v ∧ 0 ≤ v ∧ v < 64 ∧ ∀ g, 0 ≤ g → g < 32 → (bitz v g = 1 ↔ g < D q 0 ∧ nrr D q L s g) := by
  have hs := h.1
  unfold f_Quern_nearOnes
  refine zup (fun n i v => f_Quern_nearOnes_5 q s L D n v i) (D q 0) (fun i v => 0 ≤ i ∧ 0 ≤ v ∧ v.toNat < 2 ^ 6 ∧ ∀ g, 0 ≤ g → g < 32 → (bitz v g = 1 ↔ g < i ∧ nrr D q L s g)) (fun o => ∃ v, o = some v ∧ 0 ≤ v ∧ v < 64 ∧ ∀ g, 0 ≤ g → g < 32 → (bitz v g = 1 ↔ g < D q 0 ∧ nrr D q L s g)) ?_ ?_ (D q 0 - 0).toNat zF 0 0 rfl (by omega) (zF_pos (by omega)) ⟨by decide, by decide, by decide, fun g g0 g1 => ⟨fun x => absurd x (bitz_0 g0 g1), fun x => by omega⟩⟩
  · intro n v ⟨_, v0, v1, v2⟩
    refine ⟨v, ?_, v0, by omega, v2⟩
    show f_Quern_nearOnes_5 q s L D (n + 1) v (D q 0) = _
    rw [f_Quern_nearOnes_5, if_pos (Int32.le_refl _)]
  · intro n i v hi ⟨i0, v0, v1, v2⟩
    obtain ⟨d1, d2, d3⟩ := e_diff h s0 s1 (c := 0) (by decide) (by decide) i0 hi
    have nc : ¬ zI (D q 0) ≤ zI i := fun q => by have := (zI_le (by omega) (by omega) (by omega) (by omega)).mp q; omega
    have key : f_Quern_nearOnes_5 q s L D (n + 1) v i = if zI L < zI (dfs D q s 0 i) then f_Quern_nearOnes_5 q s L D n v (i + 1) else f_Quern_nearOnes_5 q s L D n (jor v (jshl 1 i)) (i + 1) := by
      rw [f_Quern_nearOnes_5, if_neg nc, d1]
      rfl
    by_cases z : L < dfs D q s 0 i
    · refine ⟨v, ⟨by omega, v0, v1, fun g g0 g1 => ?_⟩, ?_⟩
      · rw [v2 g g0 g1]
        unfold nrr
        constructor
        · intro y; exact ⟨by omega, y.2⟩
        · intro y
          have : g ≠ i := fun e => by rw [e] at y; omega
          exact ⟨by omega, y.2⟩
      · show f_Quern_nearOnes_5 q s L D (n + 1) v i = _
        rw [key, if_pos ((zI_lt (by omega) (by omega) (by omega) (by omega)).mpr z)]
    · obtain ⟨b1, b2, b3⟩ := jor_bit (w := 6) v0 v1 (by decide) i0 (by omega)
      refine ⟨jor v (jshl 1 i), ⟨by omega, b1, b2, fun g g0 g1 => ?_⟩, ?_⟩
      · rw [b3 g g0 g1]
        by_cases e : g = i
        · rw [if_pos e, e]
          unfold nrr
          constructor
          · intro _; exact ⟨by omega, by omega⟩
          · intro _; rfl
        · rw [if_neg e, v2 g g0 g1]
          constructor
          · intro y; exact ⟨by omega, y.2⟩
          · intro y; exact ⟨by omega, y.2⟩
      · show f_Quern_nearOnes_5 q s L D (n + 1) v i = _
        rw [key, if_neg (fun y => z ((zI_lt (by omega) (by omega) (by omega) (by omega)).mp y))]
theorem e_lk19 {D : Mm} {q s L v4 V0 : Int} (K : Int → Int → Option Int) (h : QL D q) (L0 : 0 ≤ L) (L1 : L ≤ 200) (V00 : 0 ≤ V0) (V01 : V0 < 64) (hV : ∀ g, 0 ≤ g → g < 6 → bitz V0 g = 1 → ∃ m, Bl (D q 0) (nrr D q L) s m g) : ∃ V, f_Quern_lowestKin_19 q L v4 K D zF V0 0 = K V (v4 + 1) ∧ 0 ≤ V ∧ V < 64 ∧ (∀ j x, 0 ≤ j → j < D q 0 → bitz V0 j = 1 → 0 ≤ x → x < D q 0 → nrr D q L j x → bitz V x = 1) ∧ (∀ g, 0 ≤ g → g < 6 → bitz V g = 1 → ∃ m, Bl (D q 0) (nrr D q L) s m g) := by
  have hs := h.1
  refine zup (fun n i v => f_Quern_lowestKin_19 q L v4 K D n v i) (D q 0) (fun i V => 0 ≤ i ∧ 0 ≤ V ∧ V < 64 ∧ (∀ j, 0 ≤ j → j < 6 → bitz V0 j = 1 → bitz V j = 1) ∧ (∀ j x, 0 ≤ j → j < i → bitz V0 j = 1 → 0 ≤ x → x < D q 0 → nrr D q L j x → bitz V x = 1) ∧ (∀ g, 0 ≤ g → g < 6 → bitz V g = 1 → ∃ m, Bl (D q 0) (nrr D q L) s m g)) (fun o => ∃ V, o = K V (v4 + 1) ∧ 0 ≤ V ∧ V < 64 ∧ (∀ j x, 0 ≤ j → j < D q 0 → bitz V0 j = 1 → 0 ≤ x → x < D q 0 → nrr D q L j x → bitz V x = 1) ∧ (∀ g, 0 ≤ g → g < 6 → bitz V g = 1 → ∃ m, Bl (D q 0) (nrr D q L) s m g)) ?_ ?_ (D q 0 - 0).toNat zF 0 V0 rfl (by omega) (zF_pos (by omega)) ⟨by decide, V00, V01, fun j _ _ y => y, fun j x j0 j1 => by omega, hV⟩
  · intro n V ⟨_, w0, w1, w2, w3, w4⟩
    refine ⟨V, ?_, w0, w1, w3, w4⟩
    show f_Quern_lowestKin_19 q L v4 K D (n + 1) V (D q 0) = _
    rw [f_Quern_lowestKin_19, if_pos (Int32.le_refl _)]
  · intro n i V hi ⟨i0, w0, w1, w2, w3, w4⟩
    have nc : ¬ zI (D q 0) ≤ zI i := fun q => by have := (zI_le (by omega) (by omega) (by omega) (by omega)).mp q; omega
    obtain ⟨u, u1, u2, u3, u4⟩ := e_nearOnes h i0 hi L0 L1
    have key : f_Quern_lowestKin_19 q L v4 K D (n + 1) V i = if zI (bitz V i) = 0 then f_Quern_lowestKin_19 q L v4 K D n V (i + 1) else f_Quern_lowestKin_19 q L v4 K D n (jor V u) (i + 1) := by
      rw [f_Quern_lowestKin_19, if_neg nc, u1]
      rfl
    by_cases z : bitz V i = 1
    · refine ⟨jor V u, ⟨by omega, (bitz_or w0 w1 u2 u3 (g := 0) (by decide) (by decide)).1, (bitz_or w0 w1 u2 u3 (g := 0) (by decide) (by decide)).2.1, fun j j0 j1 y => (bitz_or w0 w1 u2 u3 j0 (by omega)).2.2.mpr (Or.inl (w2 j j0 j1 y)), fun j x j0 j1 y x0 x1 r => (bitz_or w0 w1 u2 u3 x0 (by omega)).2.2.mpr ?_, fun g g0 g1 y => ?_⟩, ?_⟩
      · by_cases e : j = i
        · subst e
          exact Or.inr ((u4 x x0 (by omega)).mpr ⟨x1, r⟩)
        · exact Or.inl (w3 j x j0 (by omega) y x0 x1 r)
      · rcases (bitz_or w0 w1 u2 u3 g0 (by omega)).2.2.mp y with y | y
        · exact w4 g g0 g1 y
        · obtain ⟨g2, r⟩ := (u4 g g0 (by omega)).mp y
          obtain ⟨m, hm⟩ := w4 i i0 (by omega) z
          exact ⟨m + 1, i, hm, r, g0, g2⟩
      · show f_Quern_lowestKin_19 q L v4 K D (n + 1) V i = _
        rw [key, if_neg (fun y => ((bitz_z1 w0 w1 i0 (by omega)).mp y) z)]
    · refine ⟨V, ⟨by omega, w0, w1, w2, fun j x j0 j1 y x0 x1 r => ?_, w4⟩, ?_⟩
      · by_cases e : j = i
        · subst e
          exact absurd (w2 j j0 (by omega) y) z
        · exact w3 j x j0 (by omega) y x0 x1 r
      · show f_Quern_lowestKin_19 q L v4 K D (n + 1) V i = _
        rw [key, if_pos ((bitz_z1 w0 w1 i0 (by omega)).mpr z)]
theorem ckd_0 {D : Mm} {q s w : Int} : ckd D q s 0 w = D (q + 2 + s) w := by
  unfold ckd
  rw [Int.mul_zero, Int.mul_zero]
  split <;> split <;> omega
theorem nrr_rf {D : Mm} {q L a : Int} (L0 : 0 ≤ L) : nrr D q L a a := by
  unfold nrr dfs
  rw [zsum_0 4 (fun k _ _ => by rw [ckd_0]; unfold zabs; split <;> omega)]
  exact L0
theorem e_lowestKin {D : Mm} {q s L : Int} (h : QL D q) (s0 : 0 ≤ s) (s1 : s < D q 0) (L0 : 0 ≤ L) (L1 : L ≤ 200) : ∃ t, f_Quern_lowestKin q s L D = some t ∧ Bl (D q 0) (nrr D q L) s (D q 0 - 1).toNat t ∧ ∀ x, Bl (D q 0) (nrr D q L) s (D q 0 - 1).toNat x → t ≤ x := by
  have hs := h.1
  have rf : ∀ a, 0 ≤ a → a < D q 0 → nrr D q L a a := fun a _ _ => nrr_rf L0
  unfold f_Quern_lowestKin
  refine zup (fun n i v => f_Quern_lowestKin_7 q L D n v i) (D q 0) (fun i V => 1 ≤ i ∧ 0 ≤ V ∧ V < 64 ∧ (∀ x, Bl (D q 0) (nrr D q L) s (i - 1).toNat x → bitz V x = 1) ∧ (∀ g, 0 ≤ g → g < 6 → bitz V g = 1 → ∃ m, Bl (D q 0) (nrr D q L) s m g)) (fun o => ∃ t, o = some t ∧ Bl (D q 0) (nrr D q L) s (D q 0 - 1).toNat t ∧ ∀ x, Bl (D q 0) (nrr D q L) s (D q 0 - 1).toNat x → t ≤ x) ?_ ?_ (D q 0 - 1).toNat zF 1 (jshl 1 s) rfl (by omega) (zF_pos (by omega)) ⟨by decide, Int.le_of_lt (bitz_shl s0 (by omega) (g := 0) (by decide) (by decide)).1, (bitz_shl s0 (by omega) (g := 0) (by decide) (by decide)).2.1, fun x hx => ?_, fun g g0 g1 hg => ⟨0, (bitz_shl s0 (by omega) g0 (by omega)).2.2.mp hg⟩⟩
  · intro n V ⟨_, w0, w1, w2, w3⟩
    have hV : 0 < V := by
      have hb := w2 s (Bl_mono2 rf s0 s1 (Nat.zero_le _) (r := 0) rfl)
      by_cases e : V = 0
      · subst e
        exact absurd hb (bitz_0 s0 (by omega))
      · omega
    obtain ⟨t, t0, t1, t2, t3, t4⟩ := e_ntz (D := D) hV w1
    obtain ⟨m, hm⟩ := w3 t t0 t1 t3
    refine ⟨t, ?_, Bl_cap rf s0 s1 hm, fun x hx => ?_⟩
    · show f_Quern_lowestKin_7 q L D (n + 1) V (D q 0) = _
      rw [f_Quern_lowestKin_7, if_pos (Int32.le_refl _), t2]
      rfl
    · obtain ⟨x0, x1⟩ := Bl_in s0 s1 hx
      exact t4 x x0 (by omega) (w2 x hx)
  · intro n i V hi ⟨i0, w0, w1, w2, w3⟩
    have nc : ¬ zI (D q 0) ≤ zI i := fun q => by have := (zI_le (by omega) (by omega) (by omega) (by omega)).mp q; omega
    obtain ⟨W, e, y0, y1, y2, y3⟩ := e_lk19 (v4 := i) (f_Quern_lowestKin_7 q L D n) h L0 L1 w0 w1 w3
    refine ⟨W, ⟨by omega, y0, y1, fun x hx => ?_, y3⟩, ?_⟩
    · rw [show (i + 1 - 1).toNat = (i - 1).toNat + 1 by omega] at hx
      obtain ⟨z, z1, z2, z3, z4⟩ := hx
      obtain ⟨z5, z6⟩ := Bl_in s0 s1 z1
      exact y2 z x z5 z6 (w2 z z1) z3 z4 z2
    · show f_Quern_lowestKin_7 q L D (n + 1) V i = _
      rw [f_Quern_lowestKin_7, if_neg nc]
      exact e
  · have hx : x = s := hx
    subst hx
    exact (bitz_shl s0 (by omega) s0 (by omega)).2.2.mpr rfl

theorem e_isArea {v : Int} (hv : Rg v) (D : Mm) : f_Model_isArea v D = some (if 1 ≤ v ∧ v ≤ 9 then 1 else 0) := by
  unfold f_Model_isArea
  rw [wI_id hv.1 hv.2, e_in hv ⟨by decide, by decide⟩ ⟨by decide, by decide⟩, b01]
theorem q_rare {D : Mm} {a A B q : Int} (h0 : 0 ≤ a) (h1 : a ≤ 1000) : f_Odds_areRare a A B q D = f_Model_isRare a A B q D := by
  unfold f_Odds_areRare f_Model_isRare
  rw [e_pow h0 h1, e_pow h0 h1, e_powM h0 h1, e_powM h0 h1]
  simp only [Option.bind_some]
  rw [Int.mul_comm]
theorem q_rare01 {D : Mm} {a A B q : Int} (h0 : 0 ≤ a) (h1 : a ≤ 1000) : ∃ r, f_Model_isRare a A B q D = some r ∧ (r = 0 ∨ r = 1) := by
  unfold f_Model_isRare
  rw [e_powM h0 h1, e_powM h0 h1]
  simp only [Option.bind_some]
  split
  · exact ⟨0, rfl, Or.inl rfl⟩
  · exact ⟨1, rfl, Or.inr rfl⟩
theorem q_saysL {D : Mm} (A B q : Int) : ∀ (k n : Nat) (i : Int), 0 ≤ i → i ≤ 13 → (13 - i).toNat = k → k < n → Eq2 (f_Main_says_36 A B q D n i) (f_Model_says_31 A B q D n i) := by
  intro k
  induction k with
  | zero =>
    intro n i h0 h1 hk hn
    obtain ⟨m, rfl⟩ : ∃ m, n = m + 1 := ⟨n - 1, by omega⟩
    have : i = 13 := by omega
    subst this
    rw [f_Main_says_36, f_Model_says_31, if_pos (by decide +kernel), if_pos (by decide +kernel)]
    exact Eq2.rf
  | succ k ih =>
    intro n i h0 h1 hk hn
    obtain ⟨m, rfl⟩ : ∃ m, n = m + 1 := ⟨n - 1, by omega⟩
    have hc : ¬ zI 12 < zI i := fun q => by have := (zI_lt (by omega) (by omega) (by omega) (by omega)).mp q; omega
    rw [f_Main_says_36, f_Model_says_31, if_neg hc, if_neg hc, q_rare h0 (by omega)]
    obtain ⟨r, hr, h01⟩ := q_rare01 (D := D) (a := i) (A := A) (B := B) (q := q) h0 (by omega)
    rw [hr]
    simp only [Option.bind_some]
    by_cases hz : zI r = 0
    · rw [if_pos hz, if_pos hz]
      exact ih m (i + 1) (by omega) (by omega) (by omega) (by omega)
    · rw [if_neg hz, if_neg hz]
      exact Eq2.rf
theorem q_says {D : Mm} {A B q : Int} (hA : Rg A) (hB : Rg B) (hq : Rg q) : Eq2 (f_Main_says A B q D) (f_Model_says A B q D) := by
  unfold f_Main_says f_Model_says
  rw [e_within hA ⟨by decide, by decide⟩ ⟨by decide, by decide⟩, e_within hB ⟨by decide, by decide⟩ ⟨by decide, by decide⟩, e_within hq ⟨by decide, by decide⟩ ⟨by decide, by decide⟩, e_isArea hA, e_isArea hB, wI_id hq.1 hq.2, e_in hq ⟨by decide, by decide⟩ ⟨by decide, by decide⟩]
  simp only [bnd_if]
  split
  · split
    · split
      · exact q_saysL A B q 13 zF 0 (by decide) (by decide) rfl (zF_pos (by decide))
      · exact Eq2.rf
    · exact Eq2.rf
  · exact Eq2.rf
theorem q_controlsL {D : Mm} (a A q : Int) (ha : 0 ≤ a) (ha2 : a ≤ 9) : ∀ (k n : Nat) (i : Int), 0 ≤ i → i ≤ 100 → (100 - i).toNat = k → k < n → Eq2 (f_Main_controls_36 a A q D n i) (f_Model_controls_36 a A q D n i) := by
  intro k
  induction k with
  | zero =>
    intro n i h0 h1 hk hn
    obtain ⟨m, rfl⟩ : ∃ m, n = m + 1 := ⟨n - 1, by omega⟩
    have : i = 100 := by omega
    subst this
    rw [f_Main_controls_36, f_Model_controls_36, if_pos (by decide +kernel), if_pos (by decide +kernel)]
    exact Eq2.rf
  | succ k ih =>
    intro n i h0 h1 hk hn
    obtain ⟨m, rfl⟩ : ∃ m, n = m + 1 := ⟨n - 1, by omega⟩
    have hc : ¬ zI 99 < zI i := fun q => by have := (zI_lt (by omega) (by omega) (by omega) (by omega)).mp q; omega
    rw [f_Main_controls_36, f_Model_controls_36, if_neg hc, if_neg hc, q_rare ha (by omega)]
    obtain ⟨r, hr, h01⟩ := q_rare01 (D := D) (a := a) (A := A) (B := i) (q := q) ha (by omega)
    rw [hr]
    simp only [Option.bind_some]
    by_cases hz : zI r = 0
    · rw [if_pos hz, if_pos hz]
      exact ih m (i + 1) (by omega) (by omega) (by omega) (by omega)
    · rw [if_neg hz, if_neg hz]
      exact Eq2.rf
theorem q_controls {D : Mm} {a A q : Int} (ha : Rg a) (hA : Rg A) (hq : Rg q) : Eq2 (f_Main_controls a A q D) (f_Model_controls a A q D) := by
  unfold f_Main_controls f_Model_controls
  rw [e_within ha ⟨by decide, by decide⟩ ⟨by decide, by decide⟩, e_within hA ⟨by decide, by decide⟩ ⟨by decide, by decide⟩, e_within hq ⟨by decide, by decide⟩ ⟨by decide, by decide⟩, e_isArea hA, wI_id ha.1 ha.2, e_in ha ⟨by decide, by decide⟩ ⟨by decide, by decide⟩, wI_id hq.1 hq.2, e_in hq ⟨by decide, by decide⟩ ⟨by decide, by decide⟩]
  simp only [bnd_if]
  split
  · rename_i c1
    split
    · split
      · exact q_controlsL a A q (by omega) (by omega) 99 zF 1 (by decide) (by decide) rfl (zF_pos (by decide))
      · exact Eq2.rf
    · exact Eq2.rf
  · exact Eq2.rf
-- MORE
def chs (n : Int) : Nat → Int
  | 0 => 1
  | i + 1 => chs n i * (n - i) / ((i : Int) + 1)
def wys (a n A B : Int) : Nat → Int
  | 0 => 0
  | i + 1 => wys a n A B i + if (i : Int) < a then 0 else chs n i * A ^ i * B ^ (n - i).toNat
theorem chs_all : (List.range 13).all (fun n => (List.range 14).all (fun i => decide (0 ≤ chs n i ∧ chs n i ≤ 924))) = true := by decide +kernel
theorem chs_b {n i : Int} (h0 : 0 ≤ n) (h1 : n ≤ 12) (h2 : 0 ≤ i) (h3 : i ≤ 13) : 0 ≤ chs n i.toNat ∧ chs n i.toNat ≤ 924 := by
  have h := List.all_eq_true.mp (List.all_eq_true.mp chs_all n.toNat (List.mem_range.mpr (by omega))) i.toNat (List.mem_range.mpr (by omega))
  have e : ((n.toNat : Nat) : Int) = n := by omega
  have h4 := of_decide_eq_true h
  rw [e] at h4
  exact h4
theorem chs_s {n i : Int} (h : 0 ≤ i) : chs n (i + 1).toNat = chs n i.toNat * (n - i) / (i + 1) := by
  have e : (i + 1).toNat = i.toNat + 1 := by omega
  have e2 : ((i.toNat : Nat) : Int) = i := by omega
  rw [e]
  show chs n i.toNat * (n - ((i.toNat : Nat) : Int)) / (((i.toNat : Nat) : Int) + 1) = _
  rw [e2]
theorem wys_s {a n A B i : Int} (h : 0 ≤ i) : wys a n A B (i + 1).toNat = wys a n A B i.toNat + if i < a then 0 else chs n i.toNat * A ^ i.toNat * B ^ (n - i).toNat := by
  have e : (i + 1).toNat = i.toNat + 1 := by omega
  have e2 : ((i.toNat : Nat) : Int) = i := by omega
  rw [e]
  show wys a n A B i.toNat + (if ((i.toNat : Nat) : Int) < a then 0 else chs n i.toNat * A ^ i.toNat * B ^ (n - ((i.toNat : Nat) : Int)).toNat) = _
  rw [e2]
theorem pow_b {A : Int} (h0 : 0 ≤ A) (M : Int) (h1 : A ≤ M) : ∀ k : Nat, 0 ≤ A ^ k ∧ A ^ k ≤ M ^ k := by
  intro k
  induction k with
  | zero => simp
  | succ k ih =>
    rw [Int.pow_succ, Int.pow_succ]
    exact ⟨Int.mul_nonneg ih.1 h0, Int.mul_le_mul ih.2 h1 h0 (Int.le_trans ih.1 ih.2)⟩
theorem pow9 : (List.range 13).all (fun n => decide ((9 : Int) ^ n ≤ 282429536481)) = true := by decide +kernel
theorem pow18 : (List.range 13).all (fun n => decide ((18 : Int) ^ n ≤ 1156831381426176)) = true := by decide +kernel
theorem term_b {n i A B : Int} (hn0 : 0 ≤ n) (hn : n ≤ 12) (hi : 0 ≤ i) (hin : i ≤ n) (hA : 0 ≤ A ∧ A ≤ 9) (hB : 0 ≤ B ∧ B ≤ 9) : 0 ≤ chs n i.toNat * A ^ i.toNat * B ^ (n - i).toNat ∧ chs n i.toNat * A ^ i.toNat * B ^ (n - i).toNat ≤ 260964891708444 := by
  obtain ⟨c0, c1⟩ := chs_b hn0 hn hi (by omega)
  obtain ⟨a0, a1⟩ := pow_b hA.1 9 hA.2 i.toNat
  obtain ⟨b0, b1⟩ := pow_b hB.1 9 hB.2 (n - i).toNat
  have e : (9 : Int) ^ i.toNat * 9 ^ (n - i).toNat = 9 ^ n.toNat := by
    rw [← Int.pow_add]
    congr 1
    omega
  have h9 := of_decide_eq_true (List.all_eq_true.mp pow9 n.toNat (List.mem_range.mpr (by omega)))
  have p0 : 0 ≤ A ^ i.toNat * B ^ (n - i).toNat := Int.mul_nonneg a0 b0
  have p1 : A ^ i.toNat * B ^ (n - i).toNat ≤ 282429536481 := by
    have := Int.mul_le_mul a1 b1 b0 (Int.le_trans a0 a1)
    rw [e] at this
    omega
  rw [Int.mul_assoc]
  refine ⟨Int.mul_nonneg c0 p0, ?_⟩
  have := Int.mul_le_mul c1 p1 p0 (by decide)
  omega
theorem e_ways {D : Mm} {a n A B : Int} (ha : 0 ≤ a) (han : a ≤ n) (hn : n ≤ 12) (hA : 1 ≤ A ∧ A ≤ 9) (hB : 1 ≤ B ∧ B ≤ 9) : f_Odds_waysOfAtLeast a n A B D = some (wys a n A B (n + 1).toNat) ∧ 0 ≤ wys a n A B (n + 1).toNat ∧ wys a n A B (n + 1).toNat ≤ 13 * 260964891708444 := by
  unfold f_Odds_waysOfAtLeast
  refine zup (fun m i (b : Int × Int) => f_Odds_waysOfAtLeast_9 a n A B D m b.1 b.2 i) (n + 1) (fun i b => 0 ≤ i ∧ b.1 = wys a n A B i.toNat ∧ b.2 = chs n i.toNat ∧ 0 ≤ b.1 ∧ b.1 ≤ i * 260964891708444) (fun o => o = some (wys a n A B (n + 1).toNat) ∧ 0 ≤ wys a n A B (n + 1).toNat ∧ wys a n A B (n + 1).toNat ≤ 13 * 260964891708444) ?_ ?_ (n + 1 - 0).toNat zF 0 (0, 1) rfl (by omega) (zF_pos (by omega)) ⟨by decide, rfl, rfl, by decide, by decide⟩
  · intro m b ⟨_, h1, h2, h3, h4⟩
    show f_Odds_waysOfAtLeast_9 a n A B D (m + 1) b.1 b.2 (n + 1) = _ ∧ _
    rw [f_Odds_waysOfAtLeast_9, if_pos ((zI_lt (by omega) (by omega) (by omega) (by omega)).mpr (by omega)), ← h1]
    exact ⟨rfl, h3, by omega⟩
  · intro m i b hi ⟨h0, h1, h2, h3, h4⟩
    obtain ⟨t0, t1⟩ := term_b (n := n) (i := i) (A := A) (B := B) (by omega) hn h0 (by omega) ⟨by omega, hA.2⟩ ⟨by omega, hB.2⟩
    obtain ⟨c0, c1⟩ := chs_b (n := n) (i := i) (by omega) hn h0 (by omega)
    have hm0 : 0 ≤ chs n i.toNat * (n - i) := Int.mul_nonneg c0 (by omega)
    have hm1 : chs n i.toNat * (n - i) ≤ 924 * 12 := Int.mul_le_mul c1 (by omega) (by omega) (by decide)
    refine ⟨(wys a n A B (i + 1).toNat, chs n (i + 1).toNat), ⟨by omega, rfl, rfl, ?_, ?_⟩, ?_⟩
    · show 0 ≤ wys a n A B (i + 1).toNat
      rw [wys_s h0, ← h1]
      split <;> omega
    · show wys a n A B (i + 1).toNat ≤ _
      rw [wys_s h0, ← h1]
      split <;> omega
    · show f_Odds_waysOfAtLeast_9 a n A B D (m + 1) b.1 b.2 i = f_Odds_waysOfAtLeast_9 a n A B D m (wys a n A B (i + 1).toNat) (chs n (i + 1).toNat) (i + 1)
      have hd : jldiv (b.2 * wI (n - i)) (wI (i + 1)) = chs n (i + 1).toNat := by
        rw [wI_id (by omega) (by omega), wI_id (by omega) (by omega), h2, jldiv_nn hm0 (by omega) (by omega) (by omega), chs_s h0]
      rw [f_Odds_waysOfAtLeast_9, if_neg (fun q => by have := (zI_lt (by omega) (by omega) (by omega) (by omega)).mp q; omega)]
      have hne : ¬ zL (wI (i + 1)) = 0 := by
        rw [wI_id (by omega) (by omega)]
        exact fun q => by have := (zL_eq0 (by omega) (by omega)).mp q; omega
      unfold f_Odds_waysOfAtLeast_46
      rw [if_neg hne, hd, wys_s h0, ← h1]
      by_cases hia : i < a
      · rw [if_pos ((zI_lt (by omega) (by omega) (by omega) (by omega)).mpr hia), if_pos hia, Int.add_zero]
      · rw [if_neg (fun q => hia ((zI_lt (by omega) (by omega) (by omega) (by omega)).mp q)), if_neg hia, e_pow h0 (by omega), e_pow (by omega) (by omega)]
        simp only [Option.bind_some, if_neg hne, hd]
        rw [wI_id (by omega) (by omega), wI_id (by omega) (by omega), h2]
theorem e_moreL {D : Mm} {a n A B p : Int} (ha : 0 ≤ a) (han : a ≤ n) (hn : n ≤ 12) (hA : 1 ≤ A ∧ A ≤ 9) (hB : 1 ≤ B ∧ B ≤ 9) (hp : Rg p) : f_Model_more_70 a A B p n D zF 0 1 0 = some (if p = 0 then wys a n A B (n + 1).toNat / zgcd (wys a n A B (n + 1).toNat) ((A + B) ^ n.toNat) else (A + B) ^ n.toNat / zgcd (wys a n A B (n + 1).toNat) ((A + B) ^ n.toNat)) := by
  obtain ⟨-, w0, w1⟩ := e_ways (D := D) ha han hn hA hB
  refine zup (fun m i (b : Int × Int) => f_Model_more_70 a A B p n D m b.1 b.2 i) (n + 1) (fun i b => 0 ≤ i ∧ b.1 = wys a n A B i.toNat ∧ b.2 = chs n i.toNat) (fun o => o = some (if p = 0 then wys a n A B (n + 1).toNat / zgcd (wys a n A B (n + 1).toNat) ((A + B) ^ n.toNat) else (A + B) ^ n.toNat / zgcd (wys a n A B (n + 1).toNat) ((A + B) ^ n.toNat))) ?_ ?_ (n + 1 - 0).toNat zF 0 (0, 1) rfl (by omega) (zF_pos (by omega)) ⟨by decide, rfl, rfl⟩
  · intro m b ⟨_, h1, h2⟩
    show f_Model_more_70 a A B p n D (m + 1) b.1 b.2 (n + 1) = _
    have h18 := of_decide_eq_true (List.all_eq_true.mp pow18 n.toNat (List.mem_range.mpr (by omega)))
    obtain ⟨d0, d1⟩ := pow_b (A := A + B) (by omega) 18 (by omega) n.toNat
    have d2 : 0 < (A + B) ^ n.toNat := Int.pow_pos (by omega)
    have g0 := zgcd_pos (x := wys a n A B (n + 1).toNat) d2
    have g1 := zgcd_le (x := wys a n A B (n + 1).toNat) d2
    have n2 : ¬ zL (zgcd (wys a n A B (n + 1).toNat) ((A + B) ^ n.toNat)) = 0 := fun q => by have := (zL_eq0 (by omega) (by omega)).mp q; omega
    rw [f_Model_more_70, if_pos ((zI_lt (by omega) (by omega) (by omega) (by omega)).mpr (by omega)), h1, e_powM (by omega) (by omega), wI_id (by omega) (by omega)]
    simp only [Option.bind_some]
    rw [e_common w0 (by omega) (by omega) (by omega)]
    simp only [Option.bind_some]
    rw [if_neg n2, if_neg n2, jldiv_nn w0 (by omega) g0 (by omega), jldiv_nn (by omega) (by omega) g0 (by omega)]
    by_cases hp0 : p = 0
    · rw [if_pos hp0, if_pos ((zI_eq0 hp.1 hp.2).mpr hp0)]
    · rw [if_neg hp0, if_neg (fun q => hp0 ((zI_eq0 hp.1 hp.2).mp q))]
  · intro m i b hi ⟨h0, h1, h2⟩
    obtain ⟨c0, c1⟩ := chs_b (n := n) (i := i) (by omega) hn h0 (by omega)
    have hm0 : 0 ≤ chs n i.toNat * (n - i) := Int.mul_nonneg c0 (by omega)
    have hm1 : chs n i.toNat * (n - i) ≤ 924 * 12 := Int.mul_le_mul c1 (by omega) (by omega) (by decide)
    refine ⟨(wys a n A B (i + 1).toNat, chs n (i + 1).toNat), ⟨by omega, rfl, rfl⟩, ?_⟩
    show f_Model_more_70 a A B p n D (m + 1) b.1 b.2 i = f_Model_more_70 a A B p n D m (wys a n A B (i + 1).toNat) (chs n (i + 1).toNat) (i + 1)
    have hd : jldiv (b.2 * wI (n - i)) (wI (i + 1)) = chs n (i + 1).toNat := by
      rw [wI_id (by omega) (by omega), wI_id (by omega) (by omega), h2, jldiv_nn hm0 (by omega) (by omega) (by omega), chs_s h0]
    rw [f_Model_more_70, if_neg (fun q => by have := (zI_lt (by omega) (by omega) (by omega) (by omega)).mp q; omega)]
    have hne : ¬ zL (wI (i + 1)) = 0 := by
      rw [wI_id (by omega) (by omega)]
      exact fun q => by have := (zL_eq0 (by omega) (by omega)).mp q; omega
    unfold f_Model_more_111
    rw [if_neg hne, hd, wys_s h0, ← h1]
    by_cases hia : i < a
    · rw [if_pos ((zI_lt (by omega) (by omega) (by omega) (by omega)).mpr hia), if_pos hia]
    · rw [if_neg (fun q => hia ((zI_lt (by omega) (by omega) (by omega) (by omega)).mp q)), if_neg hia, e_powM h0 (by omega), e_powM (by omega) (by omega)]
      simp only [Option.bind_some, if_neg hne, hd]
      rw [wI_id (by omega) (by omega), wI_id (by omega) (by omega), h2]
theorem q_more {D : Mm} {a A b B p : Int} (ha : Rg a) (hA : Rg A) (hb : Rg b) (hB : Rg B) (hp : Rg p) : Eq2 (f_Main_more a A b B p D) (f_Model_more a A b B p D) := by
  unfold f_Main_more f_Model_more f_Main_more_32 f_Main_more_57 f_Model_more_52
  rw [e_within ha ⟨by decide, by decide⟩ ⟨by decide, by decide⟩, wI_id ha.1 ha.2, e_in ha ⟨by decide, by decide⟩ ⟨by decide, by decide⟩]
  simp only [bnd_if]
  by_cases c1 : 0 ≤ a ∧ a ≤ 12
  · have hb2 : Rg (12 - a) := ⟨by omega, by omega⟩
    rw [if_pos c1, if_pos c1, e_within hb ⟨by decide, by decide⟩ hb2, e_within hp ⟨by decide, by decide⟩ ⟨by decide, by decide⟩, e_within hA ⟨by decide, by decide⟩ ⟨by decide, by decide⟩, e_within hB ⟨by decide, by decide⟩ ⟨by decide, by decide⟩, e_isArea hA, e_isArea hB, wI_id hb.1 hb.2, wI_id hb2.1 hb2.2, e_in hb ⟨by decide, by decide⟩ hb2, wI_id hp.1 hp.2, e_in hp ⟨by decide, by decide⟩ ⟨by decide, by decide⟩]
    simp only [bnd_if]
    by_cases c2 : 0 ≤ b ∧ b ≤ 12 - a
    · by_cases c3 : 0 ≤ p ∧ p ≤ 1
      · by_cases c4 : 1 ≤ A ∧ A ≤ 9
        · by_cases c5 : 1 ≤ B ∧ B ≤ 9
          · simp only [if_pos c2, if_pos c3, if_pos c4, if_pos c5]
            obtain ⟨w, w0, w1⟩ := e_ways (D := D) (a := a) (n := a + b) (A := A) (B := B) c1.1 (by omega) (by omega) c4 c5
            have h18 := of_decide_eq_true (List.all_eq_true.mp pow18 (a + b).toNat (List.mem_range.mpr (by omega)))
            obtain ⟨d0, d1⟩ := pow_b (A := A + B) (by omega) 18 (by omega) (a + b).toNat
            have d2 : 0 < (A + B) ^ (a + b).toNat := Int.pow_pos (by omega)
            rw [w, e_pow (by omega) (by omega), wI_id (by omega) (by omega), e_moreL c1.1 (by omega) (by omega) c4 c5 hp]
            simp only [Option.bind_some]
            rw [e_lowest w0 (by omega) d2 (by omega) hp]
            exact Eq2.rf
          · simp only [if_pos c2, if_pos c3, if_pos c4, if_neg c5]
            exact Eq2.rf
        · simp only [if_pos c2, if_pos c3, if_neg c4]
          exact Eq2.rf
      · simp only [if_pos c2, if_neg c3, ite_self]
        exact Eq2.rf
    · simp only [if_neg c2, ite_self]
      exact Eq2.rf
  · rw [if_neg c1, if_neg c1]
    exact Eq2.rf

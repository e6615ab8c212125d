theorem zsum_s (f : Int → Int) {i : Int} (h : 0 ≤ i) : zsum f (i + 1).toNat = zsum f i.toNat + f i := by
  have e : (i + 1).toNat = i.toNat + 1 := by omega
  have e2 : ((i.toNat : Nat) : Int) = i := by omega
  rw [e]
  show zsum f i.toNat + f ((i.toNat : Nat) : Int) = _
  rw [e2]
theorem pow_s (v : Int) {i : Int} (h : 0 ≤ i) : v ^ (i + 1).toNat = v ^ i.toNat * v := by
  have e : (i + 1).toNat = i.toNat + 1 := by omega
  rw [e, Int.pow_succ]
theorem e_pow {D : Mm} {v e : Int} (h0 : 0 ≤ e) (h1 : e ≤ 1000) : f_Odds_power v e D = some (v ^ e.toNat) := by
  unfold f_Odds_power
  refine zup (fun n i b => f_Odds_power_5 v e D n b i) e (fun i b => 0 ≤ i ∧ b = v ^ i.toNat) (fun o => o = some (v ^ e.toNat)) ?_ ?_ (e - 0).toNat zF 0 1 rfl h0 (zF_pos (by omega)) ⟨by decide, by simp⟩
  · intro n b ⟨_, hb⟩
    show f_Odds_power_5 v e D (n + 1) b e = _
    rw [f_Odds_power_5, if_pos ((zI_le (by omega) (by omega) (by omega) (by omega)).mpr (Int.le_refl _)), hb]
  · intro n i b hi ⟨h2, hb⟩
    refine ⟨b * v, ⟨by omega, by rw [hb, pow_s v h2]⟩, ?_⟩
    show f_Odds_power_5 v e D (n + 1) b i = _
    rw [f_Odds_power_5, if_neg (fun q => by have := (zI_le (by omega) (by omega) (by omega) (by omega)).mp q; omega)]
theorem e_powM {D : Mm} {v e : Int} (h0 : 0 ≤ e) (h1 : e ≤ 1000) : f_Model_power v e D = some (v ^ e.toNat) := by
  unfold f_Model_power
  refine zup (fun n i b => f_Model_power_5 v e D n b i) e (fun i b => 0 ≤ i ∧ b = v ^ i.toNat) (fun o => o = some (v ^ e.toNat)) ?_ ?_ (e - 0).toNat zF 0 1 rfl h0 (zF_pos (by omega)) ⟨by decide, by simp⟩
  · intro n b ⟨_, hb⟩
    show f_Model_power_5 v e D (n + 1) b e = _
    rw [f_Model_power_5, if_pos ((zI_le (by omega) (by omega) (by omega) (by omega)).mpr (Int.le_refl _)), hb]
  · intro n i b hi ⟨h2, hb⟩
    refine ⟨b * v, ⟨by omega, by rw [hb, pow_s v h2]⟩, ?_⟩
    show f_Model_power_5 v e D (n + 1) b i = _
    rw [f_Model_power_5, if_neg (fun q => by have := (zI_le (by omega) (by omega) (by omega) (by omega)).mp q; omega)]
-- the greatest common divisor
def zgcd (x y : Int) : Int := (Nat.gcd x.toNat y.toNat : Int)
def zfp : Nat → Int × Int
  | 0 => (0, 1)
  | n + 1 => ((zfp n).2, (zfp n).1 + (zfp n).2)
theorem zgcd_0 {x : Int} (h : 0 ≤ x) : zgcd x 0 = x := by
  unfold zgcd
  simp
  omega
theorem zgcd_step {x y : Int} (hx : 0 ≤ x) (hy : 0 < y) : zgcd x y = zgcd y (x % y) := by
  unfold zgcd
  rw [Int.toNat_emod hx (by omega), Nat.gcd_comm, Nat.gcd_rec, Nat.gcd_comm]
theorem zgcd_pos {x y : Int} (hy : 0 < y) : 0 < zgcd x y := by
  unfold zgcd
  have := Nat.gcd_pos_of_pos_right x.toNat (show 0 < y.toNat by omega)
  omega
theorem zgcd_le {x y : Int} (hy : 0 < y) : zgcd x y ≤ y := by
  unfold zgcd
  have := Nat.le_of_dvd (show 0 < y.toNat by omega) (Nat.gcd_dvd_right x.toNat y.toNat)
  omega
theorem zeuclid (F : Nat → Int → Int → Int → Option Int) (hF : ∀ n x y c, 0 ≤ c → c < 100 → 0 ≤ y → y < 9223372036854775808 → 0 ≤ x → x < 9223372036854775808 → F (n + 1) x y c = if y = 0 then some x else F n y (x % y) (c + 1)) :
    ∀ k : Nat, (∀ n x y c, 0 ≤ y → y < x → x < 9223372036854775808 → y < (zfp k).1 → 0 ≤ c → c + (k : Int) < 100 → k < n → F n x y c = some (zgcd x y)) ∧ (∀ n x y c, 0 ≤ y → y < x → x < 9223372036854775808 → y < (zfp (k + 1)).1 → 0 ≤ c → c + (k : Int) + 1 < 100 → k + 1 < n → F n x y c = some (zgcd x y)) := by
  intro k
  induction k with
  | zero =>
    refine ⟨fun n x y c h1 h2 h3 h4 => ?_, fun n x y c h1 h2 h3 h4 h5 h6 h7 => ?_⟩
    · have : y < 0 := h4
      omega
    · have h8 : y < 1 := h4
      have : y = 0 := by omega
      subst this
      obtain ⟨m, rfl⟩ : ∃ m, n = m + 1 := ⟨n - 1, by omega⟩
      rw [hF m x 0 c h5 (by omega) (by omega) (by omega) (by omega) h3, if_pos rfl, zgcd_0 (by omega)]
  | succ k ih =>
    refine ⟨fun n x y c h1 h2 h3 h4 h5 h6 h7 => ih.2 n x y c h1 h2 h3 h4 h5 (by omega) h7, fun n x y c h1 h2 h3 h4 h5 h6 h7 => ?_⟩
    have hfib : (zfp (k + 2)).1 = (zfp k).1 + (zfp (k + 1)).1 := rfl
    obtain ⟨m, rfl⟩ : ∃ m, n = m + 1 := ⟨n - 1, by omega⟩
    rw [hF m x y c h5 (by omega) h1 (by omega) (by omega) h3]
    by_cases hy : y = 0
    · subst hy
      rw [if_pos rfl, zgcd_0 (by omega)]
    · rw [if_neg hy, zgcd_step (by omega) (by omega)]
      have r0 := Int.emod_nonneg x hy
      have r1 := Int.emod_lt_of_pos x (show 0 < y by omega)
      by_cases hr : x % y < (zfp (k + 1)).1
      · exact ih.2 m y (x % y) (c + 1) r0 r1 (by omega) hr (by omega) (by omega) (by omega)
      · obtain ⟨m', rfl⟩ : ∃ m', m = m' + 1 := ⟨m - 1, by omega⟩
        rw [hF m' y (x % y) (c + 1) (by omega) (by omega) r0 (by omega) h1 (by omega)]
        by_cases hr0 : x % y = 0
        · rw [if_pos hr0, hr0, zgcd_0 h1]
        · rw [if_neg hr0, zgcd_step h1 (by omega)]
          have s0 := Int.emod_nonneg y hr0
          have s1 := Int.emod_lt_of_pos y (show 0 < x % y by omega)
          have s2 : y % (x % y) ≤ y - (x % y) := by
            have := Int.emod_add_mul_ediv y (x % y)
            have h9 : 1 ≤ y / (x % y) := by
              rw [Int.le_ediv_iff_mul_le (by omega)]
              omega
            have h10 : (x % y) * 1 ≤ (x % y) * (y / (x % y)) := Int.mul_le_mul_of_nonneg_left h9 r0
            omega
          refine ih.1 m' (x % y) (y % (x % y)) (c + 1 + 1) s0 s1 (by omega) ?_ (by omega) (by omega) (by omega)
          rw [hfib] at h4
          omega
theorem zeuclid2 (F : Nat → Int → Int → Int → Option Int) (hF : ∀ n x y c, 0 ≤ c → c < 100 → 0 ≤ y → y < 9223372036854775808 → 0 ≤ x → x < 9223372036854775808 → F (n + 1) x y c = if y = 0 then some x else F n y (x % y) (c + 1)) {x y : Int} (h1 : 0 ≤ x) (h2 : x < 1152921504606846976) (h3 : 0 ≤ y) (h4 : y < 1152921504606846976) : F zF x y 0 = some (zgcd x y) := by
  have e : (1152921504606846976 : Int) ≤ (zfp 90).1 := by decide +kernel
  have hz : zF = 999999 + 1 := rfl
  rw [hz, hF 999999 x y 0 (by decide) (by decide) h3 (by omega) h1 (by omega)]
  by_cases hy : y = 0
  · subst hy
    rw [if_pos rfl, zgcd_0 h1]
  · rw [if_neg hy, zgcd_step h1 (by omega)]
    have r0 := Int.emod_nonneg x hy
    have r1 := Int.emod_lt_of_pos x (show 0 < y by omega)
    exact (zeuclid F hF 90).1 999999 y (x % y) 1 r0 r1 (by omega) (by omega) (by decide) (by decide) (by decide)
theorem e_common {D : Mm} {x y : Int} (h1 : 0 ≤ x) (h2 : x < 1152921504606846976) (h3 : 0 ≤ y) (h4 : y < 1152921504606846976) : f_Model_common x y D = some (zgcd x y) := by
  refine zeuclid2 (fun n x y _ => f_Model_common_6 D n x y) ?_ h1 h2 h3 h4
  intro n x y c _ _ a1 a2 a3 a4
  show f_Model_common_6 D (n + 1) x y = _
  rw [f_Model_common_6]
  by_cases hy : y = 0
  · subst hy
    rw [if_pos rfl, if_pos rfl]
  · rw [if_neg (fun q => hy ((zL_eq (by omega) (by omega) (by omega) (by omega)).mp q)), if_neg (fun q => hy ((zL_eq0 (by omega) (by omega)).mp q)), if_neg hy, jlrem_nn a3 a4 (by omega) a2]
theorem e_cdiv {D : Mm} {x y : Int} (h1 : 0 ≤ x) (h2 : x < 1152921504606846976) (h3 : 0 ≤ y) (h4 : y < 1152921504606846976) : f_Odds_commonDivisor x y D = some (zgcd x y) := by
  refine zeuclid2 (fun n x y c => f_Odds_commonDivisor_9 D n x y c) ?_ h1 h2 h3 h4
  intro n x y c c0 c1 a1 a2 a3 a4
  show f_Odds_commonDivisor_9 D (n + 1) x y c = _
  rw [f_Odds_commonDivisor_9, if_neg (fun q => by have := (zI_le (by omega) (by omega) (by omega) (by omega)).mp q; omega)]
  by_cases hy : y = 0
  · subst hy
    rw [if_pos rfl, if_pos rfl]
  · rw [if_neg (fun q => hy ((zL_eq (by omega) (by omega) (by omega) (by omega)).mp q)), if_neg (fun q => hy ((zL_eq0 (by omega) (by omega)).mp q)), if_neg hy, jlrem_nn a3 a4 (by omega) a2]
theorem e_lowest {D : Mm} {x y p : Int} (h1 : 0 ≤ x) (h2 : x < 1152921504606846976) (h3 : 0 < y) (h4 : y < 1152921504606846976) (hp : Rg p) : f_Odds_inLowestTerms x y p D = some (if p = 0 then x / zgcd x y else y / zgcd x y) := by
  unfold f_Odds_inLowestTerms f_Odds_inLowestTerms_10
  have g0 := zgcd_pos (x := x) h3
  have g1 := zgcd_le (x := x) h3
  rw [e_cdiv h1 h2 (by omega) h4]
  simp only [Option.bind_some]
  have n1 : ¬ zL (zgcd x y) = zL 0 := fun q => by have := (zL_eq (by omega) (by omega) (by omega) (by omega)).mp q; omega
  have n2 : ¬ zL (zgcd x y) = 0 := fun q => by have := (zL_eq0 (by omega) (by omega)).mp q; omega
  rw [if_neg n1, if_neg n1, if_neg n2, if_neg n2, jldiv_nn h1 (by omega) g0 (by omega), jldiv_nn (by omega) (by omega) g0 (by omega)]
  by_cases hp0 : p = 0
  · rw [if_pos hp0, if_pos ((zI_eq0 hp.1 hp.2).mpr hp0)]
  · rw [if_neg hp0, if_neg (fun q => hp0 ((zI_eq0 hp.1 hp.2).mp q))]

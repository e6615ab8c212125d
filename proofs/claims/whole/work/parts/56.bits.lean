/-! bits (fa_and, fa_or begin as in kit/laws/NUMBERS.to-paste) -/
theorem fa_and (a b : Nat) : nI a &&& nI b = nI (a &&& b) := by
  apply Int32.toBitVec_inj.1
  show BitVec.ofNat 32 a &&& BitVec.ofNat 32 b = BitVec.ofNat 32 (a &&& b)
  apply BitVec.eq_of_getLsbD_eq
  intro i hi
  simp [hi]
theorem fa_or (a b : Nat) : nI a ||| nI b = nI (a ||| b) := by
  apply Int32.toBitVec_inj.1
  show BitVec.ofNat 32 a ||| BitVec.ofNat 32 b = BitVec.ofNat 32 (a ||| b)
  apply BitVec.eq_of_getLsbD_eq
  intro i hi
  simp [hi]
theorem zs_l : ∀ n, n < 32 → ((nI n &&& 31).toBitVec.smod 32).toNat = n := by decide +kernel
theorem jshr_nn {x t : Int} (h0 : 0 ≤ x) (h1 : x < 2147483648) (t0 : 0 ≤ t) (t1 : t < 32) : jshr x t = ((x.toNat / 2 ^ t.toNat : Nat) : Int) := by
  unfold jshr
  have hle : x.toNat / 2 ^ t.toNat ≤ x.toNat := Nat.div_le_self _ _
  rw [zI_nat h0, zI_nat t0, pk_shrN (by omega) _ t.toNat (zs_l t.toNat (by omega)), nI_toInt (by omega)]
theorem bitz_nn {x t : Int} (h0 : 0 ≤ x) (h1 : x < 2147483648) (t0 : 0 ≤ t) (t1 : t < 32) : bitz x t = ((x.toNat / 2 ^ t.toNat % 2 : Nat) : Int) := by
  unfold bitz
  rw [jshr_nn h0 h1 t0 t1]
  unfold jand
  have hle : x.toNat / 2 ^ t.toNat ≤ x.toNat := Nat.div_le_self _ _
  rw [zI_nat (Int.natCast_nonneg _), Int.toNat_natCast, pk_andN (by omega) 1 (by decide +kernel), nI_toInt (by omega)]
theorem bitz_tb {x t : Int} (h0 : 0 ≤ x) (h1 : x < 2147483648) (t0 : 0 ≤ t) (t1 : t < 32) : bitz x t = if x.toNat.testBit t.toNat then 1 else 0 := by
  rw [bitz_nn h0 h1 t0 t1, Nat.testBit_eq_decide_div_mod_eq]
  have := Nat.mod_two_eq_zero_or_one (x.toNat / 2 ^ t.toNat)
  rcases this with h | h <;> rw [h] <;> rfl
theorem jor_nn {x y : Int} (h0 : 0 ≤ x) (h1 : 0 ≤ y) (h : x.toNat ||| y.toNat < 2 ^ 31) : jor x y = ((x.toNat ||| y.toNat : Nat) : Int) := by
  unfold jor
  rw [zI_nat h0, zI_nat h1, fa_or, nI_toInt h]
theorem jand_nn {x y : Int} (h0 : 0 ≤ x) (h1 : 0 ≤ y) (h : x.toNat &&& y.toNat < 2 ^ 31) : jand x y = ((x.toNat &&& y.toNat : Nat) : Int) := by
  unfold jand
  rw [zI_nat h0, zI_nat h1, fa_and, nI_toInt h]
theorem jshl1 {f : Int} (h0 : 0 ≤ f) (h1 : f < 31) : jshl 1 f = ((2 ^ f.toNat : Nat) : Int) := by
  unfold jshl
  have h2 : (2 : Nat) ^ f.toNat < 2 ^ 31 := Nat.pow_lt_pow_right (by decide) (by omega)
  rw [zI_nat (x := 1) (by decide), zI_nat h0, pk_shlN _ f.toNat (zs_l f.toNat (by omega)) (by show 1 * _ < _; omega)]
  show (nI (1 * 2 ^ f.toNat)).toInt = _
  rw [Nat.one_mul, nI_toInt h2]
theorem jor_bit {x f : Int} {w : Nat} (h0 : 0 ≤ x) (h1 : x.toNat < 2 ^ w) (hw : w ≤ 31) (f0 : 0 ≤ f) (f1 : f.toNat < w) : 0 ≤ jor x (jshl 1 f) ∧ (jor x (jshl 1 f)).toNat < 2 ^ w ∧ ∀ g : Int, 0 ≤ g → g < 32 → bitz (jor x (jshl 1 f)) g = if g = f then 1 else bitz x g := by
  have e1 := jshl1 f0 (show f < 31 by omega)
  have hp : (2 : Nat) ^ f.toNat < 2 ^ w := Nat.pow_lt_pow_right (by decide) f1
  have hor : x.toNat ||| 2 ^ f.toNat < 2 ^ w := Nat.or_lt_two_pow h1 hp
  have hw2 : (2 : Nat) ^ w ≤ 2 ^ 31 := Nat.pow_le_pow_right (by decide) hw
  have e2 : jor x (jshl 1 f) = ((x.toNat ||| 2 ^ f.toNat : Nat) : Int) := by
    rw [e1, jor_nn h0 (Int.natCast_nonneg _) (by rw [Int.toNat_natCast]; omega), Int.toNat_natCast]
  rw [e2]
  refine ⟨by omega, by rw [Int.toNat_natCast]; exact hor, fun g g0 g1 => ?_⟩
  rw [bitz_tb (by omega) (by omega) g0 g1, bitz_tb h0 (by omega) g0 g1, Int.toNat_natCast, Nat.testBit_or, Nat.testBit_two_pow]
  by_cases hg : g = f
  · subst hg
    simp
  · have : ¬ f.toNat = g.toNat := by omega
    simp [hg, this]
theorem bitc_all : (List.range 1024).all (fun x => decide (f_Integer_bitCount (x : Int) (fun _ _ => 0) = some (zsum (fun f => bitz (x : Int) f) 10))) = true := by decide +kernel
theorem e_bitc {D : Mm} {x : Int} (h0 : 0 ≤ x) (h1 : x ≤ 1023) : f_Integer_bitCount x D = some (zsum (fun f => bitz x f) 10) := by
  have h := of_decide_eq_true (List.all_eq_true.mp bitc_all x.toNat (List.mem_range.mpr (by omega)))
  have e : ((x.toNat : Nat) : Int) = x := by omega
  rw [e] at h
  exact h

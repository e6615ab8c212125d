theorem bv_low (b : BitVec 64) (t : Nat) (ht : t ≤ 56) : (b.sshiftRight t).toNat % 256 = (b >>> t).toNat % 256 := by
  have h : (b.sshiftRight t).setWidth 8 = (b >>> t).setWidth 8 := by
    apply BitVec.eq_of_getLsbD_eq
    intro i hi
    rw [BitVec.getLsbD_setWidth, BitVec.getLsbD_setWidth, BitVec.getLsbD_sshiftRight, BitVec.getLsbD_ushiftRight]
    rw [if_pos (show t + i < 64 by omega), decide_eq_false (show ¬ 64 ≤ i by omega)]
    rfl
  have h2 := congrArg BitVec.toNat h
  rw [BitVec.toNat_setWidth, BitVec.toNat_setWidth] at h2
  exact h2
theorem nat_and255 (n : Nat) : n &&& 255 = n % 256 := Nat.and_two_pow_sub_one_eq_mod n 8
theorem byt32 (Y : Int64) : (zI Y.toInt &&& zI 255).toInt = ((Y.toBitVec.toNat % 256 : Nat) : Int) := by
  have e1 : zI Y.toInt = Y.toInt32 := Int32.ofInt_int64ToInt Y
  rw [e1]
  show (Y.toInt32 &&& zI 255).toBitVec.toInt = _
  have e2 : (Y.toInt32 &&& zI 255).toBitVec = Y.toBitVec.setWidth 32 &&& 255#32 := by
    rw [Int32.toBitVec_and]
    show Y.toBitVec.signExtend 32 &&& 255#32 = _
    rw [BitVec.signExtend_eq_setWidth_of_le _ (by decide)]
  have e3 : (Y.toBitVec.setWidth 32 &&& 255#32).toNat = Y.toBitVec.toNat % 256 := by
    rw [BitVec.toNat_and, BitVec.toNat_setWidth]
    show Y.toBitVec.toNat % 4294967296 &&& 255 = _
    rw [nat_and255]
    omega
  rw [e2, BitVec.toInt_eq_toNat_of_lt (by rw [e3]; omega), e3]
theorem byt64 (Y : Int64) : (zL Y.toInt &&& zL 255).toInt = ((Y.toBitVec.toNat % 256 : Nat) : Int) := by
  have e1 : zL Y.toInt = Y := Int64.ofInt_toInt Y
  rw [e1]
  show (Y &&& zL 255).toBitVec.toInt = _
  have e2 : (Y &&& zL 255).toBitVec = Y.toBitVec &&& 255#64 := by
    rw [Int64.toBitVec_and]
    rfl
  have e3 : (Y.toBitVec &&& 255#64).toNat = Y.toBitVec.toNat % 256 := by
    rw [BitVec.toNat_and]
    exact nat_and255 _
  rw [e2, BitVec.toInt_eq_toNat_of_lt (by rw [e3]; omega), e3]
theorem e_byt {v k : Int} (k0 : 0 ≤ k) (k1 : k ≤ 7) : jand (jlushr v (8 * k)) 255 = jland (jlshr v (8 * k)) 255 ∧ 0 ≤ jand (jlushr v (8 * k)) 255 ∧ jand (jlushr v (8 * k)) 255 ≤ 255 := by
  unfold jand jland
  have a1 : jand (jlushr v (8 * k)) 255 = _ := byt32 ((zL v).toUInt64 >>> ((zI (8 * k)).toInt64.toUInt64 &&& Int64.toUInt64 63)).toInt64
  have a2 : jland (jlshr v (8 * k)) 255 = _ := byt64 (zL v >>> ((zI (8 * k)).toInt64 &&& 63))
  unfold jand at a1
  unfold jland at a2
  rw [a1, a2]
  generalize zL v = X
  have key : ((X.toUInt64 >>> ((zI (8 * k)).toInt64.toUInt64 &&& Int64.toUInt64 63)).toInt64).toBitVec.toNat % 256 = (X >>> ((zI (8 * k)).toInt64 &&& 63)).toBitVec.toNat % 256 := by
    have f1 : (X >>> ((zI (8 * k)).toInt64 &&& 63)).toBitVec = X.toBitVec.sshiftRight (8 * k).toNat := by
      rw [Int64.toBitVec_shiftRight]
      show X.toBitVec.sshiftRight _ = _
      congr 1
      rcases (show k = 0 ∨ k = 1 ∨ k = 2 ∨ k = 3 ∨ k = 4 ∨ k = 5 ∨ k = 6 ∨ k = 7 by omega) with h | h | h | h | h | h | h | h <;> subst h <;> decide +kernel
    have f2 : ((X.toUInt64 >>> ((zI (8 * k)).toInt64.toUInt64 &&& Int64.toUInt64 63)).toInt64).toBitVec = X.toBitVec >>> (8 * k).toNat := by
      show (X.toUInt64 >>> ((zI (8 * k)).toInt64.toUInt64 &&& Int64.toUInt64 63)).toBitVec = _
      rw [UInt64.toBitVec_shiftRight]
      show X.toBitVec >>> BitVec.toNat _ = _
      congr 1
      rcases (show k = 0 ∨ k = 1 ∨ k = 2 ∨ k = 3 ∨ k = 4 ∨ k = 5 ∨ k = 6 ∨ k = 7 by omega) with h | h | h | h | h | h | h | h <;> subst h <;> decide +kernel
    rw [f1, f2]
    exact (bv_low _ _ (by omega)).symm
  rw [key]
  omega
theorem e_wC (v : Int) : ∀ (m n : Nat) (k : Int) (D : Mm), (k + 1).toNat = m → -1 ≤ k → k ≤ 7 → m < n → 0 ≤ D 2 1 → D 2 1 + k + 1 ≤ 500 → ∃ E, f_Main_write_35 v n k D = some (E 2 1, E) ∧ E 2 1 = D 2 1 + k + 1 ∧ (∀ j, 0 ≤ j → j ≤ k → E 3 (D 2 1 + (k - j)) = jand (jlushr v (8 * j)) 255) ∧ ∀ c i, ¬ (c = 2 ∧ i = 1) → ¬ (c = 3 ∧ D 2 1 ≤ i ∧ i < D 2 1 + k + 1) → E c i = D c i := by
  intro m
  induction m with
  | zero =>
    intro n k D hm k0 k1 hn d0 d1
    obtain ⟨n, rfl⟩ : ∃ x, n = x + 1 := ⟨n - 1, by omega⟩
    have : k = -1 := by omega
    subst this
    refine ⟨D, ?_, by omega, fun j j0 j1 => by omega, fun c i _ _ => rfl⟩
    rw [f_Main_write_35, if_pos (by decide +kernel)]
  | succ m ih =>
    intro n k D hm k0 k1 hn d0 d1
    obtain ⟨n, rfl⟩ : ∃ x, n = x + 1 := ⟨n - 1, by omega⟩
    have nc : ¬ zI k < 0 := fun q => by have := (zI_lt (b := 0) (by omega) (by omega) (by omega) (by omega)).mp q; omega
    have n5 : ¬ zI 500 ≤ zI (D 2 1) := fun q => by have := (zI_le (by omega) (by omega) (by omega) (by omega)).mp q; omega
    have g5 : 0 ≤ D 2 1 ∧ D 2 1 < 500 := by omega
    have hp : f_Text_put (jand (jlushr v (8 * k)) 255) D = some (0, stm (stm D 3 (D 2 1) (jand (jlushr v (8 * k)) 255)) 2 1 (stm D 3 (D 2 1) (jand (jlushr v (8 * k)) 255) 2 1 + 1)) := by
      unfold f_Text_put
      rw [if_neg n5, if_pos g5]
      rfl
    rw [f_Main_write_35, if_neg nc, hp, zb_some]
    generalize hG : stm (stm D 3 (D 2 1) (jand (jlushr v (8 * k)) 255)) 2 1 (stm D 3 (D 2 1) (jand (jlushr v (8 * k)) 255) 2 1 + 1) = G
    have G1 : G 2 1 = D 2 1 + 1 := by rw [← hG, stm_eq ⟨rfl, rfl⟩, stm_ne (by omega)]
    have G3 : G 3 (D 2 1) = jand (jlushr v (8 * k)) 255 := by rw [← hG, stm_ne (by omega), stm_eq ⟨rfl, rfl⟩]
    have Go : ∀ c i, ¬ (c = 2 ∧ i = 1) → ¬ (c = 3 ∧ i = D 2 1) → G c i = D c i := fun c i h1 h2 => by rw [← hG, stm_ne (by omega), stm_ne (by omega)]
    obtain ⟨E, e1, e2, e3, e4⟩ := ih n (k + (-1)) G (by omega) (by omega) (by omega) (by omega) (by omega) (by omega)
    refine ⟨E, e1, by omega, fun j j0 j1 => ?_, fun c i h1 h2 => ?_⟩
    · by_cases hj : j = k
      · subst hj
        rw [show D 2 1 + (j - j) = D 2 1 by omega, e4 _ _ (by omega) (by omega), G3]
      · have := e3 j j0 (by omega)
        rw [show D 2 1 + (k - j) = G 2 1 + (k + -1 - j) by omega]
        exact this
    · rw [e4 c i h1 (by omega), Go c i h1 (by omega)]
theorem e_wM (v : Int) : ∀ (m n : Nat) (k : Int) (D : Mm), (k + 1).toNat = m → -1 ≤ k → k ≤ 7 → m < n → 0 ≤ D 144 0 → D 144 0 + k + 1 ≤ 500 → ∃ E, f_Model_write_34 v n k D = some (E 144 0, E) ∧ E 144 0 = D 144 0 + k + 1 ∧ (∀ j, 0 ≤ j → j ≤ k → E 145 (D 144 0 + (k - j)) = jland (jlshr v (8 * j)) 255) ∧ ∀ c i, ¬ (c = 144 ∧ i = 0) → ¬ (c = 145 ∧ D 144 0 ≤ i ∧ i < D 144 0 + k + 1) → E c i = D c i := by
  intro m
  induction m with
  | zero =>
    intro n k D hm k0 k1 hn d0 d1
    obtain ⟨n, rfl⟩ : ∃ x, n = x + 1 := ⟨n - 1, by omega⟩
    have : k = -1 := by omega
    subst this
    refine ⟨D, ?_, by omega, fun j j0 j1 => by omega, fun c i _ _ => rfl⟩
    rw [f_Model_write_34, if_pos (by decide +kernel)]
  | succ m ih =>
    intro n k D hm k0 k1 hn d0 d1
    obtain ⟨n, rfl⟩ : ∃ x, n = x + 1 := ⟨n - 1, by omega⟩
    have nc : ¬ zI k < 0 := fun q => by have := (zI_lt (b := 0) (by omega) (by omega) (by omega) (by omega)).mp q; omega
    have g5 : 0 ≤ D 144 0 ∧ D 144 0 < 500 := by omega
    rw [f_Model_write_34, if_neg nc, if_pos g5]
    simp only [zst]
    generalize hG : stm (stm D 145 (D 144 0) (jland (jlshr v (8 * k)) 255)) 144 0 (stm D 145 (D 144 0) (jland (jlshr v (8 * k)) 255) 144 0 + 1) = G
    have G1 : G 144 0 = D 144 0 + 1 := by rw [← hG, stm_eq ⟨rfl, rfl⟩, stm_ne (by omega)]
    have G3 : G 145 (D 144 0) = jland (jlshr v (8 * k)) 255 := by rw [← hG, stm_ne (by omega), stm_eq ⟨rfl, rfl⟩]
    have Go : ∀ c i, ¬ (c = 144 ∧ i = 0) → ¬ (c = 145 ∧ i = D 144 0) → G c i = D c i := fun c i h1 h2 => by rw [← hG, stm_ne (by omega), stm_ne (by omega)]
    obtain ⟨E, e1, e2, e3, e4⟩ := ih n (k + (-1)) G (by omega) (by omega) (by omega) (by omega) (by omega) (by omega)
    refine ⟨E, e1, by omega, fun j j0 j1 => ?_, fun c i h1 h2 => ?_⟩
    · by_cases hj : j = k
      · subst hj
        rw [show D 144 0 + (j - j) = D 144 0 by omega, e4 _ _ (by omega) (by omega), G3]
      · have := e3 j j0 (by omega)
        rw [show D 144 0 + (k - j) = G 144 0 + (k + -1 - j) by omega]
        exact this
    · rw [e4 c i h1 (by omega), Go c i h1 (by omega)]
theorem q_write {D : Mm} (h : Iv D) {k v : Int} (hk : Rg k) : EqMM (f_Main_write k v D) (f_Model_write k v) := by
  have hh := h
  have hq := h.q
  obtain ⟨⟨t0, t1, t2, t3⟩, -⟩ := h
  unfold f_Main_write
  rw [e_within hk ⟨by decide, by decide⟩ ⟨by decide, by decide⟩, bnd_if]
  by_cases c1 : 1 ≤ k ∧ k ≤ 8
  · rw [if_pos c1]
    by_cases c2 : D 2 1 + k ≤ 500
    · rw [if_pos ((zI_le (by omega) (by omega) (by omega) (by omega)).mpr c2)]
      obtain ⟨E, e1, e2, e3, e4⟩ := e_wC v (k - 1 + 1).toNat zF (k - 1) D rfl (by omega) (by omega) (zF_pos (by omega)) t0 (by omega)
      have l1 : E 144 0 = D 2 1 := by rw [e4 _ _ (by omega) (by omega), t2]
      obtain ⟨G, g1, g2, g3, g4⟩ := e_wM v (k - 1 + 1).toNat zF (k - 1) E rfl (by omega) (by omega) (zF_pos (by omega)) (by omega) (by omega)
      have hr : G 144 0 = E 2 1 := by omega
      refine ⟨E 2 1, E, G, e1, ?_, ?_⟩
      · unfold f_Model_write
        rw [wI_id hk.1 hk.2, e_in hk ⟨by decide, by decide⟩ ⟨by decide, by decide⟩, bnd_if, if_pos c1, if_pos ((zI_le (by omega) (by omega) (by omega) (by omega)).mpr (show E 144 0 + k ≤ 500 by omega)), ← hr]
        exact g1
      · have o2 : G 2 1 = D 2 1 + k := by rw [g4 _ _ (by omega) (by omega)]; omega
        refine hh.setT (fun a i _ hn => by rw [g4 _ _ (by omega) (by omega), e4 _ _ (by omega) (by omega)]) ⟨by omega, by omega, by omega, fun i i0 i1 => ?_⟩
        by_cases ci : i < D 2 1
        · rw [g4 145 i (by omega) (by omega), g4 3 i (by omega) (by omega), e4 145 i (by omega) (by omega), e4 3 i (by omega) (by omega)]
          exact t3 i i0 ci
        · have x1 := e3 (k - 1 - (i - D 2 1)) (by omega) (by omega)
          have x2 := g3 (k - 1 - (i - D 2 1)) (by omega) (by omega)
          rw [show D 2 1 + (k - 1 - (k - 1 - (i - D 2 1))) = i by omega] at x1
          rw [show E 144 0 + (k - 1 - (k - 1 - (i - D 2 1))) = i by omega] at x2
          have b := e_byt (v := v) (k := k - 1 - (i - D 2 1)) (by omega) (by omega)
          rw [g4 3 i (by omega) (by omega), x2, x1]
          exact ⟨b.1.symm, b.2⟩
    · have nc : ¬ zI (D 2 1 + k) ≤ zI 500 := fun q => c2 ((zI_le (by omega) (by omega) (by omega) (by omega)).mp q)
      rw [if_neg nc]
      refine ⟨-3, D, D, rfl, ?_, hh⟩
      unfold f_Model_write
      rw [wI_id hk.1 hk.2, e_in hk ⟨by decide, by decide⟩ ⟨by decide, by decide⟩, bnd_if, if_pos c1, t2, if_neg nc]
  · rw [if_neg c1]
    refine ⟨-1, D, D, rfl, ?_, hh⟩
    unfold f_Model_write
    rw [wI_id hk.1 hk.2, e_in hk ⟨by decide, by decide⟩ ⟨by decide, by decide⟩, bnd_if, if_neg c1]

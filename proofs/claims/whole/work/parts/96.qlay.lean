theorem q_lay {D : Mm} (h : Iv D) : EqMM (f_Main_lay D) f_Model_lay := by
  have hl := h.2.1
  have hq : D 1 8 = 32 ∨ D 1 8 = 69 := by rcases hl with h | h <;> simp [h.2]
  have hq7 := h.q
  obtain ⟨r, D1, a1, a2, a0, a3⟩ := e_reads h
  have d17 : D1 1 7 = D 1 7 := a2 1 7 (by omega) (by omega)
  have d18 : D1 1 8 = D 1 8 := a2 1 8 (by omega) (by omega)
  have no : ∀ D2, MF D2 D1 → Iv D2 := fun D2 b2 => h.cong (fun a i hr => by
    unfold Rel Bk0 at hr
    rw [b2 a i (by unfold Mz; omega), a2 a i (by omega) (by omega)])
  unfold f_Main_lay
  rw [if_pos hq, a1, zb_some]
  by_cases c1 : r = -4
  · rw [if_pos (show zI r = zI (-4) by rw [c1]), d18, if_pos hq]
    obtain ⟨N1, n1, n2, n3⟩ := a3 D1 (fun j => a2 144 j (by omega) (by omega)) (fun j => a2 145 j (by omega) (by omega))
    have qb0 := n3 c1
    have k1 := qb0.1
    have k2 := qb0.2.1
    unfold B1 at k1
    unfold B2 at k2
    by_cases c2 : D1 (D 1 8) 0 = 0
    · rw [if_pos ((zI_eq0 (by omega) (by omega)).mpr c2)]
      refine ⟨-2, D1, N1, rfl, ?_, no N1 n2⟩
      unfold f_Model_lay
      rw [n1, zb_some, if_pos (show zI r = zI (-4) by rw [c1]), k1.2.2, if_pos ((zI_eq0 (by omega) (by omega)).mpr c2)]
    rw [if_neg (fun y => c2 ((zI_eq0 (by omega) (by omega)).mp y))]
    by_cases c3 : D1 (D 1 8) 1 = 0
    · rw [if_pos hq, if_pos ((zI_eq0 (by omega) (by omega)).mpr c3)]
      refine ⟨-2, D1, N1, rfl, ?_, no N1 n2⟩
      unfold f_Model_lay
      rw [n1, zb_some, if_pos (show zI r = zI (-4) by rw [c1]), k1.2.2, if_neg (fun y => c2 ((zI_eq0 (by omega) (by omega)).mp y)), k2.2.2, if_pos ((zI_eq0 (by omega) (by omega)).mpr c3)]
    rw [if_pos hq, if_neg (fun y => c3 ((zI_eq0 (by omega) (by omega)).mp y)), d17, if_pos hq7, if_pos hq]
    simp only [zst]
    obtain ⟨D6, x1, x2, x3, x4, x5⟩ := e_fc 12 (stm (stm D1 1 7 (D 1 8)) 1 8 (D 1 7))
    rw [x1, zb_some]
    clear n1 n2 n3 qb0 k1 k2
    generalize hE : stm D6 1 6 0 = E
    have E16 : E 1 6 = 0 := by rw [← hE, stm_eq ⟨rfl, rfl⟩]
    have E17 : E 1 7 = D 1 8 := by rw [← hE, stm_ne (by omega), x5 _ _ (by omega), stm_ne (by omega), stm_eq ⟨rfl, rfl⟩]
    have E18 : E 1 8 = D 1 7 := by rw [← hE, stm_ne (by omega), x5 _ _ (by omega), stm_eq ⟨rfl, rfl⟩]
    have Eo : ∀ c j, ¬ (c = 1 ∧ 6 ≤ j ∧ j ≤ 8) → ¬ (12 ≤ c ∧ c < 31) → E c j = D1 c j := fun c j x y => by rw [← hE, stm_ne (by omega), x5 _ _ (by omega), stm_ne (by omega), stm_ne (by omega)]
    have Ec : ∀ s t, 0 ≤ s → s < 10 → 0 ≤ t → t < 6 → E (12 + 2 + s) t = 0 := fun s t y1 y2 y3 y4 => by rw [← hE, stm_ne (by omega)]; exact x2 s t y1 y2 y3 y4
    have Eb : ∀ s t, 0 ≤ s → s < 6 → 0 ≤ t → t < 6 → E (12 + 13 + s) t = 0 := fun s t y1 y2 y3 y4 => by rw [← hE, stm_ne (by omega)]; exact x3 s t y1 y2 y3 y4
    have E12 : E 12 2 = 0 ∧ E 12 3 = 0 ∧ E 12 4 = 0 := by rw [← hE, stm_ne (by omega), stm_ne (by omega), stm_ne (by omega)]; exact x4
    clear hE x1 x2 x3 x4 x5
    rw [E17, if_pos hq]
    obtain ⟨M, m1, m2, m3⟩ := a3 E (fun j => by rw [Eo _ _ (by omega) (by omega), a2 144 j (by omega) (by omega)]) (fun j => by rw [Eo _ _ (by omega) (by omega), a2 145 j (by omega) (by omega)])
    obtain ⟨h1, h2, h3, h4, h5, h6, h7, h8, h9, h10⟩ := m3 c1
    have k1 := h1
    have k2 := h2
    unfold B1 at k1
    unfold B2 at k2
    obtain ⟨N, p1, p2, p3, p4, p5, p6, p7, p8⟩ := e_l56 (stm (stm M 146 0 (M 146 1)) 148 0 (M 148 1))
    have sM : ∀ c j, c ≠ 146 → c ≠ 148 → stm (stm M 146 0 (M 146 1)) 148 0 (M 148 1) c j = M c j := fun c j x y => by rw [stm_ne (by omega), stm_ne (by omega)]
    have N146 : N 146 0 = D1 (D 1 8) 0 := by rw [p8 _ _ (by unfold L0; omega), stm_ne (by omega), stm_eq ⟨rfl, rfl⟩, k1.2.2]
    have N148 : N 148 0 = D1 (D 1 8) 1 := by rw [p8 _ _ (by unfold L0; omega), stm_eq ⟨rfl, rfl⟩, k2.2.2]
    have NE : ∀ c j, c < 144 → N c j = E c j := fun c j x => by rw [p8 _ _ (by unfold L0; omega), sM _ _ (by omega) (by omega), m2 _ _ (by unfold Mz; omega)]
    have NQ : ∀ c j, D 1 8 ≤ c → c ≤ D 1 8 + 36 → N c j = D1 c j := fun c j x y => by rw [NE _ _ (by omega), Eo _ _ (by omega) (by omega)]
    have NX : ∀ c j, (c = 144 ∧ j = 0) ∨ c = 145 → N c j = D c j := fun c j x => by rw [p8 _ _ (by unfold L0; omega), sM _ _ (by omega) (by omega), m2 _ _ (by unfold Mz; omega), Eo _ _ (by omega) (by omega), a2 _ _ (by omega) (by omega)]
    have ND : ∀ c j, c = 2 ∨ c = 3 ∨ c = 9 → N c j = D c j := fun c j x => by rw [NE _ _ (by omega), Eo _ _ (by omega) (by omega), a2 _ _ (by omega) (by omega)]
    have N17 : N 1 7 = D 1 8 := by rw [NE _ _ (by omega), E17]
    have N18 : N 1 8 = D 1 7 := by rw [NE _ _ (by omega), E18]
    have N16 : N 1 6 = 0 := by rw [NE _ _ (by omega), E16]
    refine ⟨E (D 1 8) 1, E, N, rfl, ?_, ?_⟩
    · unfold f_Model_lay
      rw [m1, zb_some, if_pos (show zI r = zI (-4) by rw [c1]), k1.2.2, if_neg (fun y => c2 ((zI_eq0 (by omega) (by omega)).mp y)), k2.2.2, if_neg (fun y => c3 ((zI_eq0 (by omega) (by omega)).mp y))]
      simp only [zst]
      rw [stm_ne (show (148 : Int) ≠ 146 ∨ (1 : Int) ≠ 0 by omega), k2.2.2]
      rw [k1.2.2, k2.2.2] at p1
      rw [p1, N148, Eo _ _ (by omega) (by omega)]
    · have g0 : ∀ j, N (D 1 8) j = D1 (D 1 8) j := fun j => NQ _ _ (by omega) (by omega)
      refine ⟨?_, ?_, ?_, ?_, ?_, fun i i0 i1 => ?_⟩
      · obtain ⟨t0, t1, t2, t3⟩ := h.1
        refine ⟨?_, ?_, ?_, fun k y0 y1 => ?_⟩
        · rw [ND 2 1 (by omega)]; exact t0
        · rw [ND 2 1 (by omega)]; exact t1
        · rw [ND 2 1 (by omega), NX 144 0 (by omega)]; exact t2
        · rw [ND 2 1 (by omega)] at y1
          rw [ND 3 k (by omega), NX 145 k (by omega)]
          exact t3 k y0 y1
      · rw [N17, N18]; omega
      · rw [N17]
        refine ⟨?_, ?_, fun s w x1 x2 x3 x4 => ?_, fun f x1 x2 => ?_, fun f s x1 x2 x3 x4 => ?_, fun t s x1 x2 x3 x4 => ?_, fun t x1 x2 => ?_, ?_, fun s t x1 x2 x3 x4 => ?_, fun s x1 x2 => ?_⟩
        · rw [g0, N146]; omega
        · rw [g0, N148]; omega
        · rw [g0] at x2
          rw [(p2 (4 * s + w) (by omega) (by omega)).1, sM _ _ (by omega) (by omega), NQ _ _ (by omega) (by omega)]
          exact h3 s w x1 x2 x3 x4
        · rw [g0] at x2
          obtain ⟨u1, u2, u3, u4⟩ := (p3 f x1 (by omega)).1
          rw [u1, u2, u3, u4, sM _ _ (by omega) (by omega), sM _ _ (by omega) (by omega), sM _ _ (by omega) (by omega), sM _ _ (by omega) (by omega), NQ (D 1 8 + 8) _ (by omega) (by omega), NQ (D 1 8 + 9) _ (by omega) (by omega), NQ (D 1 8 + 10) _ (by omega) (by omega), NQ (D 1 8 + 11) _ (by omega) (by omega)]
          exact h4 f x1 x2
        · rw [(p4 (6 * f + s) (by omega) (by omega)).1, sM _ _ (by omega) (by omega), NQ _ _ (by omega) (by omega)]
          exact h5 f s x1 x2 x3 x4
        · rw [(p2 (6 * t + s) (by omega) (by omega)).2, sM _ _ (by omega) (by omega), NQ _ _ (by omega) (by omega)]
          exact h6 t s x1 x2 x3 x4
        · obtain ⟨u1, u2, u3⟩ := p5 t x1 x2
          rw [u1, u2, u3, sM _ _ (by omega) (by omega), sM _ _ (by omega) (by omega), sM _ _ (by omega) (by omega), NQ (D 1 8 + 28) _ (by omega) (by omega), NQ (D 1 8 + 29) _ (by omega) (by omega), g0]
          exact ⟨h7 t x1 x2, h8 t x1 x2, h9.2 t x1 x2⟩
        · rw [g0]; exact h9.1
        · rw [(p6 (6 * s + t) (by omega) (by omega)).1, sM _ _ (by omega) (by omega), NQ _ _ (by omega) (by omega)]
          exact h10.1 s t x1 x2 x3 x4
        · rw [NQ _ _ (by omega) (by omega)]
          exact h10.2.1 s x1 x2
      · have e2 : N 12 2 = 0 := by rw [NE _ _ (by omega)]; exact E12.1
        have e3 : N 12 3 = 0 := by rw [NE _ _ (by omega)]; exact E12.2.1
        have e4 : N 12 4 = 0 := by rw [NE _ _ (by omega)]; exact E12.2.2
        have bz : ∀ f : Int, 0 ≤ f → f < 10 → bitz 0 f = 0 := fun f f0 f1 => by
          rw [bitz_nn (by decide) (by decide) f0 (by omega), show (0 : Int).toNat = 0 from rfl, Nat.zero_div]
          rfl
        refine ⟨fun f s x1 x2 x3 x4 => ?_, by omega, fun f x1 x2 => ?_, fun s t x1 x2 x3 x4 => ?_, ⟨?_, by omega, by omega⟩, ?_⟩
        · rw [(p4 (6 * f + s) (by omega) (by omega)).2, NE _ _ (by omega), Ec f s x1 x2 x3 x4]
          decide
        · rw [(p3 f x1 x2).2, e2, bz f x1 x2]
          exact ⟨rfl, fun _ => rfl⟩
        · rw [(p6 (6 * s + t) (by omega) (by omega)).2, NE _ _ (by omega), Eb s t x1 x2 x3 x4, e3]
          decide
        · rw [e3]
          exact zsum_0 36 (fun k k0 k1 => (p6 k k0 (by omega)).2)
        · rw [p7.1, e4]
          decide
      · rw [N16, ND 9 0 (by omega), p7.2]
        exact ⟨⟨by decide, h.2.2.2.2.1.1.2⟩, by decide, rfl⟩
      · rw [N16] at i1
        omega
  · obtain ⟨N1, n1, n2, -⟩ := a3 D1 (fun j => a2 144 j (by omega) (by omega)) (fun j => a2 145 j (by omega) (by omega))
    have c1' : ¬ zI r = zI (-4) := fun y => c1 ((zI_eq (by omega) (by omega) (by omega) (by omega)).mp y)
    rw [if_neg c1']
    refine ⟨-2, D1, N1, rfl, ?_, no N1 n2⟩
    unfold f_Model_lay
    rw [n1, zb_some, if_neg c1']

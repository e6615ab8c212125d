def mst (m t v : Int) : Int := jor (jand m (jxor (jshl 1 t) (-1))) (jshl v t)
theorem must_all : (List.range 16).all (fun m => (List.range 4).all (fun t => (List.range 2).all (fun v => decide (0 ≤ mst (m : Int) (t : Int) (v : Int) ∧ mst (m : Int) (t : Int) (v : Int) ≤ 15) && (List.range 4).all (fun j => decide (bitz (mst (m : Int) (t : Int) (v : Int)) (j : Int) = if (j : Int) = (t : Int) then (v : Int) else bitz (m : Int) (j : Int)))))) = true := by decide +kernel
theorem must_b {m t v : Int} (m0 : 0 ≤ m) (m1 : m ≤ 15) (t0 : 0 ≤ t) (t1 : t < 4) (v0 : 0 ≤ v) (v1 : v ≤ 1) : (0 ≤ mst m t v ∧ mst m t v ≤ 15) ∧ ∀ j, 0 ≤ j → j < 4 → bitz (mst m t v) j = if j = t then v else bitz m j := by
  have h1 := List.all_eq_true.mp must_all m.toNat (List.mem_range.mpr (by omega))
  have h2 := List.all_eq_true.mp h1 t.toNat (List.mem_range.mpr (by omega))
  have h3 := List.all_eq_true.mp h2 v.toNat (List.mem_range.mpr (by omega))
  rw [Bool.and_eq_true] at h3
  obtain ⟨a, b⟩ := h3
  have em : ((m.toNat : Nat) : Int) = m := by omega
  have et : ((t.toNat : Nat) : Int) = t := by omega
  have ev : ((v.toNat : Nat) : Int) = v := by omega
  rw [em, et, ev] at a b
  refine ⟨of_decide_eq_true a, fun j j0 j1 => ?_⟩
  have c := of_decide_eq_true (List.all_eq_true.mp b j.toNat (List.mem_range.mpr (by omega)))
  have ej : ((j.toNat : Nat) : Int) = j := by omega
  rw [ej] at c
  exact c
theorem tk_t {q : Int} {C M : Mm} (hq : q = 32 ∨ q = 69) (h : QB C M q) (n : Nq 3 C M) : Tk q (f_Quern_takeHours q (C 5 0) (C 5 1) (C 5 2) C) (tl_t M) C M := by
  obtain ⟨h1, h2, h3, h4, h5, h6, h7, h8, h9, h10⟩ := h
  obtain ⟨n0, n1⟩ := n 0 (by decide) (by decide)
  obtain ⟨m0, m1⟩ := n 1 (by decide) (by decide)
  obtain ⟨k0, k1⟩ := n 2 (by decide) (by decide)
  have b1 := h1
  unfold B1 at b1
  unfold f_Quern_takeHours tl_t
  rw [n0, m0, k0, e_isStep n1.1 n1.2, bnd_if, e_within ⟨by omega, by omega⟩ ⟨by decide, by decide⟩ ⟨by decide, by decide⟩, bnd_if, e_within ⟨by omega, by omega⟩ ⟨by decide, by decide⟩ ⟨by decide, by decide⟩, bnd_if, zltI (by omega) (by omega) (by omega) (by omega), zltI (by omega) (by omega) (by omega) (by omega), zleI (by omega) (by omega) (by omega) (by omega)]
  by_cases c1 : C 5 0 < 4
  · rw [if_pos c1, if_neg (show ¬ 3 < C 5 0 by omega)]
    by_cases c2 : C 5 1 ≤ 99
    · rw [if_pos ⟨m1.1, c2⟩, if_neg (show ¬ 99 < C 5 1 by omega)]
      by_cases c3 : C 5 2 ≤ 1
      · rw [if_pos ⟨k1.1, c3⟩, if_pos c3, if_pos (show 0 ≤ C 5 0 ∧ C 5 0 < 4 by omega), if_pos (show 0 ≤ 4 + C 5 0 ∧ 4 + C 5 0 < 8 by omega)]
        simp only [zst]
        rw [stm_ne (show (163 : Int) ≠ 156 ∨ (0 : Int) ≠ 4 + C 5 0 by omega), stm_ne (show (163 : Int) ≠ 156 ∨ (2 : Int) ≠ 4 + C 5 0 by omega), n0, k0, if_pos (show 0 ≤ 4 + C 5 0 ∧ 4 + C 5 0 < 8 by omega), stm_ne (show q ≠ q + 29 ∨ (11 : Int) ≠ C 5 0 by omega)]
        obtain ⟨mb1, mb2⟩ := must_b h9.1.1 h9.1.2 n1.1 c1 k1.1 c3
        have eC : ∀ c j, ¬ (c = q + 29 ∧ j = C 5 0) → ¬ (c = q ∧ j = 11) → stm (stm C (q + 29) (C 5 0) (C 5 1)) q 11 (mst (C q 11) (C 5 0) (C 5 2)) c j = C c j := fun c j x y => by rw [stm_ne (by omega), stm_ne (by omega)]
        have eM : ∀ c j, ¬ (c = 156 ∧ j = 4 + C 5 0) → ¬ (c = 157 ∧ j = 4 + C 5 0) → stm (stm M 156 (4 + C 5 0) (C 5 1)) 157 (4 + C 5 0) (C 5 2) c j = M c j := fun c j x y => by rw [stm_ne (by omega), stm_ne (by omega)]
        refine Or.inr ⟨stm (stm C (q + 29) (C 5 0) (C 5 1)) q 11 (mst (C q 11) (C 5 0) (C 5 2)), stm (stm M 156 (4 + C 5 0) (C 5 1)) 157 (4 + C 5 0) (C 5 2), rfl, rfl, fun c j x y => eC c j (by omega) (by omega), fun c j x => eM c j (by unfold Mz at x; omega) (by unfold Mz at x; omega), ⟨h1.c (eC _ _ (by omega) (by omega)) (eM _ _ (by omega) (by omega)), h2.c (eC _ _ (by omega) (by omega)) (eM _ _ (by omega) (by omega)), h3.c b1.2.1 (eC _ _ (by omega) (by omega)) (fun s w _ _ => eC _ _ (by omega) (by omega)) (fun j _ => eM _ _ (by omega) (by omega)), h4.c h2.2.1 (eC _ _ (by omega) (by omega)) (fun a f _ _ => eC _ _ (by omega) (by omega)) (fun a j _ _ _ => eM _ _ (by omega) (by omega)), h5.c (fun f s _ _ => eC _ _ (by omega) (by omega)) (fun j _ => eM _ _ (by omega) (by omega)), h6.c (fun f s _ _ => eC _ _ (by omega) (by omega)) (fun j _ => eM _ _ (by omega) (by omega)), h7.c (fun s => eC _ _ (by omega) (by omega)) (fun j _ => eM _ _ (by omega) (by omega)), ?_, ?_, h10.c (by rw [eC _ _ (by omega) (by omega)]; omega) (by rw [eC _ _ (by omega) (by omega)]; omega) (fun f s _ _ => eC _ _ (by omega) (by omega)) (fun j _ => eM _ _ (by omega) (by omega))⟩, eM _ _ (by omega) (by omega)⟩
        · intro t x1 x2
          rw [stm_ne (show (156 : Int) ≠ 157 ∨ 4 + t ≠ 4 + C 5 0 by omega), stm_ne (show q + 29 ≠ q ∨ t ≠ 11 by omega)]
          by_cases e : t = C 5 0
          · rw [stm_eq (by omega), stm_eq (by omega)]
            exact ⟨rfl, m1.1, c2⟩
          · rw [stm_ne (by omega), stm_ne (by omega)]
            exact h8 t x1 x2
        · refine ⟨by rw [stm_eq ⟨rfl, rfl⟩]; exact mb1, fun t x1 x2 => ?_⟩
          rw [stm_eq (show q = q ∧ (11 : Int) = 11 from ⟨rfl, rfl⟩), mb2 t x1 x2]
          by_cases e : t = C 5 0
          · rw [stm_eq (by omega), if_pos e]
          · rw [stm_ne (by omega), stm_ne (by omega), if_neg e]
            exact h9.2 t x1 x2
      · rw [if_neg (show ¬ (0 ≤ C 5 2 ∧ C 5 2 ≤ 1) by omega), if_neg c3]
        exact Tk.no
    · rw [if_neg (show ¬ (0 ≤ C 5 1 ∧ C 5 1 ≤ 99) by omega), if_pos (show 99 < C 5 1 by omega)]
      exact Tk.no
  · rw [if_neg c1, if_pos (show 3 < C 5 0 by omega)]
    exact Tk.no
def tl_f (k : Int) (D2 : Mm) : Option (Int × Mm) :=
    if zI k = zI 10 then
      some (0, D2)
    else
      if zI 7 < zI (D2 163 0) then
        some (0, D2)
      else
        if zI 3 < zI (D2 163 1) then
          some (0, D2)
        else
          (f_Model_in (wI (D2 163 2)) 1 9 D2).bind fun r3 =>
          if zI r3 = 0 then
            some (0, D2)
          else
            if zI (D2 163 3) ≤ zI 15 then
              if 0 ≤ 10 + k ∧ 10 + k < 20 then (zst D2 149 (10 + k) (D2 163 0) fun D4 =>
              if 0 ≤ 10 + k ∧ 10 + k < 20 then (zst D4 150 (10 + k) (D4 163 1) fun D5 =>
              if 0 ≤ 10 + k ∧ 10 + k < 20 then (zst D5 151 (10 + k) (D5 163 2) fun D6 =>
              if 0 ≤ 10 + k ∧ 10 + k < 20 then (zst D6 152 (10 + k) (D6 163 3) fun D7 =>
              zst D7 148 1 ((D7 148 1) + 1) fun D8 =>
              some (1, D8)) else none) else none) else none) else none
            else
              some (0, D2)
theorem tk_f {q k : Int} {C M : Mm} (hq : q = 32 ∨ q = 69) (h : QB C M q) (hk : k = C q 1) (n : Nq 4 C M) : Tk q (f_Quern_takePatch q 5 C) (tl_f k M) C M := by
  obtain ⟨h1, h2, h3, h4, h5, h6, h7, h8, h9, h10⟩ := h
  obtain ⟨n0, n1⟩ := n 0 (by decide) (by decide)
  obtain ⟨m0, m1⟩ := n 1 (by decide) (by decide)
  obtain ⟨k0, k1⟩ := n 2 (by decide) (by decide)
  obtain ⟨l0, l1⟩ := n 3 (by decide) (by decide)
  have b1 := h1
  have b2 := h2
  unfold B1 at b1
  unfold B2 at b2
  subst hk
  unfold f_Quern_takePatch tl_f
  rw [n0, m0, k0, l0, e_within ⟨by omega, by omega⟩ ⟨by decide, by decide⟩ ⟨by decide, by decide⟩, bnd_if, e_within ⟨by omega, by omega⟩ ⟨by decide, by decide⟩ ⟨by decide, by decide⟩, bnd_if, e_within ⟨by omega, by omega⟩ ⟨by decide, by decide⟩ ⟨by decide, by decide⟩, bnd_if, e_within ⟨by omega, by omega⟩ ⟨by decide, by decide⟩ ⟨by decide, by decide⟩, bnd_if, wI_id (by omega) (by omega), e_in ⟨by omega, by omega⟩ ⟨by decide, by decide⟩ ⟨by decide, by decide⟩, bnd_if, zleI (a := 10) (by omega) (by omega) (by omega) (by omega), zeqI (by omega) (by omega) (by omega) (by omega), zltI (by omega) (by omega) (by omega) (by omega), zltI (by omega) (by omega) (by omega) (by omega), zleI (by omega) (by omega) (by omega) (by omega)]
  by_cases c0 : C q 1 = 10
  · rw [if_pos (show 10 ≤ C q 1 by omega), if_pos c0]
    exact Tk.no
  rw [if_neg (show ¬ 10 ≤ C q 1 by omega), if_neg c0]
  by_cases c1 : C 5 0 ≤ 7
  · rw [if_pos ⟨n1.1, c1⟩, if_neg (show ¬ 7 < C 5 0 by omega)]
    by_cases c2 : C 5 1 ≤ 3
    · rw [if_pos ⟨m1.1, c2⟩, if_neg (show ¬ 3 < C 5 1 by omega)]
      by_cases c3 : 1 ≤ C 5 2 ∧ C 5 2 ≤ 9
      · rw [if_pos c3, if_pos c3]
        by_cases c4 : C 5 3 ≤ 15
        · have gk : 0 ≤ C q 1 ∧ C q 1 < 10 := by omega
          have gm : 0 ≤ 10 + C q 1 ∧ 10 + C q 1 < 20 := by omega
          rw [if_pos ⟨l1.1, c4⟩, if_pos c4, if_pos gk]
          simp only [zst]
          simp only [if_pos gm]
          have u1 : stm C (q + 8) (C q 1) (C 5 0) q 1 = C q 1 := stm_ne (by omega)
          have u2 : stm C (q + 8) (C q 1) (C 5 0) 5 1 = C 5 1 := stm_ne (by omega)
          rw [u1, u2, if_pos gk]
          generalize hA : stm (stm C (q + 8) (C q 1) (C 5 0)) (q + 9) (C q 1) (C 5 1) = A
          have eA : ∀ c j, ¬ (c = q + 8 ∧ j = C q 1) → ¬ (c = q + 9 ∧ j = C q 1) → A c j = C c j := fun c j x y => by rw [← hA, stm_ne (by omega), stm_ne (by omega)]
          have A8 : A (q + 8) (C q 1) = C 5 0 := by rw [← hA, stm_ne (by omega), stm_eq ⟨rfl, rfl⟩]
          have A9 : A (q + 9) (C q 1) = C 5 1 := by rw [← hA, stm_eq ⟨rfl, rfl⟩]
          rw [eA q 1 (by omega) (by omega), eA 5 2 (by omega) (by omega), if_pos gk]
          generalize hB : stm A (q + 10) (C q 1) (C 5 2) = B
          have eB : ∀ c j, ¬ (c = q + 10 ∧ j = C q 1) → B c j = A c j := fun c j x => by rw [← hB, stm_ne (by omega)]
          have B10 : B (q + 10) (C q 1) = C 5 2 := by rw [← hB, stm_eq ⟨rfl, rfl⟩]
          rw [eB q 1 (by omega), eB 5 3 (by omega), eA q 1 (by omega) (by omega), eA 5 3 (by omega) (by omega), if_pos gk]
          have u3 : stm B (q + 11) (C q 1) (C 5 3) q 1 = C q 1 := by rw [stm_ne (by omega), eB _ _ (by omega), eA _ _ (by omega) (by omega)]
          rw [u3]
          generalize hG : stm (stm B (q + 11) (C q 1) (C 5 3)) q 1 (C q 1 + 1) = G
          have G1 : G q 1 = C q 1 + 1 := by rw [← hG, stm_eq ⟨rfl, rfl⟩]
          have eG : ∀ c j, ¬ (q + 8 ≤ c ∧ c ≤ q + 11 ∧ j = C q 1) → ¬ (c = q ∧ j = 1) → G c j = C c j := fun c j x y => by rw [← hG, stm_ne (by omega), stm_ne (by omega), eB _ _ (by omega), eA _ _ (by omega) (by omega)]
          have G8 : G (q + 8) (C q 1) = C 5 0 := by rw [← hG, stm_ne (by omega), stm_ne (by omega), eB _ _ (by omega), A8]
          have G9 : G (q + 9) (C q 1) = C 5 1 := by rw [← hG, stm_ne (by omega), stm_ne (by omega), eB _ _ (by omega), A9]
          have G10 : G (q + 10) (C q 1) = C 5 2 := by rw [← hG, stm_ne (by omega), stm_ne (by omega), B10]
          have G11 : G (q + 11) (C q 1) = C 5 3 := by rw [← hG, stm_ne (by omega), stm_eq ⟨rfl, rfl⟩]
          clear hA hB hG u1 u2 u3 eA A8 A9 eB B10
          have v1 : stm M 149 (10 + C q 1) (C 5 0) 163 1 = C 5 1 := by rw [stm_ne (by omega), m0]
          rw [v1]
          have v2 : stm (stm M 149 (10 + C q 1) (C 5 0)) 150 (10 + C q 1) (C 5 1) 163 2 = C 5 2 := by rw [stm_ne (by omega), stm_ne (by omega), k0]
          rw [v2]
          have v3 : stm (stm (stm M 149 (10 + C q 1) (C 5 0)) 150 (10 + C q 1) (C 5 1)) 151 (10 + C q 1) (C 5 2) 163 3 = C 5 3 := by rw [stm_ne (by omega), stm_ne (by omega), stm_ne (by omega), l0]
          rw [v3]
          have v4 : stm (stm (stm (stm M 149 (10 + C q 1) (C 5 0)) 150 (10 + C q 1) (C 5 1)) 151 (10 + C q 1) (C 5 2)) 152 (10 + C q 1) (C 5 3) 148 1 = C q 1 := by rw [stm_ne (by omega), stm_ne (by omega), stm_ne (by omega), stm_ne (by omega), b2.2.2]
          rw [v4]
          generalize hN : stm (stm (stm (stm (stm M 149 (10 + C q 1) (C 5 0)) 150 (10 + C q 1) (C 5 1)) 151 (10 + C q 1) (C 5 2)) 152 (10 + C q 1) (C 5 3)) 148 1 (C q 1 + 1) = N
          have N1 : N 148 1 = C q 1 + 1 := by rw [← hN, stm_eq ⟨rfl, rfl⟩]
          have N9 : N 149 (10 + C q 1) = C 5 0 := by rw [← hN, stm_ne (by omega), stm_ne (by omega), stm_ne (by omega), stm_ne (by omega), stm_eq ⟨rfl, rfl⟩]
          have N0 : N 150 (10 + C q 1) = C 5 1 := by rw [← hN, stm_ne (by omega), stm_ne (by omega), stm_ne (by omega), stm_eq ⟨rfl, rfl⟩]
          have N2 : N 151 (10 + C q 1) = C 5 2 := by rw [← hN, stm_ne (by omega), stm_ne (by omega), stm_eq ⟨rfl, rfl⟩]
          have N3 : N 152 (10 + C q 1) = C 5 3 := by rw [← hN, stm_ne (by omega), stm_eq ⟨rfl, rfl⟩]
          have eN : ∀ c j, ¬ (149 ≤ c ∧ c ≤ 152 ∧ j = 10 + C q 1) → ¬ (c = 148 ∧ j = 1) → N c j = M c j := fun c j x y => by rw [← hN, stm_ne (by omega), stm_ne (by omega), stm_ne (by omega), stm_ne (by omega), stm_ne (by omega)]
          clear hN v1 v2 v3 v4
          refine Or.inr ⟨G, N, rfl, rfl, fun c j x y => eG c j (by omega) (by omega), fun c j x => eN c j (by unfold Mz at x; omega) (by unfold Mz at x; omega), ⟨h1.c (eG _ _ (by omega) (by omega)) (eN _ _ (by omega) (by omega)), ⟨by omega, by omega, by omega⟩, h3.c b1.2.1 (eG _ _ (by omega) (by omega)) (fun s w _ _ => eG _ _ (by omega) (by omega)) (fun j _ => eN _ _ (by omega) (by omega)), ?_, h5.c (fun f s _ _ => eG _ _ (by omega) (by omega)) (fun j _ => eN _ _ (by omega) (by omega)), h6.c (fun f s _ _ => eG _ _ (by omega) (by omega)) (fun j _ => eN _ _ (by omega) (by omega)), h7.c (fun s => eG _ _ (by omega) (by omega)) (fun j _ => eN _ _ (by omega) (by omega)), h8.c (fun s => eG _ _ (by omega) (by omega)) (fun j _ => eN _ _ (by omega) (by omega)), h9.c (eG _ _ (by omega) (by omega)) (fun j _ => eN _ _ (by omega) (by omega)), h10.c (by rw [eG _ _ (by omega) (by omega)]; omega) (by rw [eG _ _ (by omega) (by omega)]; omega) (fun f s _ _ => eG _ _ (by omega) (by omega)) (fun j _ => eN _ _ (by omega) (by omega))⟩, eN _ _ (by omega) (by omega)⟩
          intro f x1 x2
          rw [G1] at x2
          by_cases e : f = C q 1
          · rw [e, G8, G9, G10, G11, N9, N0, N2, N3]
            exact ⟨⟨rfl, n1.1, c1⟩, ⟨rfl, m1.1, c2⟩, ⟨rfl, c3⟩, rfl, l1.1, c4⟩
          · rw [eG _ _ (by omega) (by omega), eG _ _ (by omega) (by omega), eG _ _ (by omega) (by omega), eG _ _ (by omega) (by omega), eN _ _ (by omega) (by omega), eN _ _ (by omega) (by omega), eN _ _ (by omega) (by omega), eN _ _ (by omega) (by omega)]
            exact h4 f x1 (by omega)
        · rw [if_neg (show ¬ (0 ≤ C 5 3 ∧ C 5 3 ≤ 15) by omega), if_neg c4]
          exact Tk.no
      · rw [if_neg c3, if_neg c3]
        exact Tk.no
    · rw [if_neg (show ¬ (0 ≤ C 5 1 ∧ C 5 1 ≤ 3) by omega), if_pos (show 3 < C 5 1 by omega)]
      exact Tk.no
  · rw [if_neg (show ¬ (0 ≤ C 5 0 ∧ C 5 0 ≤ 7) by omega), if_pos (show 7 < C 5 0 by omega)]
    exact Tk.no

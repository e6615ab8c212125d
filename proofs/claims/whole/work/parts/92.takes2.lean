def tl_g (k : Int) (D2 : Mm) : Option (Int × Mm) :=
    if zI k = zI 6 then
      some (0, D2)
    else
      if zI ((((D2 163 0) + (D2 163 1)) + (D2 163 2)) + (D2 163 3)) = zI 100 then
        f_Model_sortItem_57 k zF 0 D2
      else
        some (0, D2)
theorem e_s57 {k : Int} (k0 : 0 ≤ k) (k1 : k < 6) (M : Mm) : ∃ N, f_Model_sortItem_57 k zF 0 M = some (1, N) ∧ (∀ w, 0 ≤ w → w < 4 → N 147 (24 + (4 * k + w)) = M 163 w) ∧ N 146 1 = M 146 1 + 1 ∧ ∀ c j, ¬ (c = 146 ∧ j = 1) → ¬ (c = 147 ∧ 24 + 4 * k ≤ j ∧ j < 28 + 4 * k) → N c j = M c j := by
  refine zup (fun n i E => f_Model_sortItem_57 k n i E) 4 (fun i E => 0 ≤ i ∧ (∀ w, 0 ≤ w → w < i → E 147 (24 + (4 * k + w)) = M 163 w) ∧ ∀ c j, ¬ (c = 147 ∧ 24 + 4 * k ≤ j ∧ j < 24 + 4 * k + i) → E c j = M c j) (fun o => ∃ N, o = some (1, N) ∧ (∀ w, 0 ≤ w → w < 4 → N 147 (24 + (4 * k + w)) = M 163 w) ∧ N 146 1 = M 146 1 + 1 ∧ ∀ c j, ¬ (c = 146 ∧ j = 1) → ¬ (c = 147 ∧ 24 + 4 * k ≤ j ∧ j < 28 + 4 * k) → N c j = M c j) ?_ ?_ 4 zF 0 M rfl (by decide) (zF_pos (by decide)) ⟨by decide, fun w h0 h1 => by omega, fun c j _ => rfl⟩
  · intro n E ⟨_, h1, h2⟩
    refine ⟨stm E 146 1 (E 146 1 + 1), ?_, fun w w0 w1 => ?_, ?_, fun c j x y => ?_⟩
    · show f_Model_sortItem_57 k (n + 1) 4 E = _
      rw [f_Model_sortItem_57, if_pos (by decide +kernel)]
      rfl
    · rw [stm_ne (by omega)]; exact h1 w w0 w1
    · rw [stm_eq ⟨rfl, rfl⟩, h2 _ _ (by omega)]
    · rw [stm_ne (by omega)]; exact h2 c j (by omega)
  · intro n i E hi ⟨h0, h1, h2⟩
    refine ⟨stm E 147 (24 + 4 * k + i) (E 163 i), ⟨by omega, fun w w0 w1 => ?_, fun c j x => ?_⟩, ?_⟩
    · by_cases hk : w = i
      · subst hk
        rw [stm_eq ⟨rfl, by omega⟩, h2 _ _ (by omega)]
      · rw [stm_ne (by omega)]; exact h1 w w0 (by omega)
    · rw [stm_ne (by omega)]; exact h2 c j (by omega)
    · show f_Model_sortItem_57 k (n + 1) i E = _
      rw [f_Model_sortItem_57, if_neg (fun q => by have := (zI_le (by omega) (by omega) (by omega) (by omega)).mp q; omega), if_pos (by omega), if_pos (by omega)]
      rfl
theorem tk_g {q k : Int} {C M : Mm} (hq : q = 32 ∨ q = 69) (h : QB C M q) (hk : k = C q 0) (n : Nq 4 C M) : Tk q (f_Quern_takeSort q 5 C) (tl_g k M) C M := by
  obtain ⟨h1, h2, h3, h4, h5, h6, h7, h8, h9, h10⟩ := h
  obtain ⟨n0, n1⟩ := n 0 (by decide) (by decide)
  obtain ⟨m0, m1⟩ := n 1 (by decide) (by decide)
  obtain ⟨k0, k1⟩ := n 2 (by decide) (by decide)
  obtain ⟨l0, l1⟩ := n 3 (by decide) (by decide)
  have b1 := h1
  unfold B1 at b1
  subst hk
  unfold f_Quern_takeSort tl_g
  rw [n0, m0, k0, l0, zleI (by omega) (by omega) (by omega) (by omega), zeqI (a := C q 0) (by omega) (by omega) (by omega) (by omega)]
  by_cases c0 : C q 0 = 6
  · rw [if_pos (show 6 ≤ C q 0 by omega), if_pos c0]
    exact Tk.no
  rw [if_neg (show ¬ 6 ≤ C q 0 by omega), if_neg c0]
  by_cases c1 : C 5 0 + C 5 1 + C 5 2 + C 5 3 = 100
  · have c1' : zI (C 5 0 + C 5 1 + C 5 2 + C 5 3) = zI 100 := by rw [c1]
    rw [if_pos c1', if_pos c1', if_pos (show 0 ≤ C q 0 ∧ C q 0 < 6 by omega)]
    obtain ⟨N, N1, N2, N3, N4⟩ := e_s57 b1.1 (show C q 0 < 6 by omega) M
    rw [N1]
    simp only [zcp, zst]
    rw [cpm_ne (show ¬ (q = q + 2 + C q 0 ∧ (0 : Int) ≤ 0 ∧ (0 : Int) < 0 + 4) by omega)]
    generalize hG : stm (cpm C 5 0 (q + 2 + C q 0) 0 4) q 0 (C q 0 + 1) = G
    have G0 : G q 0 = C q 0 + 1 := by rw [← hG, stm_eq ⟨rfl, rfl⟩]
    have eG : ∀ c j, ¬ (c = q + 2 + C q 0) → ¬ (c = q ∧ j = 0) → G c j = C c j := fun c j x y => by rw [← hG, stm_ne (by omega), cpm_ne (by omega)]
    have Gw : ∀ w, 0 ≤ w → w < 4 → G (q + 2 + C q 0) w = C 5 w := fun w w0 w1 => by
      rw [← hG, stm_ne (by omega), cpm_eq ⟨rfl, by omega, by omega⟩]
      congr 1
      omega
    refine Or.inr ⟨G, N, rfl, rfl, fun c j x y => eG c j (by omega) (by omega), fun c j x => N4 c j (by unfold Mz at x; omega) (by unfold Mz at x; omega), ⟨⟨by omega, by omega, by omega⟩, h2.c (eG _ _ (by omega) (by omega)) (N4 _ _ (by omega) (by omega)), ?_, h4.c h2.2.1 (eG _ _ (by omega) (by omega)) (fun a f _ _ => eG _ _ (by omega) (by omega)) (fun a j _ _ _ => N4 _ _ (by omega) (by omega)), h5.c (fun f s _ _ => eG _ _ (by omega) (by omega)) (fun j _ => N4 _ _ (by omega) (by omega)), h6.c (fun f s _ _ => eG _ _ (by omega) (by omega)) (fun j _ => N4 _ _ (by omega) (by omega)), h7.c (fun s => eG _ _ (by omega) (by omega)) (fun j _ => N4 _ _ (by omega) (by omega)), h8.c (fun s => eG _ _ (by omega) (by omega)) (fun j _ => N4 _ _ (by omega) (by omega)), h9.c (eG _ _ (by omega) (by omega)) (fun j _ => N4 _ _ (by omega) (by omega)), h10.c (by omega) (by omega) (fun f s _ _ => eG _ _ (by omega) (by omega)) (fun j _ => N4 _ _ (by omega) (by omega))⟩, N4 _ _ (by omega) (by omega)⟩
    intro s w x1 x2 x3 x4
    rw [G0] at x2
    by_cases e : s = C q 0
    · subst e
      rw [Gw w x3 x4, N2 w x3 x4]
      have nn := n w x3 x4
      refine ⟨nn.1, nn.2.1, ?_⟩
      rcases (show w = 0 ∨ w = 1 ∨ w = 2 ∨ w = 3 by omega) with e | e | e | e <;> subst e <;> omega
    · rw [eG _ _ (by omega) (by omega), N4 _ _ (by omega) (by omega)]
      exact h3 s w x1 (by omega) x3 x4
  · rw [if_neg (fun y => c1 ((zI_eq (by omega) (by omega) (by omega) (by omega)).mp y)), if_neg (fun y => c1 ((zI_eq (by omega) (by omega) (by omega) (by omega)).mp y))]
    exact Tk.no
def tl_x (D2 : Mm) : Option (Int × Mm) :=
    if zI (D2 146 1) ≤ zI (D2 163 0) then
      some (0, D2)
    else
      if zI (D2 146 1) ≤ zI (D2 163 1) then
        some (0, D2)
      else
        if zI (D2 163 0) = zI (D2 163 1) then
          some (0, D2)
        else
          if zI (D2 163 2) ≤ zI 99 then
            if 0 ≤ (36 + (6 * (D2 163 0))) + (D2 163 1) ∧ (36 + (6 * (D2 163 0))) + (D2 163 1) < 72 then (zst D2 158 ((36 + (6 * (D2 163 0))) + (D2 163 1)) (D2 163 2) fun D3 =>
            f_Model_callItem_100 D3 zF 0 0) else none
          else
            some (0, D2)
theorem e_c100 {D : Mm} {s : Int} (hs : D 163 0 = s) (s0 : 0 ≤ s) (s1 : s < 6) (hb : ∀ o, 0 ≤ o → o < 6 → 0 ≤ D 158 (36 + (6 * s + o)) ∧ D 158 (36 + (6 * s + o)) ≤ 99) : f_Model_callItem_100 D zF 0 0 = if zsum (fun o => D 158 (36 + (6 * s + o))) 6 ≤ 100 then some (1, D) else some (0, D) := by
  have bb := zsum_b (f := fun o => D 158 (36 + (6 * s + o))) (M := 99) (by decide) 6 (fun k k0 k1 => hb k k0 (by omega))
  refine zup (fun n i b => f_Model_callItem_100 D n b i) 6 (fun i b => 0 ≤ i ∧ b = zsum (fun o => D 158 (36 + (6 * s + o))) i.toNat) (fun x => x = if zsum (fun o => D 158 (36 + (6 * s + o))) 6 ≤ 100 then some (1, D) else some (0, D)) ?_ ?_ 6 zF 0 0 rfl (by decide) (zF_pos (by decide)) ⟨by decide, rfl⟩
  · intro n b ⟨_, hb⟩
    show f_Model_callItem_100 D (n + 1) b 6 = _
    have hb : b = zsum (fun o => D 158 (36 + (6 * s + o))) 6 := hb
    rw [f_Model_callItem_100, if_pos (Int32.le_refl _), hb, zltI (by omega) (by omega) (by omega) (by omega)]
    by_cases c : zsum (fun o => D 158 (36 + (6 * s + o))) 6 ≤ 100
    · rw [if_pos c, if_neg (by omega)]
    · rw [if_neg c, if_pos (by omega)]
  · intro n i b hi ⟨h0, hb⟩
    refine ⟨b + D 158 (36 + (6 * s + i)), ⟨by omega, by rw [hb, zsum_s _ h0]⟩, ?_⟩
    show f_Model_callItem_100 D (n + 1) b i = _
    rw [f_Model_callItem_100, zleN (by omega) (by omega) (by omega) (by omega) (by omega), hs, if_pos (by omega), show 36 + 6 * s + i = 36 + (6 * s + i) by omega]
theorem e_ts48 {q s t v a : Int} {C : Mm} (s0 : 0 ≤ s) (s1 : s < 6) (t0 : 0 ≤ t) (t1 : t < 6) (a0 : -99 ≤ a) (a1 : a ≤ 99) (k0 : 0 ≤ C q 0) (k1 : C q 0 ≤ 6) (hb : ∀ o, 0 ≤ o → o < 6 → 0 ≤ C (q + 31 + s) o ∧ C (q + 31 + s) o ≤ 99) : f_Quern_takeSlip_48 q s t v C zF a 0 = if a + zsum (fun o => C (q + 31 + s) o) (C q 0).toNat ≤ 100 then some (1, stm C (q + 31 + s) t v) else some (0, C) := by
  have bb := zsum_b (f := fun o => C (q + 31 + s) o) (M := 99) (by decide) (C q 0).toNat (fun k k0 k1 => hb k k0 (by omega))
  refine zup (fun n i b => f_Quern_takeSlip_48 q s t v C n b i) (C q 0) (fun i b => 0 ≤ i ∧ b = a + zsum (fun o => C (q + 31 + s) o) i.toNat) (fun x => x = if a + zsum (fun o => C (q + 31 + s) o) (C q 0).toNat ≤ 100 then some (1, stm C (q + 31 + s) t v) else some (0, C)) ?_ ?_ (C q 0 - 0).toNat zF 0 a rfl k0 (zF_pos (by omega)) ⟨by decide, (Int.add_zero a).symm⟩
  · intro n b ⟨_, hb⟩
    show f_Quern_takeSlip_48 q s t v C (n + 1) b (C q 0) = _
    rw [f_Quern_takeSlip_48, if_pos (Int32.le_refl _), hb, zleI (by omega) (by omega) (by omega) (by omega), if_pos (show 0 ≤ s ∧ s < 6 from ⟨s0, s1⟩), if_pos (show 0 ≤ t ∧ t < 6 from ⟨t0, t1⟩)]
    simp only [zst]
  · intro n i b hi ⟨h0, hb⟩
    refine ⟨b + C (q + 31 + s) i, ⟨by omega, by rw [hb, zsum_s _ h0]; omega⟩, ?_⟩
    show f_Quern_takeSlip_48 q s t v C (n + 1) b i = _
    rw [f_Quern_takeSlip_48, zleN (by omega) (by omega) (by omega) (by omega) (by omega), if_pos ⟨s0, s1⟩, if_pos (by omega)]
theorem tk_x {q : Int} {C M : Mm} (hq : q = 32 ∨ q = 69) (h : QB C M q) (n : Nq 3 C M) : Tk q (f_Quern_takeSlip q (C 5 0) (C 5 1) (C 5 2) C) (tl_x M) C M := by
  obtain ⟨h1, h2, h3, h4, h5, h6, h7, h8, h9, h10⟩ := h
  obtain ⟨n0, n1⟩ := n 0 (by decide) (by decide)
  obtain ⟨m0, m1⟩ := n 1 (by decide) (by decide)
  obtain ⟨k0, k1⟩ := n 2 (by decide) (by decide)
  have b1 := h1
  unfold B1 at b1
  unfold f_Quern_takeSlip tl_x
  rw [n0, m0, k0, b1.2.2, e_hasSort ⟨by omega, by omega⟩ ⟨b1.1, b1.2.1⟩, bnd_if, e_hasSort ⟨by omega, by omega⟩ ⟨b1.1, b1.2.1⟩, bnd_if, e_within ⟨by omega, by omega⟩ ⟨by decide, by decide⟩ ⟨by decide, by decide⟩, bnd_if, zleI (by omega) (by omega) (by omega) (by omega), zleI (by omega) (by omega) (by omega) (by omega), zeqI (by omega) (by omega) (by omega) (by omega), zeqI (by omega) (by omega) (by omega) (by omega), zleI (by omega) (by omega) (by omega) (by omega)]
  by_cases c1 : C 5 0 < C q 0
  · rw [if_pos ⟨n1.1, c1⟩, if_neg (show ¬ C q 0 ≤ C 5 0 by omega)]
    by_cases c2 : C 5 1 < C q 0
    · rw [if_pos ⟨m1.1, c2⟩, if_neg (show ¬ C q 0 ≤ C 5 1 by omega)]
      by_cases c4 : C 5 0 = C 5 1
      · rw [if_pos c4, if_pos c4]
        exact Tk.no
      rw [if_neg c4, if_neg c4]
      by_cases c3 : C 5 2 ≤ 99
      · have old := h10.1 (C 5 0) (C 5 1) n1.1 (by omega) m1.1 (by omega)
        have hbC : ∀ o, 0 ≤ o → o < 6 → 0 ≤ C (q + 31 + C 5 0) o ∧ C (q + 31 + C 5 0) o ≤ 99 := fun o o0 o1 => (h10.1 (C 5 0) o n1.1 (by omega) o0 o1).2
        rw [if_pos ⟨k1.1, c3⟩, if_pos c3, if_pos (show 0 ≤ C 5 0 ∧ C 5 0 < 6 by omega), if_pos (show 0 ≤ C 5 1 ∧ C 5 1 < 6 by omega), if_pos (show 0 ≤ 36 + 6 * C 5 0 + C 5 1 ∧ 36 + 6 * C 5 0 + C 5 1 < 72 by omega), e_ts48 n1.1 (by omega) m1.1 (by omega) (by omega) (by omega) b1.1 b1.2.1 hbC]
        simp only [zst]
        generalize hN : stm M 158 (36 + 6 * C 5 0 + C 5 1) (C 5 2) = N
        have eN : ∀ c j, ¬ (c = 158 ∧ j = 36 + 6 * C 5 0 + C 5 1) → N c j = M c j := fun c j x => by rw [← hN, stm_ne (by omega)]
        have Nt : N 158 (36 + (6 * C 5 0 + C 5 1)) = C 5 2 := by rw [← hN, stm_eq (by omega)]
        have No : ∀ o, 0 ≤ o → o < 6 → o ≠ C 5 1 → N 158 (36 + (6 * C 5 0 + o)) = C (q + 31 + C 5 0) o := fun o o0 o1 o2 => by
          rw [eN _ _ (by omega)]
          exact (h10.1 (C 5 0) o n1.1 (by omega) o0 o1).1
        have s1 : zsum (fun o => C (q + 31 + C 5 0) o) 6 = zsum (fun o => C (q + 31 + C 5 0) o) (C q 0).toNat := by
          have e2 : (6 : Nat) = (C q 0).toNat + (6 - (C q 0).toNat) := by omega
          have e3 := zsum_tail (f := fun o => C (q + 31 + C 5 0) o) (C q 0).toNat (6 - (C q 0).toNat) (fun k k0 k1 => h10.2.2 (C 5 0) k n1.1 (by omega) (by omega) (by omega))
          rw [← e2] at e3
          exact e3
        have s2 : zsum (fun o => if o = C 5 1 then C 5 2 else C (q + 31 + C 5 0) o) 6 = zsum (fun o => C (q + 31 + C 5 0) o) 6 + (C 5 2 - C (q + 31 + C 5 0) (C 5 1)) := zsum_upd (k := C 5 1) 6 m1.1 (by omega) (fun j hj => if_neg hj) (by show (if C 5 1 = C 5 1 then _ else _) = _; rw [if_pos rfl]; omega)
        have s3 : zsum (fun o => N 158 (36 + (6 * C 5 0 + o))) 6 = zsum (fun o => if o = C 5 1 then C 5 2 else C (q + 31 + C 5 0) o) 6 := zsum_cong 6 (fun k k0 k1 => by
          by_cases e : k = C 5 1
          · rw [if_pos e, e, Nt]
          · rw [if_neg e]
            exact No k k0 (by omega) e)
        have hbN : ∀ o, 0 ≤ o → o < 6 → 0 ≤ N 158 (36 + (6 * C 5 0 + o)) ∧ N 158 (36 + (6 * C 5 0 + o)) ≤ 99 := fun o o0 o1 => by
          by_cases e : o = C 5 1
          · rw [e, Nt]; exact ⟨k1.1, c3⟩
          · rw [No o o0 o1 e]; exact hbC o o0 o1
        rw [e_c100 (s := C 5 0) (by rw [eN _ _ (by omega), n0]) n1.1 (by omega) hbN, s3, s2, s1]
        have mf : MF N M := fun c j x => eN c j (by unfold Mz at x; omega)
        by_cases c5 : C 5 2 - C (q + 31 + C 5 0) (C 5 1) + zsum (fun o => C (q + 31 + C 5 0) o) (C q 0).toNat ≤ 100
        · rw [if_pos c5, if_pos (by omega)]
          generalize hG : stm C (q + 31 + C 5 0) (C 5 1) (C 5 2) = G
          have eG : ∀ c j, ¬ (c = q + 31 + C 5 0 ∧ j = C 5 1) → G c j = C c j := fun c j x => by rw [← hG, stm_ne (by omega)]
          have Gt : G (q + 31 + C 5 0) (C 5 1) = C 5 2 := by rw [← hG, stm_eq ⟨rfl, rfl⟩]
          refine Or.inr ⟨G, N, rfl, rfl, fun c j x y => eG c j (by omega), mf, ⟨h1.c (eG _ _ (by omega)) (eN _ _ (by omega)), h2.c (eG _ _ (by omega)) (eN _ _ (by omega)), h3.c b1.2.1 (eG _ _ (by omega)) (fun s w _ _ => eG _ _ (by omega)) (fun j _ => eN _ _ (by omega)), h4.c h2.2.1 (eG _ _ (by omega)) (fun a f _ _ => eG _ _ (by omega)) (fun a j _ _ _ => eN _ _ (by omega)), h5.c (fun f s _ _ => eG _ _ (by omega)) (fun j _ => eN _ _ (by omega)), h6.c (fun f s _ _ => eG _ _ (by omega)) (fun j _ => eN _ _ (by omega)), h7.c (fun s => eG _ _ (by omega)) (fun j _ => eN _ _ (by omega)), h8.c (fun s => eG _ _ (by omega)) (fun j _ => eN _ _ (by omega)), h9.c (eG _ _ (by omega)) (fun j _ => eN _ _ (by omega)), ?_, ?_, ?_⟩, eN _ _ (by omega)⟩
          · intro s t x1 x2 x3 x4
            by_cases e : s = C 5 0 ∧ t = C 5 1
            · obtain ⟨e1, e2⟩ := e
              rw [e1, e2, Gt, Nt]
              exact ⟨rfl, k1.1, c3⟩
            · rw [eG _ _ (by omega), eN _ _ (by omega)]
              exact h10.1 s t x1 x2 x3 x4
          · intro s x1 x2
            rw [eG _ _ (by omega)]
            exact h10.2.1 s x1 x2
          · intro s t x1 x2 x3 x4
            rw [eG q 0 (by omega)] at x3
            rw [eG _ _ (by omega)]
            exact h10.2.2 s t x1 x2 x3 x4
        · rw [if_neg c5, if_neg (by omega)]
          exact Or.inl ⟨C, N, rfl, rfl, fun _ _ _ _ => rfl, mf⟩
      · rw [if_neg (show ¬ (0 ≤ C 5 2 ∧ C 5 2 ≤ 99) by omega), if_neg c3]
        exact Tk.no
    · rw [if_neg (show ¬ (0 ≤ C 5 1 ∧ C 5 1 < C q 0) by omega), if_pos (show C q 0 ≤ C 5 1 by omega)]
      exact Tk.no
  · rw [if_neg (show ¬ (0 ≤ C 5 0 ∧ C 5 0 < C q 0) by omega), if_pos (show C q 0 ≤ C 5 0 by omega)]
    exact Tk.no

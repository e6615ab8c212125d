def mx (D : Mm) (q s t i a b c d : Int) : Int := prd (fun w => i * D (q + 2 + s) w + (10 - i) * D (q + 2 + t) w) (fun w => p4 D 11 a b c d 11 w) 4
theorem mx_r {x y i : Int} (x0 : 0 ≤ x) (x1 : x ≤ 100) (y0 : 0 ≤ y) (y1 : y ≤ 100) (i0 : 0 ≤ i) (i1 : i ≤ 10) : Rg (i * x + (10 - i) * y) := by
  unfold Rg
  rcases (show i = 0 ∨ i = 1 ∨ i = 2 ∨ i = 3 ∨ i = 4 ∨ i = 5 ∨ i = 6 ∨ i = 7 ∨ i = 8 ∨ i = 9 ∨ i = 10 by omega) with h | h | h | h | h | h | h | h | h | h | h <;> subst h <;> omega
theorem q_shares {D : Mm} (h : Iv D) {s t a b c d : Int} (hs0 : Rg s) (ht0 : Rg t) (ha : Rg a) (hb : Rg b) (hc : Rg c) (hd : Rg d) : EqMM (f_Main_shares s t a b c d D) (f_Model_shares s t a b c d) := by
  have hh := h
  have hq := h.q
  obtain ⟨-, -, hql, -⟩ := h
  have hs := hql.1
  unfold f_Main_shares
  rw [if_pos hq, e_hasSort hs0 ⟨by omega, by omega⟩, bnd_if]
  by_cases c1 : 0 ≤ s ∧ s < D (D 1 7) 0
  · rw [if_pos c1, if_pos hq, e_hasSort ht0 ⟨by omega, by omega⟩, bnd_if]
    by_cases c2 : 0 ≤ t ∧ t < D (D 1 7) 0
    · rw [if_pos c2]
      by_cases c0 : zI s = zI t
      · rw [if_pos c0]
        refine ⟨-1, D, D, rfl, ?_, hh⟩
        unfold f_Model_shares
        rw [e_isSort hs0 hs.2.2 ⟨by omega, by omega⟩, bnd_if, if_pos c1, e_isSort ht0 hs.2.2 ⟨by omega, by omega⟩, bnd_if, if_pos c2, if_pos c0]
      · rw [if_neg c0]
        by_cases c3 : hok a b c d 6
        · rw [(e_pile ha hb hc hd (by decide) (by decide)).1 c3, zb_some, if_neg n10]
          generalize hE : p4 D 11 a b c d = E
          generalize hG : p4 E 164 a b c d = G
          have oE : ∀ x i, x ≠ 11 → E x i = D x i := fun x i hx => by rw [← hE]; exact p4_ne hx
          have oG : ∀ x i, x ≠ 164 → x ≠ 11 → G x i = D x i := fun x i h1 h2 => by rw [← hG, p4_ne h1, oE x i h2]
          have G2 : ∀ w, 0 ≤ w → w < 4 → G 164 w = p4 D 11 a b c d 11 w := fun w w0 w1 => by rw [← hG]; exact p4_two w0 w1
          have IG : Iv G := by rw [← hG, ← hE]; exact (hh.p11 a b c d).p164 a b c d
          have e17 : E 1 7 = D 1 7 := oE _ _ (by decide)
          have wv : ∀ j w, 0 ≤ j → j < D (D 1 7) 0 → 0 ≤ w → w < 4 → 0 ≤ D (D 1 7 + 2 + j) w ∧ D (D 1 7 + 2 + j) w ≤ 100 := fun j w j0 j1 w0 w1 => (hql.2.2.1 j w j0 j1 w0 w1).2
          have gs : 0 ≤ s ∧ s < 6 := by omega
          have gt : 0 ≤ t ∧ t < 6 := by omega
          have prodC : ∀ i, 0 ≤ i → i ≤ 10 → f_Heap_productOfMix i (D 1 7 + 2 + s) (10 - i) (D 1 7 + 2 + t) E = some (mx D (D 1 7) s t i a b c d) := by
            intro i i0 i1
            have es : ∀ w, E (D 1 7 + 2 + s) w = D (D 1 7 + 2 + s) w := fun w => oE _ _ (by omega)
            have et : ∀ w, E (D 1 7 + 2 + t) w = D (D 1 7 + 2 + t) w := fun w => oE _ _ (by omega)
            rw [e_mix (fun w w0 w1 => by rw [← hE]; have := p4_at (D := D) (x := 11) c3 w0 w1; exact ⟨this.1, by omega⟩) (fun w w0 w1 => by rw [es, et]; have x1 := wv s w c1.1 c1.2 w0 w1; have x2 := wv t w c2.1 c2.2 w0 w1; exact mx_r x1.1 x1.2 x2.1 x2.2 i0 i1)]
            congr 1
            exact prd_cong 4 (fun k k0 k1 => ⟨by rw [es, et], by rw [← hE]⟩)
          have prodM : ∀ (K : Int → Int → Int → Option (Int × Mm)) (u v i : Int), 0 ≤ i → i ≤ 10 → f_Model_shares_63 s t u v i K G zF 1 0 = if zL (mx D (D 1 7) s t i a b c d) ≤ zL v then K u v (i + 1) else K i (mx D (D 1 7) s t i a b c d) (i + 1) := by
            intro K u v i i0 i1
            refine zup (fun n j x => f_Model_shares_63 s t u v i K G n x j) 4 (fun j x => 0 ≤ j ∧ x = prd (fun w => i * D (D 1 7 + 2 + s) w + (10 - i) * D (D 1 7 + 2 + t) w) (fun w => p4 D 11 a b c d 11 w) j.toNat) (fun o => o = if zL (mx D (D 1 7) s t i a b c d) ≤ zL v then K u v (i + 1) else K i (mx D (D 1 7) s t i a b c d) (i + 1)) ?_ ?_ 4 zF 0 1 rfl (by decide) (zF_pos (by decide)) ⟨by decide, rfl⟩
            · intro n x ⟨_, hx⟩
              have hx2 : x = mx D (D 1 7) s t i a b c d := hx
              show f_Model_shares_63 s t u v i K G (n + 1) x 4 = _
              rw [f_Model_shares_63, if_pos (by decide +kernel), hx2]
              unfold f_Model_shares_138 f_Model_shares_155
              by_cases z : zL (mx D (D 1 7) s t i a b c d) ≤ zL v
              · rw [if_pos z, if_pos z, if_pos z]
              · rw [if_neg z, if_neg z, if_neg z]
            · intro n j x hj ⟨j0, hx⟩
              have gj : 0 ≤ j ∧ j < 4 := ⟨j0, hj⟩
              have g1 : 0 ≤ 4 * s + j ∧ 4 * s + j < 48 := by omega
              have g2 : 0 ≤ 4 * t + j ∧ 4 * t + j < 48 := by omega
              have w1 : G 147 (4 * s + j) = D (D 1 7 + 2 + s) j := by rw [oG _ _ (by decide) (by decide)]; exact (hql.2.2.1 s j c1.1 c1.2 j0 hj).1
              have w2 : G 147 (4 * t + j) = D (D 1 7 + 2 + t) j := by rw [oG _ _ (by decide) (by decide)]; exact (hql.2.2.1 t j c2.1 c2.2 j0 hj).1
              have x1 := wv s j c1.1 c1.2 j0 hj
              have x2 := wv t j c2.1 c2.2 j0 hj
              have r := mx_r x1.1 x1.2 x2.1 x2.2 i0 i1
              have y := p4_at (D := D) (x := 11) c3 j0 hj
              refine ⟨x * (i * D (D 1 7 + 2 + s) j + (10 - i) * D (D 1 7 + 2 + t) j) ^ (p4 D 11 a b c d 11 j).toNat, ⟨by omega, by rw [hx, prd_s j0]⟩, ?_⟩
              show f_Model_shares_63 s t u v i K G (n + 1) x j = _
              rw [f_Model_shares_63, if_neg (fun q => by have := (zI_le (by omega) (by omega) (by omega) (by omega)).mp q; omega), if_pos g1, if_pos g2, if_pos gj, w1, w2, G2 j j0 hj, wI_id r.1 r.2, e_powM y.1 (by omega)]
              rfl
          have L : ∀ (k n : Nat) (u v i : Int), (11 - i).toNat = k → 0 ≤ i → i ≤ 11 → k < n → ∃ r, f_Heap_bestShare_10 (D 1 7 + 2 + s) (D 1 7 + 2 + t) E n u v i = some r ∧ f_Model_shares_50 s t G n u v i = some (r, G) := by
            intro k
            induction k with
            | zero =>
              intro n u v i hk i0 i1 hn
              obtain ⟨m, rfl⟩ : ∃ m, n = m + 1 := ⟨n - 1, by omega⟩
              have : i = 11 := by omega
              subst this
              refine ⟨u, ?_, ?_⟩
              · rw [f_Heap_bestShare_10, if_pos (by decide +kernel)]
              · rw [f_Model_shares_50, if_pos (by decide +kernel)]
            | succ k ih =>
              intro n u v i hk i0 i1 hn
              obtain ⟨m, rfl⟩ : ∃ m, n = m + 1 := ⟨n - 1, by omega⟩
              have nc : ¬ zI 10 < zI i := fun q => by have := (zI_lt (by omega) (by omega) (by omega) (by omega)).mp q; omega
              rw [f_Heap_bestShare_10, if_neg nc, f_Model_shares_50, if_neg nc, prodC i i0 (by omega), prodM _ u v i i0 (by omega)]
              simp only [Option.bind_some]
              unfold f_Heap_bestShare_47
              by_cases z : zL (mx D (D 1 7) s t i a b c d) ≤ zL v
              · rw [if_pos z, if_pos z]
                exact ih m u v (i + 1) (by omega) (by omega) (by omega) (by omega)
              · rw [if_neg z, if_neg z]
                exact ih m _ _ (i + 1) (by omega) (by omega) (by omega) (by omega)
          obtain ⟨r, r1, r2⟩ := L 11 zF 0 (-1) 0 rfl (by decide) (by decide) (zF_pos (by decide))
          refine ⟨r, E, G, ?_, ?_, IG⟩
          · rw [e17, if_pos hq, if_pos gs, if_pos hq, if_pos gt]
            unfold f_Heap_bestShare
            rw [r1]
            rfl
          · unfold f_Model_shares
            have e146 : E 146 0 = D (D 1 7) 0 := by rw [oE _ _ (by decide)]; exact hs.2.2
            rw [e_isSort hs0 e146 ⟨by omega, by omega⟩, bnd_if, if_pos c1, e_isSort ht0 e146 ⟨by omega, by omega⟩, bnd_if, if_pos c2, if_neg c0, (e_isHeap ha hb hc hd (by decide) (by decide)).1 c3, hG, zb_some, if_neg n10]
            exact r2
        · rw [(e_pile ha hb hc hd (by decide) (by decide)).2 c3]
          refine ⟨-1, D, p4 D 164 a b c d, rfl, ?_, hh.p164 a b c d⟩
          unfold f_Model_shares
          rw [e_isSort hs0 hs.2.2 ⟨by omega, by omega⟩, bnd_if, if_pos c1, e_isSort ht0 hs.2.2 ⟨by omega, by omega⟩, bnd_if, if_pos c2, if_neg c0, (e_isHeap ha hb hc hd (by decide) (by decide)).2 c3]
          rfl
    · rw [if_neg c2]
      refine ⟨-1, D, D, rfl, ?_, hh⟩
      unfold f_Model_shares
      rw [e_isSort hs0 hs.2.2 ⟨by omega, by omega⟩, bnd_if, if_pos c1, e_isSort ht0 hs.2.2 ⟨by omega, by omega⟩, bnd_if, if_neg c2]
  · rw [if_neg c1]
    refine ⟨-1, D, D, rfl, ?_, hh⟩
    unfold f_Model_shares
    rw [e_isSort hs0 hs.2.2 ⟨by omega, by omega⟩, bnd_if, if_neg c1]

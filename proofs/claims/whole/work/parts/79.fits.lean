theorem e_ld1 {D : Mm} {f v n : Int} (m : Nat) {t : Int} (f0 : 0 ≤ f) (f1 : f < 20) (n0 : 0 ≤ n) (n1 : n < 10000) (t0 : 0 ≤ t) (t1 : t < 4) : f_Model_laidBy_8 f D (m + 1) v n t = f_Model_laidBy_8 f D m (v + (if bitz (D 152 f) t = 1 then n % 10 else 0)) (n / 10) (t + (-1)) := by
  have nc : ¬ zI t < 0 := fun q => by have := (zI_lt0 (by omega) (by omega)).mp q; omega
  rw [f_Model_laidBy_8, if_neg nc, if_pos ⟨f0, f1⟩, e_has]
  simp only [Option.bind_some]
  unfold f_Model_laidBy_37
  rw [jdiv_nn n0 (by omega) (by decide) (by decide), jrem_nn n0 (by omega) (by decide) (by decide)]
  rcases bitz_01 (D 152 f) t with h | h
  · rw [h, if_pos (by decide +kernel), if_neg (by decide)]
  · rw [h, if_neg n10, if_pos rfl]
theorem e_laid {D : Mm} {f n : Int} (f0 : 0 ≤ f) (f1 : f < 20) (n0 : 0 ≤ n) (n1 : n < 10000) (s0 : 0 ≤ D 152 f) (s1 : D 152 f < 16) : f_Model_laidBy n f D = some (sg (n / 1000) (n / 100 % 10) (n / 10 % 10) (n % 10) (D 152 f) * D 151 f) := by
  obtain ⟨p0, p1, p2, p3⟩ := bit_mod s0 s1
  unfold f_Model_laidBy
  rw [show zF = 999995 + 1 + 1 + 1 + 1 + 1 from rfl, e_ld1 _ f0 f1 n0 n1 (by decide) (by decide), e_ld1 _ f0 f1 (by omega) (by omega) (by decide) (by decide), e_ld1 _ f0 f1 (by omega) (by omega) (by decide) (by decide), e_ld1 _ f0 f1 (by omega) (by omega) (by decide) (by decide), f_Model_laidBy_8, if_pos (by decide +kernel), if_pos ⟨f0, f1⟩]
  congr 2
  unfold sg
  have c : ∀ (p q : Prop) (_ : Decidable p) (_ : Decidable q) (x y : Int), (p ↔ q) → x = y → (if p then x else 0) = if q then y else 0 := fun p q _ _ x y e e2 => by
    subst e2
    by_cases h : p
    · rw [if_pos h, if_pos (e.mp h)]
    · rw [if_neg h, if_neg (fun z => h (e.mpr z))]
  have e3 := c _ _ inferInstance inferInstance (n % 10) (n % 10) p3 rfl
  have e2 := c _ _ inferInstance inferInstance (n / 10 % 10) (n / 10 % 10) p2 rfl
  have e1 := c _ _ inferInstance inferInstance (n / 10 / 10 % 10) (n / 100 % 10) p1 (by omega)
  have e0 := c _ _ inferInstance inferInstance (n / 10 / 10 / 10 % 10) (n / 1000) p0 (by omega)
  show 0 + (if bitz (D 152 f) 3 = 1 then n % 10 else 0) + (if bitz (D 152 f) 2 = 1 then n / 10 % 10 else 0) + (if bitz (D 152 f) 1 = 1 then n / 10 / 10 % 10 else 0) + (if bitz (D 152 f) 0 = 1 then n / 10 / 10 / 10 % 10 else 0) = _
  rw [e3, e2, e1, e0]
  omega
theorem e_fits {D : Mm} (h : Iv D) {n s e : Int} (n0 : 0 ≤ n) (n1 : n < 10000) (s0 : 0 ≤ s) (s1 : s < D (D 1 7) 0) (e0 : 0 ≤ e) (e1 : e ≤ 99) : (Ft D (D 1 7) s e (n / 1000) (n / 100 % 10) (n / 10 % 10) (n % 10) ∧ f_Model_fits n s e D = some 1) ∨ (¬ Ft D (D 1 7) s e (n / 1000) (n / 100 % 10) (n / 10 % 10) (n % 10) ∧ f_Model_fits n s e D = some 0) := by
  obtain ⟨-, -, hql, hfl, -⟩ := h
  have hs := hql.1
  have hp := hql.2.1
  have key : ∀ (k m : Nat) (f : Int), (D (D 1 7) 1 - f).toNat = k → 0 ≤ f → f ≤ D (D 1 7) 1 → k < m → (∀ g, 0 ≤ g → g < f → dmd D (D 1 7) s e g (sg (n / 1000) (n / 100 % 10) (n / 10 % 10) (n % 10) (D (D 1 7 + 11) g))) → (Ft D (D 1 7) s e (n / 1000) (n / 100 % 10) (n / 10 % 10) (n % 10) ∧ f_Model_fits_3 n s e D m f = some 1) ∨ (¬ Ft D (D 1 7) s e (n / 1000) (n / 100 % 10) (n / 10 % 10) (n % 10) ∧ f_Model_fits_3 n s e D m f = some 0) := by
    intro k
    induction k with
    | zero =>
      intro m f hk f0 f1 hm hg
      obtain ⟨m, rfl⟩ : ∃ x, m = x + 1 := ⟨m - 1, by omega⟩
      have hf : f = D (D 1 7) 1 := by omega
      subst hf
      left
      refine ⟨hg, ?_⟩
      rw [f_Model_fits_3, hp.2.2, if_pos (Int32.le_refl _)]
    | succ k ih =>
      intro m f hk f0 f1 hm hg
      obtain ⟨m, rfl⟩ : ∃ x, m = x + 1 := ⟨m - 1, by omega⟩
      have nc : ¬ zI (D (D 1 7) 1) ≤ zI f := fun q => by have := (zI_le (by omega) (by omega) (by omega) (by omega)).mp q; omega
      obtain ⟨-, ⟨k1, k2, k3⟩, ⟨r1, r2, r3⟩, ⟨t1, t2, t3⟩⟩ := hql.2.2.2.1 f f0 (by omega)
      obtain ⟨c1, c2, c3⟩ := hfl.1 f s f0 (by omega) s0 (by omega)
      obtain ⟨u1, -⟩ := hfl.2.2.1 f f0 (by omega)
      have sb := sg_36 (a := n / 1000) (b := n / 100 % 10) (c := n / 10 % 10) (d := n % 10) (m := D (D 1 7 + 11) f) (by omega) (by omega) (by omega) (by omega) (by omega) (by omega) (by omega) (by omega)
      have mb := mulb sb.1 (by omega) r2 r3
      have lay : f_Model_laidBy n f D = some (sg (n / 1000) (n / 100 % 10) (n / 10 % 10) (n % 10) (D (D 1 7 + 11) f) * D (D 1 7 + 10) f) := by
        rw [e_laid f0 (by omega) n0 n1 (by omega) (by omega), t1, r1]
      have go : dmd D (D 1 7) s e f (sg (n / 1000) (n / 100 % 10) (n / 10 % 10) (n % 10) (D (D 1 7 + 11) f)) → ∀ g, 0 ≤ g → g < f + 1 → dmd D (D 1 7) s e g (sg (n / 1000) (n / 100 % 10) (n / 10 % 10) (n % 10) (D (D 1 7 + 11) g)) := fun y g g0 g1 => by
        by_cases w : g = f
        · subst w; exact y
        · exact hg g g0 (by omega)
      have gd : 0 ≤ 6 * f + s ∧ 6 * f + s < 180 := by omega
      have g20 : 0 ≤ f ∧ f < 20 := by omega
      have g30 : 0 ≤ f ∧ f < 30 := by omega
      rw [f_Model_fits_3, hp.2.2, if_neg nc, if_pos gd, lay]
      simp only [Option.bind_some]
      rw [if_pos g20, k1]
      by_cases c3' : D (D 1 7 + 9) f = 3
      · rw [if_pos (show zI (D (D 1 7 + 9) f) = zI 3 by rw [c3']), if_pos g30, u1]
        rcases bitz_01 (D 12 2) f with y | y
        · rw [y, if_neg (by decide +kernel)]
          exact ih m (f + 1) (by omega) (by omega) (by omega) (by omega) (go (fun _ z => by rw [y] at z; exact absurd z (by decide)))
        · rw [y, if_pos rfl, c1]
          generalize hX : sg (n / 1000) (n / 100 % 10) (n / 10 % 10) (n % 10) (D (D 1 7 + 11) f) * D (D 1 7 + 10) f = X at mb go
          rw [wI_id (a := D (12 + 2 + f) s - X) (by omega) (by omega), wI_id (a := -e) (by omega) (by omega), wI_id (a := e) (by omega) (by omega), e_in ⟨by omega, by omega⟩ ⟨by omega, by omega⟩ ⟨by omega, by omega⟩, bnd_if]
          by_cases w : -e ≤ D (12 + 2 + f) s - X ∧ D (12 + 2 + f) s - X ≤ e
          · rw [if_pos w]
            refine ih m (f + 1) (by omega) (by omega) (by omega) (by omega) (go (fun _ _ => ?_))
            rw [hX]
            exact ⟨by omega, by omega⟩
          · rw [if_neg w]
            right
            refine ⟨fun v => w ?_, rfl⟩
            have := v f f0 (by omega) c3' y
            rw [hX] at this
            exact ⟨by omega, by omega⟩
      · rw [if_neg (fun y => c3' ((zI_eq (by omega) (by omega) (by omega) (by omega)).mp y))]
        exact ih m (f + 1) (by omega) (by omega) (by omega) (by omega) (go (fun y => absurd y c3'))
  exact key (D (D 1 7) 1 - 0).toNat zF 0 rfl (by decide) (by omega) (zF_pos (by omega)) (fun g g0 g1 => by omega)

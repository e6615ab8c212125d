theorem jor_0 {x : Int} (x0 : 0 ≤ x) (x1 : x.toNat < 2 ^ 6) : jor x 0 = x := by
  rw [jor_nn x0 (by decide) (by rw [show (0 : Int).toNat = 0 from rfl, Nat.or_zero]; omega), show (0 : Int).toNat = 0 from rfl, Nat.or_zero]
  omega
theorem e_sure {D : Mm} (h : Iv D) {f e : Int} (f0 : 0 ≤ f) (f1 : f < D (D 1 7) 1) (e0 : 0 ≤ e) (e1 : e ≤ 99) : ∃ E r, f_Main_surelyGround f e D = some (r, E) ∧ (∀ x j, ¬ (6 ≤ x ∧ x ≤ 9) → E x j = D x j) ∧ E 9 0 = 0 ∧ (0 ≤ r ∧ r.toNat < 2 ^ 6) ∧ ∀ G : Mm, (∀ x j, ¬ (6 ≤ x ∧ x ≤ 9) → G x j = D x j) → G 9 0 = 0 → f_Model_sureOf f e G = some r := by
  have hq := h.q
  have hs := h.2.2.1.1
  have key : ∀ (k n : Nat) (v i : Int) (C : Mm), (D (D 1 7) 0 - i).toNat = k → 0 ≤ i → i ≤ D (D 1 7) 0 → k < n → (0 ≤ v ∧ v.toNat < 2 ^ 6) → (∀ x j, ¬ (6 ≤ x ∧ x ≤ 9) → C x j = D x j) → C 9 0 = 0 → ∃ E r, f_Main_surelyGround_5 f e n v i C = some (r, E) ∧ (∀ x j, ¬ (6 ≤ x ∧ x ≤ 9) → E x j = D x j) ∧ E 9 0 = 0 ∧ (0 ≤ r ∧ r.toNat < 2 ^ 6) ∧ ∀ G : Mm, (∀ x j, ¬ (6 ≤ x ∧ x ≤ 9) → G x j = D x j) → G 9 0 = 0 → f_Model_sureOf_5 f e G n v i = some r := by
    intro k
    induction k with
    | zero =>
      intro n v i C hk i0 i1 hn hv ho h9
      obtain ⟨n, rfl⟩ : ∃ x, n = x + 1 := ⟨n - 1, by omega⟩
      have hi : i = D (D 1 7) 0 := by omega
      subst hi
      refine ⟨C, v, ?_, ho, h9, hv, fun G g1 g2 => ?_⟩
      · rw [f_Main_surelyGround_5, ho 1 7 (by omega), if_pos hq, ho (D 1 7) 0 (by omega), if_pos (Int32.le_refl _)]
      · rw [f_Model_sureOf_5, g1 146 0 (by omega), hs.2.2, if_pos (Int32.le_refl _)]
    | succ k ih =>
      intro n v i C hk i0 i1 hn hv ho h9
      obtain ⟨n, rfl⟩ : ∃ x, n = x + 1 := ⟨n - 1, by omega⟩
      have nc : ¬ zI (D (D 1 7) 0) ≤ zI i := fun q => by have := (zI_le (by omega) (by omega) (by omega) (by omega)).mp q; omega
      have IC := h.c69 ho h9
      have c17 : C 1 7 = D 1 7 := ho _ _ (by omega)
      have p0 : Rg 0 := ⟨by decide, by decide⟩
      have f1' : f < C (C 1 7) 1 := by rw [c17, ho (D 1 7) 1 (by omega)]; exact f1
      have s1' : i < C (C 1 7) 0 := by rw [c17, ho (D 1 7) 0 (by omega)]; omega
      obtain ⟨A, b, A1, A2, A3, A4⟩ := e_gon IC f0 f1' i0 s1' e0 e1 p0
      have Ao : ∀ x j, ¬ (6 ≤ x ∧ x ≤ 9) → A x j = D x j := fun x j hx => by rw [A2 x j hx, ho x j hx]
      have gm : ∀ G : Mm, (∀ x j, ¬ (6 ≤ x ∧ x ≤ 9) → G x j = D x j) → G 9 0 = 0 → f_Model_groundOf f i e 0 G = some b := fun G g1 g2 => e_gom IC f0 f1' i0 s1' e0 e1 p0 (fun x j hx => by rw [g1 x j hx, ho x j hx]) g2 A4
      by_cases z : zI b ≤ 0
      · obtain ⟨E, r, x1, x2, x3, x4, x5⟩ := ih n v (i + 1) A (by omega) (by omega) (by omega) (by omega) hv Ao A3
        refine ⟨E, r, ?_, x2, x3, x4, fun G g1 g2 => ?_⟩
        · rw [f_Main_surelyGround_5, c17, if_pos hq, ho (D 1 7) 0 (by omega), if_neg nc, A1, zb_some, if_pos z]
          exact x1
        · rw [f_Model_sureOf_5, g1 146 0 (by omega), hs.2.2, if_neg nc, gm G g1 g2]
          simp only [Option.bind_some]
          unfold f_Model_sureOf_37
          rw [if_pos z, jor_0 hv.1 hv.2]
          exact x5 G g1 g2
      · obtain ⟨b1, b2, -⟩ := jor_bit (w := 6) hv.1 hv.2 (by decide) i0 (show i.toNat < 6 by omega)
        obtain ⟨E, r, x1, x2, x3, x4, x5⟩ := ih n (jor v (jshl 1 i)) (i + 1) A (by omega) (by omega) (by omega) (by omega) ⟨b1, b2⟩ Ao A3
        refine ⟨E, r, ?_, x2, x3, x4, fun G g1 g2 => ?_⟩
        · rw [f_Main_surelyGround_5, c17, if_pos hq, ho (D 1 7) 0 (by omega), if_neg nc, A1, zb_some, if_neg z]
          exact x1
        · rw [f_Model_sureOf_5, g1 146 0 (by omega), hs.2.2, if_neg nc, gm G g1 g2]
          simp only [Option.bind_some]
          unfold f_Model_sureOf_37
          rw [if_neg z]
          exact x5 G g1 g2
  exact key (D (D 1 7) 0 - 0).toNat zF 0 0 D rfl (by decide) (by omega) (zF_pos (by omega)) ⟨by decide, by decide⟩ (fun x j _ => rfl) h.2.2.2.2.1.1.2

theorem zs_one {f : Int → Int} : ∀ n : Nat, (∀ k : Int, 0 ≤ k → k < n → 0 ≤ f k) → 0 ≤ zsum f n ∧ ∀ j : Int, 0 ≤ j → j < n → f j ≤ zsum f n := by
  intro n
  induction n with
  | zero => intro _; exact ⟨Int.le_refl 0, fun j j0 j1 => by omega⟩
  | succ n ih =>
    intro hh
    obtain ⟨i1, i2⟩ := ih (fun k h0 h1 => hh k h0 (by omega))
    have fn := hh n (by omega) (by omega)
    refine ⟨?_, fun j j0 j1 => ?_⟩
    · show 0 ≤ zsum f n + f n; omega
    · show f j ≤ zsum f n + f n
      by_cases e : j = n
      · rw [e]; omega
      · have := i2 j j0 (by omega); omega
theorem Gst_one {P : Int → Prop} {y : Int → Int} {p i b c : Int} (h1 : Gst P y p i b) (h2 : Gst P y p i c) : b = c := by
  rcases h1 with ⟨a1, a2⟩ | ⟨a1, ⟨n, n0, n1, n2, n3⟩, a3⟩ <;> rcases h2 with ⟨b1, b2⟩ | ⟨b1, ⟨m, m0, m1, m2, m3⟩, b3⟩
  · omega
  · exact absurd m2 (a1 m m0 m1)
  · exact absurd n2 (b1 n n0 n1)
  · have x := a3 m m0 m1 m2
    have y := b3 n n0 n1 n2
    by_cases pz : p = 0
    · have := x.1 pz; have := y.1 pz; omega
    · have := x.2 pz; have := y.2 pz; omega
theorem zmax0_m {c x y a : Int} (h : x ≤ y) (a0 : 0 ≤ a) : zmax 0 (c - y * a) ≤ zmax 0 (c - x * a) := by
  have : x * a ≤ y * a := Int.mul_le_mul_of_nonneg_right h a0
  unfold zmax
  split <;> split <;> omega
theorem e_gon {D : Mm} (h : Iv D) {f s e p : Int} (f0 : 0 ≤ f) (f1 : f < D (D 1 7) 1) (s0 : 0 ≤ s) (s1 : s < D (D 1 7) 0) (e0 : 0 ≤ e) (e1 : e ≤ 99) (hp : Rg p) : ∃ E b, f_Main_groundOn f s e p D = some (b, E) ∧ (∀ x j, ¬ (6 ≤ x ∧ x ≤ 9) → E x j = D x j) ∧ E 9 0 = 0 ∧ Gst (Fn D (D 1 7) s e) (grd D (D 1 7) f s) p 10000 b := by
  have hh := h
  have hq := h.q
  obtain ⟨-, -, hql, hfl, -⟩ := h
  have hs := hql.1
  have hpp := hql.2.1
  obtain ⟨-, -, ⟨r1, r2, r3⟩, ⟨t1, t2, t3⟩⟩ := hql.2.2.2.1 f f0 f1
  obtain ⟨c1, c2, c3⟩ := hfl.1 f s f0 (by omega) s0 (by omega)
  have gf : 0 ≤ f ∧ f < 10 := by omega
  have gs : 0 ≤ s ∧ s < 6 := by omega
  obtain ⟨E, E1, E2, E3, ⟨ind, E4, E5⟩, E6⟩ := e_search hh s0 s1 e0 e1 t2 (show D (D 1 7 + 11) f < 16 by omega)
  rw [← zs_4 ind] at E5
  have Ib : ∀ n : Int, 0 ≤ n → n < 10000 → 0 ≤ ind (n / 1000) (n / 100 % 10) (n / 10 % 10) (n % 10) ∧ ind (n / 1000) (n / 100 % 10) (n / 10 % 10) (n % 10) ≤ 1 := fun n n0 n1 => by
    rcases E4 _ _ _ _ (ok_n n0 n1) with ⟨_, w⟩ | ⟨_, w⟩ <;> rw [w] <;> decide
  have z1 := zs_one (f := fun n => ind (n / 1000) (n / 100 % 10) (n / 10 % 10) (n % 10)) 10000 (fun n n0 n1 => (Ib n n0 (by omega)).1)
  have z2 := zsum_b (f := fun n => ind (n / 1000) (n / 100 % 10) (n / 10 % 10) (n % 10)) (M := 1) (by decide) 10000 (fun n n0 n1 => Ib n n0 (by omega))
  rw [← E5] at z1 z2
  have noz : (∀ n : Int, 0 ≤ n → n < (10000 : Nat) → ind (n / 1000) (n / 100 % 10) (n / 10 % 10) (n % 10) = 0) → E 6 4 = 0 := fun y => E5.trans (zsum_0 10000 y)
  clear E5
  have z3 : E 6 4 ≤ 10000 := by have := z2.2; omega
  unfold f_Main_groundOn
  rw [if_pos hq, if_pos hq, if_pos gf, E1, zb_some]
  have e17 : E 1 7 = D 1 7 := E2 _ _ (by omega)
  by_cases z : E 6 4 = 0
  · rw [if_pos ((zI_eq0 (by omega) (by omega)).mpr z)]
    refine ⟨E, -4, rfl, E2, E3, Or.inl ⟨fun n n0 n1 hf => ?_, rfl⟩⟩
    have := z1.2 n n0 (by omega)
    rcases E4 _ _ _ _ (ok_n n0 n1) with ⟨_, w⟩ | ⟨w, _⟩
    · have this : ind (n / 1000) (n / 100 % 10) (n / 10 % 10) (n % 10) ≤ E 6 4 := this
      rw [w] at this; omega
    · exact w hf
  · rw [if_neg (fun q => z ((zI_eq0 (by omega) (by omega)).mp q))]
    have ex : ∃ a b c d, Ok4 a b c d ∧ Ft D (D 1 7) s e a b c d := by
      refine Classical.byContradiction (fun no => z ?_)
      exact noz (fun n n0 n1 => by
        rcases E4 _ _ _ _ (ok_n n0 (by omega)) with ⟨w, _⟩ | ⟨_, w⟩
        · exact absurd ⟨_, _, _, _, ok_n n0 (by omega), w⟩ no
        · exact w)
    obtain ⟨g1, ⟨a', b', c', d', ok, w1, w2⟩, a'', b'', c'', d'', ok2, x1, x2⟩ := E6 ex
    have back : ∀ a b c d, Ok4 a b c d → Ft D (D 1 7) s e a b c d → Fn D (D 1 7) s e (1000 * a + 100 * b + 10 * c + d) ∧ dgs (D (D 1 7 + 11) f) (1000 * a + 100 * b + 10 * c + d) = sg a b c d (D (D 1 7 + 11) f) := fun a b c d ok hf => by
      obtain ⟨q1, q2, q3, q4, -, -⟩ := dg_n ok
      unfold Fn dgs
      rw [q1, q2, q3, q4]
      exact ⟨hf, rfl⟩
    have fin : ∀ S : Int, 0 ≤ S → S ≤ 36 → f_Main_groundOn_61 f s S E = some (zmax 0 (D (12 + 2 + f) s - S * D (D 1 7 + 10) f), E) := fun S S0 S1 => by
      have mb := mulb S0 (by omega) r2 r3
      unfold f_Main_groundOn_61
      rw [if_pos gf, if_pos gs, e17, if_pos hq, if_pos gf, E2 (12 + 2 + f) s (by omega), E2 (D 1 7 + 10) f (by omega), e_max ⟨by decide, by decide⟩ ⟨by omega, by omega⟩]
      rfl
    have nn : ∀ x : Int, 0 ≤ zmax 0 x := fun x => by unfold zmax; split <;> omega
    by_cases pz : p = 0
    · have m := back a'' b'' c'' d'' ok2 x1
      have dd := dg_n ok2
      have sb := ok2
      unfold Ok4 at sb
      have sb := sg_36 (a := a'') (b := b'') (c := c'') (d := d'') (m := D (D 1 7 + 11) f) (by omega) (by omega) (by omega) (by omega) (by omega) (by omega) (by omega) (by omega)
      rw [if_pos ((zI_eq0 hp.1 hp.2).mpr pz), fin _ (by omega) (by omega)]
      refine ⟨E, _, rfl, E2, E3, Or.inr ⟨nn _, ⟨_, dd.2.2.2.2.1, dd.2.2.2.2.2, m.1, ?_⟩, fun n n0 n1 hf => ⟨fun _ => ?_, fun y => absurd pz y⟩⟩⟩
      · unfold grd
        rw [m.2, x2]
      · exact zmax0_m (g1 _ _ _ _ (ok_n n0 n1) hf).2 (by omega)
    · have m := back a' b' c' d' ok w1
      have dd := dg_n ok
      have sb := ok
      unfold Ok4 at sb
      have sb := sg_36 (a := a') (b := b') (c := c') (d := d') (m := D (D 1 7 + 11) f) (by omega) (by omega) (by omega) (by omega) (by omega) (by omega) (by omega) (by omega)
      rw [if_neg (fun y => pz ((zI_eq0 hp.1 hp.2).mp y)), fin _ (by omega) (by omega)]
      refine ⟨E, _, rfl, E2, E3, Or.inr ⟨nn _, ⟨_, dd.2.2.2.2.1, dd.2.2.2.2.2, m.1, ?_⟩, fun n n0 n1 hf => ⟨fun y => absurd y pz, fun _ => ?_⟩⟩⟩
      · unfold grd
        rw [m.2, w2]
      · exact zmax0_m (g1 _ _ _ _ (ok_n n0 n1) hf).1 (by omega)

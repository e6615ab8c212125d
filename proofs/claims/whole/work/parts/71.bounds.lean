theorem e_fill {c n v : Int} (D : Mm) (n0 : 0 ≤ n) (n1 : n ≤ 1000) : ∃ E, f_Arrays_fill c n v D = some (0, E) ∧ (∀ i, 0 ≤ i → i < n → E c i = v) ∧ ∀ x i, x ≠ c → E x i = D x i := by
  unfold f_Arrays_fill
  refine zup (fun k i E => f_Arrays_fill_5 c n v n k i E) n (fun a E => 0 ≤ a ∧ (∀ i, 0 ≤ i → i < a → E c i = v) ∧ ∀ x i, x ≠ c → E x i = D x i) (fun o => ∃ E, o = some (0, E) ∧ (∀ i, 0 ≤ i → i < n → E c i = v) ∧ ∀ x i, x ≠ c → E x i = D x i) ?_ ?_ (n - 0).toNat zF 0 D rfl n0 (zF_pos (by omega)) ⟨by decide, fun i i0 i1 => by omega, fun x i _ => rfl⟩
  · intro k E ⟨_, e1, e2⟩
    refine ⟨E, ?_, e1, e2⟩
    show f_Arrays_fill_5 c n v n (k + 1) n E = _
    rw [f_Arrays_fill_5, if_pos (Int32.le_refl _)]
  · intro k a E ha ⟨a0, e1, e2⟩
    refine ⟨stm E c a v, ⟨by omega, fun i i0 i1 => ?_, fun x i hx => by rw [stm_ne (by omega)]; exact e2 x i hx⟩, ?_⟩
    · by_cases e : i = a
      · rw [e, stm_eq ⟨rfl, rfl⟩]
      · rw [stm_ne (by omega)]; exact e1 i i0 (by omega)
    · show f_Arrays_fill_5 c n v n (k + 1) a E = _
      rw [f_Arrays_fill_5, if_neg (fun q => by have := (zI_le (by omega) (by omega) (by omega) (by omega)).mp q; omega), if_pos ⟨a0, ha⟩]
      rfl
-- one patch's demand on a sum
def dmd (D : Mm) (q s d f : Int) (x : Int) : Prop := D (q + 9) f = 3 → bitz (D 12 2) f = 1 → D (12 + 2 + f) s - d ≤ x * D (q + 10) f ∧ x * D (q + 10) f ≤ D (12 + 2 + f) s + d
def Bnd (D : Mm) (q s d i : Int) (E : Mm) : Prop :=
  (∀ x j, x ≠ 7 → x ≠ 8 → ¬ (x = 6 ∧ j = 3) → E x j = D x j) ∧ (0 ≤ E 6 3 ∧ E 6 3 < 64) ∧
  (∀ m, 0 ≤ m → m < 16 → 0 ≤ E 7 m ∧ E 7 m ≤ 37 ∧ 0 ≤ E 8 m ∧ E 8 m ≤ 36) ∧
  (∀ m x, 0 ≤ m → m < 16 → 0 ≤ x → x ≤ 36 → ((E 7 m ≤ x ∧ x ≤ E 8 m) ↔ ∀ f, 0 ≤ f → f < i → D (q + 11) f = m → dmd D q s d f x)) ∧
  (∀ t m, 0 ≤ t → t < 4 → ¬ bitz (E 6 3) t = 1 → 0 ≤ m → m < 16 → bitz m t = 1 → E 7 m = 0 ∧ 9 * bc4 m ≤ E 8 m)
theorem e_boundSums {D : Mm} {q s d : Int} (hq : q = 32 ∨ q = 69) (h : QL D q) (hf : FL D (D q 1)) (s0 : 0 ≤ s) (s1 : s < D q 0) (d0 : 0 ≤ d) (d1 : d ≤ 99) : ∃ E, f_Books_boundSums q 12 s d D = some (0, E) ∧ Bnd D q s d (D q 1) E := by
  have hs := h.1
  have hp := h.2.1
  obtain ⟨A, a1, a2, a3⟩ := e_fill (c := 7) (n := 16) (v := 0) D (by decide) (by decide)
  obtain ⟨B, b1, b2, b3⟩ := e_fill (c := 8) (n := 16) (v := 36) A (by decide) (by decide)
  have start : Bnd D q s d 0 (stm B 6 3 0) := by
    refine ⟨fun x j h1 h2 h3 => by rw [stm_ne (by omega), b3 x j h2, a3 x j h1], by rw [stm_eq ⟨rfl, rfl⟩]; decide, fun m m0 m1 => ?_, fun m x m0 m1 x0 x1 => ?_, fun t m t0 t1 ht m0 m1 hb => ?_⟩
    · rw [stm_ne (by omega), stm_ne (by omega), b3 7 m (by decide), a2 m m0 m1, b2 m m0 m1]; decide
    · rw [stm_ne (by omega), stm_ne (by omega), b3 7 m (by decide), a2 m m0 m1, b2 m m0 m1]
      exact ⟨fun _ f f0 f1 => by omega, fun _ => ⟨x0, x1⟩⟩
    · rw [stm_ne (by omega), stm_ne (by omega), b3 7 m (by decide), a2 m m0 m1, b2 m m0 m1]
      have := bc4_b m0 m1
      exact ⟨rfl, by omega⟩
  unfold f_Books_boundSums
  rw [a1, zb_some, b1, zb_some]
  simp only [zst]
  refine zup (fun k i E => f_Books_boundSums_25 q 12 s d k i E) (D q 1) (fun i E => 0 ≤ i ∧ Bnd D q s d i E) (fun o => ∃ E, o = some (0, E) ∧ Bnd D q s d (D q 1) E) ?_ ?_ (D q 1 - 0).toNat zF 0 (stm B 6 3 0) rfl (by omega) (zF_pos (by omega)) ⟨by decide, start⟩
  · intro n E ⟨_, e⟩
    refine ⟨E, ?_, e⟩
    show f_Books_boundSums_25 q 12 s d (n + 1) (D q 1) E = _
    rw [f_Books_boundSums_25, e.1 q 1 (by omega) (by omega) (by omega), if_pos (Int32.le_refl _)]
  · intro n i E hi ⟨i0, e1, e2, e3, e4, e5⟩
    have nc : ¬ zI (D q 1) ≤ zI i := fun q => by have := (zI_le (by omega) (by omega) (by omega) (by omega)).mp q; omega
    have gi : 0 ≤ i ∧ i < 10 := by omega
    have gs : 0 ≤ s ∧ s < 6 := by omega
    obtain ⟨-, ⟨-, k1, k2⟩, ⟨-, r1, r2⟩, ⟨-, t1, t2⟩⟩ := h.2.2.2.1 i i0 hi
    obtain ⟨-, n1, n2⟩ := hf.1 i s i0 gi.2 s0 gs.2
    have E9 : E (q + 9) i = D (q + 9) i := e1 _ _ (by omega) (by omega) (by omega)
    have E10 : E (q + 10) i = D (q + 10) i := e1 _ _ (by omega) (by omega) (by omega)
    have E11 : E (q + 11) i = D (q + 11) i := e1 _ _ (by omega) (by omega) (by omega)
    have E14 : E (12 + 2 + i) s = D (12 + 2 + i) s := e1 _ _ (by omega) (by omega) (by omega)
    have E12 : E 12 2 = D 12 2 := e1 _ _ (by omega) (by omega) (by omega)
    have skip : ¬ (D (q + 9) i = 3 ∧ bitz (D 12 2) i = 1) → Bnd D q s d (i + 1) E := fun hn => by
      refine ⟨e1, e2, e3, fun m x m0 m1 x0 x1 => (e4 m x m0 m1 x0 x1).trans ⟨fun y f f0 f1 hm => ?_, fun y f f0 f1 hm => y f f0 (by omega) hm⟩, e5⟩
      by_cases w : f = i
      · subst w
        exact fun z1 z2 => absurd ⟨z1, z2⟩ hn
      · exact y f f0 (by omega) hm
    by_cases c1 : D (q + 9) i = 3
    · by_cases c2 : bitz (D 12 2) i = 1
      · obtain ⟨l0, l1, g0, g1⟩ := e3 (D (q + 11) i) t1 (by omega)
        obtain ⟨G, l, g, x1, ⟨y0, y1, y2⟩, ⟨z0, z1, z2⟩, x2, x3, x4, x5⟩ := e_boundSum (D := E) (m := D (q + 11) i) (a := D (q + 10) i) (c := D (12 + 2 + i) s) (d := d) t1 (by omega) r1 r2 n1 n2 d0 d1 l0 l1 (by omega) g1
        have same : ∀ m, m ≠ D (q + 11) i → G 7 m = E 7 m ∧ G 8 m = E 8 m := fun m hm => ⟨x5 _ _ (by omega) (by omega) (by omega), x5 _ _ (by omega) (by omega) (by omega)⟩
        refine ⟨G, ⟨by omega, fun x j h1 h2 h3 => by rw [x5 x j (by omega) (by omega) h3]; exact e1 x j h1 h2 h3, ?_, fun m m0 m1 => ?_, fun m x m0 m1 x0 x1' => ?_, fun t m t0 t1' ht m0 m1 hb => ?_⟩, ?_⟩
        · rcases x4 with ⟨w, -⟩ | w
          · rw [w]; exact e2
          · rw [w]
            have := bitz_or e2.1 e2.2 t1 (show D (q + 11) i < 64 by omega) (g := 0) (by decide) (by decide)
            exact ⟨this.1, this.2.1⟩
        · by_cases w : m = D (q + 11) i
          · rw [w, x2, x3]
            have u1 := (zmax_le (a := E 7 (D (q + 11) i)) (b := l) (x := zmax (E 7 (D (q + 11) i)) l)).mp (Int.le_refl _)
            have u2 := (zmax_le (a := E 7 (D (q + 11) i)) (b := l) (x := 37)).mpr ⟨l1, y1⟩
            have u3 := (le_zmin (a := E 8 (D (q + 11) i)) (b := g) (x := zmin (E 8 (D (q + 11) i)) g)).mp (Int.le_refl _)
            have u4 := (le_zmin (a := E 8 (D (q + 11) i)) (b := g) (x := 0)).mpr ⟨g0, z0⟩
            exact ⟨by omega, u2, u4, by omega⟩
          · rw [(same m w).1, (same m w).2]; exact e3 m m0 m1
        · by_cases w : m = D (q + 11) i
          · subst w
            rw [x2, x3, zmax_le, le_zmin]
            have b := e4 (D (q + 11) i) x m0 m1 x0 x1'
            constructor
            · intro ⟨⟨v1, v2⟩, v3, v4⟩ f f0 f1 hm
              by_cases u : f = i
              · subst u
                exact fun _ _ => ⟨(y2 x x0 x1').mpr v2, (z2 x x0 x1').mpr v4⟩
              · exact b.mp ⟨v1, v3⟩ f f0 (by omega) hm
            · intro v
              have v1 := b.mpr (fun f f0 f1 hm => v f f0 (by omega) hm)
              have v2 := v i i0 (by omega) rfl c1 c2
              exact ⟨⟨v1.1, (y2 x x0 x1').mp v2.1⟩, v1.2, (z2 x x0 x1').mp v2.2⟩
          · rw [(same m w).1, (same m w).2]
            refine (e4 m x m0 m1 x0 x1').trans ⟨fun y f f0 f1 hm => y f f0 ?_ hm, fun y f f0 f1 hm => y f f0 (by omega) hm⟩
            have : f ≠ i := fun u => w (by rw [← hm, u])
            omega
        · have old : ¬ bitz (E 6 3) t = 1 := by
            rcases x4 with ⟨w, -⟩ | w
            · rw [← w]; exact ht
            · intro u
              rw [w] at ht
              exact ht ((bitz_or e2.1 e2.2 t1 (show D (q + 11) i < 64 by omega) t0 (by omega)).2.2.mpr (Or.inl u))
          have o := e5 t m t0 t1' old m0 m1 hb
          by_cases w : m = D (q + 11) i
          · rcases x4 with ⟨w1, w2, w3⟩ | w1
            · subst w
              rw [x2, x3, o.1, w2]
              exact ⟨rfl, le_zmin.mpr ⟨o.2, w3⟩⟩
            · exfalso
              rw [w1] at ht
              exact ht ((bitz_or e2.1 e2.2 t1 (show D (q + 11) i < 64 by omega) t0 (by omega)).2.2.mpr (Or.inr (by rw [← w]; exact hb)))
          · rw [(same m w).1, (same m w).2]; exact o
        · show f_Books_boundSums_25 q 12 s d (n + 1) i E = _
          rw [f_Books_boundSums_25, e1 q 1 (by omega) (by omega) (by omega), if_neg nc, if_pos gi, E9, if_pos (show zI (D (q + 9) i) = zI 3 by rw [c1]), e_isRead, E12, c2]
          simp only [Option.bind_some]
          rw [if_neg n10, if_pos gi, if_pos gi, if_pos gi, if_pos gs, E11, E10, E14, x1]
          rfl
      · refine ⟨E, ⟨by omega, skip (fun y => c2 y.2)⟩, ?_⟩
        show f_Books_boundSums_25 q 12 s d (n + 1) i E = _
        have b0 : bitz (D 12 2) i = 0 := by rcases bitz_01 (D 12 2) i with y | y; exact y; exact absurd y c2
        rw [f_Books_boundSums_25, e1 q 1 (by omega) (by omega) (by omega), if_neg nc, if_pos gi, E9, if_pos (show zI (D (q + 9) i) = zI 3 by rw [c1]), e_isRead, E12, b0]
        rfl
    · refine ⟨E, ⟨by omega, skip (fun y => c1 y.1)⟩, ?_⟩
      show f_Books_boundSums_25 q 12 s d (n + 1) i E = _
      rw [f_Books_boundSums_25, e1 q 1 (by omega) (by omega) (by omega), if_neg nc, if_pos gi, E9, if_neg (fun y => c1 ((zI_eq (by omega) (by omega) (by omega) (by omega)).mp y))]
      rfl

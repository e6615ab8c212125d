def Lv (B : Mm) (t w : Int) (S : Int → Int) (x : Int) : Prop := 0 ≤ x ∧ x ≤ 9 ∧ (¬ bitz (B 6 3) t = 1 → x = 0) ∧ ∀ m, 0 ≤ m → m < w → B 7 (m + w) ≤ S m + x ∧ S m + x ≤ B 8 (m + w)
def Pt (B : Mm) (a b c d : Int) : Prop := Lv B 0 1 (sg 0 0 0 0) a ∧ Lv B 1 2 (sg a 0 0 0) b ∧ Lv B 2 4 (sg a b 0 0) c ∧ Lv B 3 8 (sg a b c 0) d
def Ss (B E : Mm) : Prop := ∀ x j, x ≠ 9 → ¬ (x = 6 ∧ 4 ≤ j ∧ j ≤ 6) → E x j = B x j
def Rc (Q : Int → Int → Int → Int → Prop) (k : Int) (E : Mm) : Prop := (0 ≤ E 6 5 ∧ E 6 5 ≤ 37) ∧ (-1 ≤ E 6 6 ∧ E 6 6 ≤ 36) ∧ (∀ a b c d, Q a b c d → E 6 5 ≤ sg a b c d k ∧ sg a b c d k ≤ E 6 6) ∧ ((E 6 5 = 37 ∧ E 6 6 = -1) ∨ ((∃ a b c d, Q a b c d ∧ sg a b c d k = E 6 5) ∧ ∃ a b c d, Q a b c d ∧ sg a b c d k = E 6 6))
theorem Rc.cong {Q R : Int → Int → Int → Int → Prop} {k : Int} {E G : Mm} (h : Rc Q k E) (hq : ∀ a b c d, Q a b c d ↔ R a b c d) (h5 : G 6 5 = E 6 5) (h6 : G 6 6 = E 6 6) : Rc R k G := by
  obtain ⟨a1, a2, a3, a4⟩ := h
  unfold Rc
  rw [h5, h6]
  refine ⟨a1, a2, fun a b c d y => a3 a b c d ((hq a b c d).mpr y), ?_⟩
  rcases a4 with y | ⟨⟨a, b, c, d, y1, y2⟩, a', b', c', d', z1, z2⟩
  · exact Or.inl y
  · exact Or.inr ⟨⟨a, b, c, d, (hq _ _ _ _).mp y1, y2⟩, a', b', c', d', (hq _ _ _ _).mp z1, z2⟩
def Hb (B : Mm) : Prop := (∀ m, 0 ≤ m → m < 16 → 0 ≤ B 7 m ∧ B 7 m ≤ 37 ∧ 0 ≤ B 8 m ∧ B 8 m ≤ 36) ∧ (∀ t m, 0 ≤ t → t < 4 → ¬ bitz (B 6 3) t = 1 → 0 ≤ m → m < 16 → bitz m t = 1 → B 7 m = 0 ∧ 9 * bc4 m ≤ B 8 m)
theorem bit_w {t w m : Int} (ht : (t = 0 ∧ w = 1) ∨ (t = 1 ∧ w = 2) ∨ (t = 2 ∧ w = 4) ∨ (t = 3 ∧ w = 8)) (m0 : 0 ≤ m) (m1 : m < w) : bitz (m + w) t = 1 ∧ bc4 m ≤ bc4 (m + w) := by
  have h : (List.range 8).all (fun m => decide (((m : Int) < 1 → bitz ((m : Int) + 1) 0 = 1 ∧ bc4 (m : Int) ≤ bc4 ((m : Int) + 1)) ∧ ((m : Int) < 2 → bitz ((m : Int) + 2) 1 = 1 ∧ bc4 (m : Int) ≤ bc4 ((m : Int) + 2)) ∧ ((m : Int) < 4 → bitz ((m : Int) + 4) 2 = 1 ∧ bc4 (m : Int) ≤ bc4 ((m : Int) + 4)) ∧ (bitz ((m : Int) + 8) 3 = 1 ∧ bc4 (m : Int) ≤ bc4 ((m : Int) + 8)))) = true := by decide +kernel
  have a := of_decide_eq_true (List.all_eq_true.mp h m.toNat (List.mem_range.mpr (by omega)))
  rw [show ((m.toNat : Nat) : Int) = m by omega] at a
  rcases ht with ⟨h1, h2⟩ | ⟨h1, h2⟩ | ⟨h1, h2⟩ | ⟨h1, h2⟩ <;> subst h1 <;> subst h2
  · exact a.1 m1
  · exact a.2.1 m1
  · exact a.2.2.1 m1
  · exact a.2.2.2
theorem e_dig {B E : Mm} {t w a b c : Int} (hB : Hb B) (hE : Ss B E) (ht : (t = 0 ∧ w = 1) ∨ (t = 1 ∧ w = 2) ∨ (t = 2 ∧ w = 4) ∨ (t = 3 ∧ w = 8)) (h9 : ∀ m, 0 ≤ m → m < w → E 9 m = sg a b c 0 m) (a0 : 0 ≤ a) (a1 : a ≤ 9) (b0 : 0 ≤ b) (b1 : b ≤ 9) (c0 : 0 ≤ c) (c1 : c ≤ 9) : ∃ l g, f_Books_leastOf t E = some l ∧ f_Books_greatestOf t E = some g ∧ (0 ≤ l ∧ l ≤ 37 ∧ -36 ≤ g ∧ g ≤ 9) ∧ ∀ x, (l ≤ x ∧ x ≤ g) ↔ Lv B t w (sg a b c 0) x := by
  have e7 : ∀ m, E 7 m = B 7 m := fun m => hE 7 m (by decide) (by omega)
  have e8 : ∀ m, E 8 m = B 8 m := fun m => hE 8 m (by decide) (by omega)
  have e63 : E 6 3 = B 6 3 := hE 6 3 (by decide) (by omega)
  obtain ⟨l, g, x1, x2, x3, x4⟩ := e_rng (D := E) ht (fun m m0 m1 => by rw [e7]; exact ⟨(hB.1 m m0 m1).1, (hB.1 m m0 m1).2.1⟩) (fun m m0 m1 => by rw [e8]; exact (hB.1 m m0 m1).2.2) (fun m m0 m1 => by rw [h9 m m0 m1]; exact sg_36 a0 a1 b0 b1 c0 c1 (by decide) (by decide)) (fun y m m0 m1 => by
    rw [e63] at y
    obtain ⟨u1, u2⟩ := bit_w ht m0 m1
    obtain ⟨v1, v2⟩ := hB.2 t (m + w) (by omega) (by omega) y (by omega) (by omega) u1
    have s1 := (sg_b (m := m) a0 a1 b0 b1 c0 c1 (d := 0) (by decide) (by decide)).2
    rw [← bc4_e m0 (by omega)] at s1
    rw [e7, e8, h9 m m0 m1]
    exact ⟨v1, by omega⟩)
  refine ⟨l, g, x1, x2, x3, fun x => (x4 x).trans ?_⟩
  unfold Lv
  rw [e63]
  constructor
  · intro ⟨y1, y2, y3, y4⟩
    exact ⟨y1, y2, y3, fun m m0 m1 => by have := y4 m m0 m1; rw [e7, e8, h9 m m0 m1] at this; exact this⟩
  · intro ⟨y1, y2, y3, y4⟩
    exact ⟨y1, y2, y3, fun m m0 m1 => by rw [e7, e8, h9 m m0 m1]; exact y4 m m0 m1⟩
theorem sg_4 {a b c m : Int} (m0 : 0 ≤ m) (m1 : m < 4) : sg a b c 0 m = sg a b 0 0 m ∧ sg a b c 0 (m + 4) = sg a b 0 0 m + c := by
  rcases (show m = 0 ∨ m = 1 ∨ m = 2 ∨ m = 3 by omega) with h | h | h | h <;> subst h <;> simp [sg]
theorem sg_2 {a b m : Int} (m0 : 0 ≤ m) (m1 : m < 2) : sg a b 0 0 m = sg a 0 0 0 m ∧ sg a b 0 0 (m + 2) = sg a 0 0 0 m + b := by
  rcases (show m = 0 ∨ m = 1 by omega) with h | h <;> subst h <;> simp [sg]
theorem sg_m {a b c d e k : Int} (h : d ≤ e) : sg a b c d k ≤ sg a b c e k := by
  unfold sg
  by_cases h1 : k / 8 % 2 = 1
  · rw [if_pos h1, if_pos h1]; omega
  · rw [if_neg h1, if_neg h1]; omega
def Ind (B : Mm) (ind : Int → Int → Int → Int → Int) : Prop := ∀ a b c d, (Pt B a b c d ∧ ind a b c d = 1) ∨ (¬ Pt B a b c d ∧ ind a b c d = 0)
theorem e_c105 {B E0 : Mm} {ind : Int → Int → Int → Int → Int} {k v6 v7 v8 v9 a b l g : Int} (K : Int → Mm → Option (Int × Mm)) (hB : Hb B) (hi : Ind B ind) (k0 : 0 ≤ k) (k1 : k < 16) (hE : Ss B E0) (h9 : ∀ m, 0 ≤ m → m < 4 → E0 9 m = sg a b 0 0 m) (La : Lv B 0 1 (sg 0 0 0 0) a) (Lb : Lv B 1 2 (sg a 0 0 0) b) (lg : 0 ≤ l ∧ l ≤ 37 ∧ -36 ≤ g ∧ g ≤ 9) (hx : ∀ x, (l ≤ x ∧ x ≤ g) ↔ Lv B 2 4 (sg a b 0 0) x) (hr : Rc (fun a' b' c' d' => Pt B a' b' c' d' ∧ (a' < a ∨ (a' = a ∧ b' < b))) k E0) : ∃ E, f_Books_search_105 k v6 v7 v8 v9 g K zF l E0 = K (v9 + 1) E ∧ Ss B E ∧ (∀ m, 0 ≤ m → m < 4 → E 9 m = sg a b 0 0 m) ∧ E 6 4 = E0 6 4 + zsum (fun c => zsum (ind a b c) 10) 10 ∧ Rc (fun a' b' c' d' => Pt B a' b' c' d' ∧ (a' < a ∨ (a' = a ∧ b' < b + 1))) k E := by
  have F0 : ∀ c, ¬ (l ≤ c ∧ c ≤ g) → zsum (ind a b c) 10 = 0 := fun c hc => zsum_0 10 (fun d _ _ => by
    rcases hi a b c d with ⟨y, _⟩ | ⟨_, y⟩
    · exact absurd ((hx c).mpr y.2.2.1) hc
    · exact y)
  have he := (zmax_le (a := l) (b := g + 1) (x := zmax l (g + 1))).mp (Int.le_refl _)
  have hz : zmax l (g + 1) ≤ 37 := zmax_le.mpr ⟨by omega, by omega⟩
  have hlt : ∀ i, l ≤ i → i < zmax l (g + 1) → i ≤ g := fun i i0 i1 => by
    by_cases y : i ≤ g
    · exact y
    · have := (zmax_le (a := l) (b := g + 1) (x := i)).mpr ⟨i0, by omega⟩
      omega
  refine zup (fun n i E => f_Books_search_105 k v6 v7 v8 v9 g K n i E) (zmax l (g + 1)) (fun i E => l ≤ i ∧ Ss B E ∧ (∀ m, 0 ≤ m → m < 4 → E 9 m = sg a b 0 0 m) ∧ E 6 4 = E0 6 4 + zsum (fun c => zsum (ind a b c) 10) i.toNat ∧ Rc (fun a' b' c' d' => Pt B a' b' c' d' ∧ (a' < a ∨ (a' = a ∧ (b' < b ∨ (b' = b ∧ c' < i))))) k E) (fun o => ∃ E, o = K (v9 + 1) E ∧ Ss B E ∧ (∀ m, 0 ≤ m → m < 4 → E 9 m = sg a b 0 0 m) ∧ E 6 4 = E0 6 4 + zsum (fun c => zsum (ind a b c) 10) 10 ∧ Rc (fun a' b' c' d' => Pt B a' b' c' d' ∧ (a' < a ∨ (a' = a ∧ b' < b + 1))) k E) ?_ ?_ (zmax l (g + 1) - l).toNat zF l E0 rfl he.1 (zF_pos (by omega)) ⟨Int.le_refl _, hE, h9, ?_, ?_⟩
  · intro n E ⟨_, e1, e2, e3, e4⟩
    refine ⟨E, ?_, e1, e2, ?_, e4.cong (fun a' b' c' d' => ?_) rfl rfl⟩
    · show f_Books_search_105 k v6 v7 v8 v9 g K (n + 1) (zmax l (g + 1)) E = _
      rw [f_Books_search_105, if_pos ((zI_lt (by omega) (by omega) (by omega) (by omega)).mpr (by omega))]
    · rw [e3, zsum_end (m := 10) (fun c hc => F0 c (by omega)) (fun c hc => F0 c (by omega))]
    · constructor
      · intro ⟨y1, y2⟩; exact ⟨y1, by omega⟩
      · intro ⟨y1, y2⟩
        refine ⟨y1, ?_⟩
        by_cases u : a' = a ∧ b' = b
        · obtain ⟨u1, u2⟩ := u
          subst u1; subst u2
          have := (hx c').mpr y1.2.2.1
          omega
        · omega
  · intro n i E hi' ⟨i0, e1, e2, e3, e4⟩
    have ig := hlt i i0 hi'
    have Lc := (hx i).mp ⟨i0, ig⟩
    have nc : ¬ zI g < zI i := fun q => by have := (zI_lt (by omega) (by omega) (by omega) (by omega)).mp q; omega
    obtain ⟨A, A1, A2, A3⟩ := e_add (w := 4) (v := i) (by omega) E
    have sA : Ss B A := fun x j h1 h2 => by rw [A3 x j (by omega)]; exact e1 x j h1 h2
    have A9 : ∀ m, 0 ≤ m → m < 8 → A 9 m = sg a b i 0 m := fun m m0 m1 => by
      by_cases u : m < 4
      · rw [A3 9 m (by omega), e2 m m0 u, (sg_4 (c := i) m0 u).1]
      · have v := A2 (m - 4) (by omega) (by omega)
        have s := (sg_4 (a := a) (b := b) (c := i) (m := m - 4) (by omega) (by omega)).2
        rw [show m - 4 + 4 = m by omega] at v s
        rw [v, s, e2 _ (by omega) (by omega)]
    obtain ⟨l3, g3, d1, d2, d3, d4⟩ := e_dig (t := 3) (w := 8) hB sA (by omega) A9 La.1 La.2.1 Lb.1 Lb.2.1 Lc.1 Lc.2.1
    obtain ⟨G, G1, G2, G3, G4⟩ := e_note (l := l3) (g := g3) k0 k1 A9 La.1 La.2.1 Lb.1 Lb.2.1 Lc.1 Lc.2.1 d3.1 d3.2.1 d3.2.2.1 d3.2.2.2 (by rw [A3 6 5 (by omega)]; exact e4.1) (by rw [A3 6 6 (by omega)]; exact e4.2.1)
    have iff3 : ∀ d, Pt B a b i d ↔ (l3 ≤ d ∧ d ≤ g3) := fun d => ⟨fun y => (d4 d).mpr y.2.2.2, fun y => ⟨La, Lb, Lc, (d4 d).mp y⟩⟩
    have A4 : A 6 4 = E 6 4 := A3 _ _ (by omega)
    have A5 : A 6 5 = E 6 5 := A3 _ _ (by omega)
    have A6 : A 6 6 = E 6 6 := A3 _ _ (by omega)
    have iv : ∀ d, (l3 ≤ d ∧ d ≤ g3) → ind a b i d = 1 := fun d y => by
      rcases hi a b i d with ⟨_, z⟩ | ⟨z, _⟩
      · exact z
      · exact absurd ((iff3 d).mpr y) z
    have iw : ∀ d, ¬ (l3 ≤ d ∧ d ≤ g3) → ind a b i d = 0 := fun d y => by
      rcases hi a b i d with ⟨z, _⟩ | ⟨_, z⟩
      · exact absurd ((iff3 d).mp z) y
      · exact z
    refine ⟨G, ⟨by omega, fun x j h1 h2 => by rw [G4 x j h2]; exact sA x j h1 h2, fun m m0 m1 => by rw [G4 9 m (by omega), A3 9 m (by omega)]; exact e2 m m0 m1, ?_, ?_⟩, ?_⟩
    · rw [zsum_s _ (show 0 ≤ i by omega)]
      by_cases z : l3 ≤ g3
      · rw [(G2 z).1, A4, e3, zsum_rng d3.1 d3.2.2.2 z (fun d x y => iv d ⟨x, y⟩) iw]; omega
      · rw [(G3 z).1, A4, e3, zsum_0 10 (fun d _ _ => iw d (by omega))]; omega
    · by_cases z : l3 ≤ g3
      · obtain ⟨-, z5, z6⟩ := G2 z
        obtain ⟨r1, r2, r3, r4⟩ := e4
        have sl := sg_36 (m := k) La.1 La.2.1 Lb.1 Lb.2.1 Lc.1 Lc.2.1 (d := l3) (by omega) (by omega)
        have sr := sg_36 (m := k) La.1 La.2.1 Lb.1 Lb.2.1 Lc.1 Lc.2.1 (d := g3) (by omega) (by omega)
        have q1 := (le_zmin (a := E 6 5) (b := sg a b i l3 k) (x := zmin (E 6 5) (sg a b i l3 k))).mp (Int.le_refl _)
        have q2 := (zmax_le (a := E 6 6) (b := sg a b i g3 k) (x := zmax (E 6 6) (sg a b i g3 k))).mp (Int.le_refl _)
        have q3 := (le_zmin (a := E 6 5) (b := sg a b i l3 k) (x := 0)).mpr ⟨r1.1, sl.1⟩
        have q4 := (zmax_le (a := E 6 6) (b := sg a b i g3 k) (x := 36)).mpr ⟨r2.2, sr.2⟩
        rw [A5] at z5
        rw [A6] at z6
        unfold Rc
        rw [z5, z6]
        have newl : Pt B a b i l3 ∧ (a < a ∨ (a = a ∧ (b < b ∨ (b = b ∧ i < i + 1)))) := ⟨(iff3 l3).mpr ⟨by omega, z⟩, by omega⟩
        have newg : Pt B a b i g3 ∧ (a < a ∨ (a = a ∧ (b < b ∨ (b = b ∧ i < i + 1)))) := ⟨(iff3 g3).mpr ⟨z, by omega⟩, by omega⟩
        refine ⟨⟨q3, by omega⟩, ⟨by omega, q4⟩, fun a' b' c' d' ⟨y1, y2⟩ => ?_, Or.inr ⟨?_, ?_⟩⟩
        · by_cases u : a' = a ∧ b' = b ∧ c' = i
          · obtain ⟨u1, u2, u3⟩ := u
            subst u1; subst u2; subst u3
            obtain ⟨w1, w2⟩ := (iff3 d').mp y1
            have m1 := sg_m (a := a') (b := b') (c := c') (k := k) w1
            have m2 := sg_m (a := a') (b := b') (c := c') (k := k) w2
            omega
          · have := r3 a' b' c' d' ⟨y1, by omega⟩
            omega
        · by_cases u : sg a b i l3 k < E 6 5
          · refine ⟨a, b, i, l3, newl, ?_⟩
            unfold zmin; rw [if_pos u]
          · rcases r4 with y | ⟨⟨a', b', c', d', y1, y2⟩, _⟩
            · exact absurd (show sg a b i l3 k < E 6 5 by omega) u
            · refine ⟨a', b', c', d', ⟨y1.1, by omega⟩, ?_⟩
              unfold zmin; rw [if_neg u, y2]
        · by_cases u : E 6 6 < sg a b i g3 k
          · refine ⟨a, b, i, g3, newg, ?_⟩
            unfold zmax; rw [if_pos u]
          · rcases r4 with y | ⟨_, ⟨a', b', c', d', y1, y2⟩⟩
            · exact absurd (show E 6 6 < sg a b i g3 k by omega) u
            · refine ⟨a', b', c', d', ⟨y1.1, by omega⟩, ?_⟩
              unfold zmax; rw [if_neg u, y2]
      · obtain ⟨-, z5, z6⟩ := G3 z
        refine e4.cong (fun a' b' c' d' => ⟨fun ⟨y1, y2⟩ => ⟨y1, by omega⟩, fun ⟨y1, y2⟩ => ⟨y1, ?_⟩⟩) (by rw [z5, A5]) (by rw [z6, A6])
        by_cases u : a' = a ∧ b' = b ∧ c' = i
        · obtain ⟨u1, u2, u3⟩ := u
          subst u1; subst u2; subst u3
          have := (iff3 d').mp y1
          omega
        · omega
    · show f_Books_search_105 k v6 v7 v8 v9 g K (n + 1) i E = _
      have hA : f_Books_addStep 2 i E = some (0, A) := by
        unfold f_Books_addStep
        rw [show jshl 1 2 = 4 by decide +kernel]
        exact A1
      rw [f_Books_search_105, if_neg nc, hA, zb_some, d1, d2]
      simp only [Option.bind_some]
      rw [G1, zb_some]
  · rw [zsum_0 l.toNat (fun c c0 c1 => F0 c (by omega))]; omega
  · refine hr.cong (fun a' b' c' d' => ⟨fun ⟨y1, y2⟩ => ⟨y1, by omega⟩, fun ⟨y1, y2⟩ => ⟨y1, ?_⟩⟩) rfl rfl
    by_cases u : a' = a ∧ b' = b
    · obtain ⟨u1, u2⟩ := u
      subst u1; subst u2
      have := (hx c').mpr y1.2.2.1
      omega
    · omega

theorem e_c77 {B E0 : Mm} {ind : Int → Int → Int → Int → Int} {k v6 v7 a l g : Int} (K : Int → Mm → Option (Int × Mm)) (hB : Hb B) (hi : Ind B ind) (k0 : 0 ≤ k) (k1 : k < 16) (hE : Ss B E0) (h9 : ∀ m, 0 ≤ m → m < 2 → E0 9 m = sg a 0 0 0 m) (La : Lv B 0 1 (sg 0 0 0 0) a) (lg : 0 ≤ l ∧ l ≤ 37 ∧ -36 ≤ g ∧ g ≤ 9) (hx : ∀ x, (l ≤ x ∧ x ≤ g) ↔ Lv B 1 2 (sg a 0 0 0) x) (hr : Rc (fun a' b' c' d' => Pt B a' b' c' d' ∧ a' < a) k E0) : ∃ E, f_Books_search_77 k v6 v7 g K zF l E0 = K (v7 + 1) E ∧ Ss B E ∧ (∀ m, 0 ≤ m → m < 2 → E 9 m = sg a 0 0 0 m) ∧ E 6 4 = E0 6 4 + zsum (fun b => zsum (fun c => zsum (ind a b c) 10) 10) 10 ∧ Rc (fun a' b' c' d' => Pt B a' b' c' d' ∧ a' < a + 1) k E := by
  have F0 : ∀ b, ¬ (l ≤ b ∧ b ≤ g) → zsum (fun c => zsum (ind a b c) 10) 10 = 0 := fun b hb => zsum_0 10 (fun c _ _ => zsum_0 10 (fun d _ _ => by
    rcases hi a b c d with ⟨y, _⟩ | ⟨_, y⟩
    · exact absurd ((hx b).mpr y.2.1) hb
    · exact y))
  have he := (zmax_le (a := l) (b := g + 1) (x := zmax l (g + 1))).mp (Int.le_refl _)
  have hz : zmax l (g + 1) ≤ 37 := zmax_le.mpr ⟨by omega, by omega⟩
  have hlt : ∀ i, l ≤ i → i < zmax l (g + 1) → i ≤ g := fun i i0 i1 => by
    by_cases y : i ≤ g
    · exact y
    · have := (zmax_le (a := l) (b := g + 1) (x := i)).mpr ⟨i0, by omega⟩
      omega
  refine zup (fun n i E => f_Books_search_77 k v6 v7 g K n i E) (zmax l (g + 1)) (fun i E => l ≤ i ∧ Ss B E ∧ (∀ m, 0 ≤ m → m < 2 → E 9 m = sg a 0 0 0 m) ∧ E 6 4 = E0 6 4 + zsum (fun b => zsum (fun c => zsum (ind a b c) 10) 10) i.toNat ∧ Rc (fun a' b' c' d' => Pt B a' b' c' d' ∧ (a' < a ∨ (a' = a ∧ b' < i))) k E) (fun o => ∃ E, o = K (v7 + 1) E ∧ Ss B E ∧ (∀ m, 0 ≤ m → m < 2 → E 9 m = sg a 0 0 0 m) ∧ E 6 4 = E0 6 4 + zsum (fun b => zsum (fun c => zsum (ind a b c) 10) 10) 10 ∧ Rc (fun a' b' c' d' => Pt B a' b' c' d' ∧ a' < a + 1) k E) ?_ ?_ (zmax l (g + 1) - l).toNat zF l E0 rfl he.1 (zF_pos (by omega)) ⟨Int.le_refl _, hE, h9, ?_, ?_⟩
  · intro n E ⟨_, e1, e2, e3, e4⟩
    refine ⟨E, ?_, e1, e2, ?_, e4.cong (fun a' b' c' d' => ?_) rfl rfl⟩
    · show f_Books_search_77 k v6 v7 g K (n + 1) (zmax l (g + 1)) E = _
      rw [f_Books_search_77, if_pos ((zI_lt (by omega) (by omega) (by omega) (by omega)).mpr (by omega))]
    · rw [e3, zsum_end (m := 10) (fun b hb => F0 b (by omega)) (fun b hb => F0 b (by omega))]
    · constructor
      · intro ⟨y1, y2⟩; exact ⟨y1, by omega⟩
      · intro ⟨y1, y2⟩
        refine ⟨y1, ?_⟩
        by_cases u : a' = a
        · subst u
          have := (hx b').mpr y1.2.1
          omega
        · omega
  · intro n i E hi' ⟨i0, e1, e2, e3, e4⟩
    have ig := hlt i i0 hi'
    have Lb := (hx i).mp ⟨i0, ig⟩
    have nc : ¬ zI g < zI i := fun q => by have := (zI_lt (by omega) (by omega) (by omega) (by omega)).mp q; omega
    obtain ⟨A, A1, A2, A3⟩ := e_add (w := 2) (v := i) (by omega) E
    have sA : Ss B A := fun x j h1 h2 => by rw [A3 x j (by omega)]; exact e1 x j h1 h2
    have A9 : ∀ m, 0 ≤ m → m < 4 → A 9 m = sg a i 0 0 m := fun m m0 m1 => by
      by_cases u : m < 2
      · rw [A3 9 m (by omega), e2 m m0 u, (sg_2 (b := i) m0 u).1]
      · have v := A2 (m - 2) (by omega) (by omega)
        have s := (sg_2 (a := a) (b := i) (m := m - 2) (by omega) (by omega)).2
        rw [show m - 2 + 2 = m by omega] at v s
        rw [v, s, e2 _ (by omega) (by omega)]
    obtain ⟨l3, g3, d1, d2, d3, d4⟩ := e_dig (t := 2) (w := 4) (c := 0) hB sA (by omega) A9 La.1 La.2.1 Lb.1 Lb.2.1 (by decide) (by decide)
    obtain ⟨G, G1, G2, G3, G4, G5⟩ := e_c105 (v6 := v6) (v7 := v7) (v8 := g) (v9 := i) (f_Books_search_77 k v6 v7 g K n) hB hi k0 k1 sA A9 La Lb d3 d4 (e4.cong (fun _ _ _ _ => Iff.rfl) (A3 _ _ (by omega)) (A3 _ _ (by omega)))
    refine ⟨G, ⟨by omega, G2, fun m m0 m1 => by rw [G3 m m0 (by omega), (sg_2 m0 m1).1], ?_, G5⟩, ?_⟩
    · rw [G4, A3 _ _ (by omega), e3, zsum_s _ (show 0 ≤ i by omega)]; omega
    · show f_Books_search_77 k v6 v7 g K (n + 1) i E = _
      have hA : f_Books_addStep 1 i E = some (0, A) := by
        unfold f_Books_addStep
        rw [show jshl 1 1 = 2 by decide +kernel]
        exact A1
      rw [f_Books_search_77, if_neg nc, hA, zb_some, d2, d1]
      simp only [Option.bind_some]
      exact G1
  · rw [zsum_0 l.toNat (fun b b0 b1 => F0 b (by omega))]; omega
  · refine hr.cong (fun a' b' c' d' => ⟨fun ⟨y1, y2⟩ => ⟨y1, by omega⟩, fun ⟨y1, y2⟩ => ⟨y1, ?_⟩⟩) rfl rfl
    by_cases u : a' = a
    · subst u
      have := (hx b').mpr y1.2.1
      omega
    · omega
theorem e_c49 {B E0 : Mm} {ind : Int → Int → Int → Int → Int} {k l g : Int} (hB : Hb B) (hi : Ind B ind) (k0 : 0 ≤ k) (k1 : k < 16) (hE : Ss B E0) (h9 : E0 9 0 = 0) (lg : 0 ≤ l ∧ l ≤ 37 ∧ -36 ≤ g ∧ g ≤ 9) (hx : ∀ x, (l ≤ x ∧ x ≤ g) ↔ Lv B 0 1 (sg 0 0 0 0) x) (hr : Rc (fun _ _ _ _ => False) k E0) : ∃ E, f_Books_search_49 k g zF l E0 = zb (f_Books_noteFreeSteps k E) (fun _ D2 => some (0, D2)) ∧ Ss B E ∧ E 9 0 = 0 ∧ E 6 4 = E0 6 4 + zsum (fun a => zsum (fun b => zsum (fun c => zsum (ind a b c) 10) 10) 10) 10 ∧ Rc (Pt B) k E := by
  have F0 : ∀ a, ¬ (l ≤ a ∧ a ≤ g) → zsum (fun b => zsum (fun c => zsum (ind a b c) 10) 10) 10 = 0 := fun a ha => zsum_0 10 (fun b _ _ => zsum_0 10 (fun c _ _ => zsum_0 10 (fun d _ _ => by
    rcases hi a b c d with ⟨y, _⟩ | ⟨_, y⟩
    · exact absurd ((hx a).mpr y.1) ha
    · exact y)))
  have he := (zmax_le (a := l) (b := g + 1) (x := zmax l (g + 1))).mp (Int.le_refl _)
  have hz : zmax l (g + 1) ≤ 37 := zmax_le.mpr ⟨by omega, by omega⟩
  have hlt : ∀ i, l ≤ i → i < zmax l (g + 1) → i ≤ g := fun i i0 i1 => by
    by_cases y : i ≤ g
    · exact y
    · have := (zmax_le (a := l) (b := g + 1) (x := i)).mpr ⟨i0, by omega⟩
      omega
  refine zup (fun n i E => f_Books_search_49 k g n i E) (zmax l (g + 1)) (fun i E => l ≤ i ∧ Ss B E ∧ E 9 0 = 0 ∧ E 6 4 = E0 6 4 + zsum (fun a => zsum (fun b => zsum (fun c => zsum (ind a b c) 10) 10) 10) i.toNat ∧ Rc (fun a' b' c' d' => Pt B a' b' c' d' ∧ a' < i) k E) (fun o => ∃ E, o = zb (f_Books_noteFreeSteps k E) (fun _ D2 => some (0, D2)) ∧ Ss B E ∧ E 9 0 = 0 ∧ E 6 4 = E0 6 4 + zsum (fun a => zsum (fun b => zsum (fun c => zsum (ind a b c) 10) 10) 10) 10 ∧ Rc (Pt B) k E) ?_ ?_ (zmax l (g + 1) - l).toNat zF l E0 rfl he.1 (zF_pos (by omega)) ⟨Int.le_refl _, hE, h9, ?_, ?_⟩
  · intro n E ⟨_, e1, e2, e3, e4⟩
    refine ⟨E, ?_, e1, e2, ?_, e4.cong (fun a' b' c' d' => ?_) rfl rfl⟩
    · show f_Books_search_49 k g (n + 1) (zmax l (g + 1)) E = _
      rw [f_Books_search_49, if_pos ((zI_lt (by omega) (by omega) (by omega) (by omega)).mpr (by omega))]
    · rw [e3, zsum_end (m := 10) (fun b hb => F0 b (by omega)) (fun b hb => F0 b (by omega))]
    · constructor
      · intro ⟨y1, y2⟩; exact y1
      · intro y1
        have := (hx a').mpr y1.1
        exact ⟨y1, by omega⟩
  · intro n i E hi' ⟨i0, e1, e2, e3, e4⟩
    have ig := hlt i i0 hi'
    have La := (hx i).mp ⟨i0, ig⟩
    have nc : ¬ zI g < zI i := fun q => by have := (zI_lt (by omega) (by omega) (by omega) (by omega)).mp q; omega
    obtain ⟨A, A1, A2, A3⟩ := e_add (w := 1) (v := i) (by omega) E
    have sA : Ss B A := fun x j h1 h2 => by rw [A3 x j (by omega)]; exact e1 x j h1 h2
    have A9 : ∀ m, 0 ≤ m → m < 2 → A 9 m = sg i 0 0 0 m := fun m m0 m1 => by
      rcases (show m = 0 ∨ m = 1 by omega) with u | u <;> subst u
      · rw [A3 9 0 (by omega), e2]; simp [sg]
      · have v := A2 0 (by decide) (by decide)
        rw [show (0 : Int) + 1 = 1 by decide] at v
        rw [v, e2]; simp [sg]
    obtain ⟨l3, g3, d1, d2, d3, d4⟩ := e_dig (t := 1) (w := 2) (b := 0) (c := 0) hB sA (by omega) A9 La.1 La.2.1 (by decide) (by decide) (by decide) (by decide)
    obtain ⟨G, G1, G2, G3, G4, G5⟩ := e_c77 (v6 := g) (v7 := i) (f_Books_search_49 k g n) hB hi k0 k1 sA A9 La d3 d4 (e4.cong (fun _ _ _ _ => Iff.rfl) (A3 _ _ (by omega)) (A3 _ _ (by omega)))
    refine ⟨G, ⟨by omega, G2, by rw [G3 0 (by decide) (by decide)]; simp [sg], ?_, G5⟩, ?_⟩
    · rw [G4, A3 _ _ (by omega), e3, zsum_s _ (show 0 ≤ i by omega)]; omega
    · show f_Books_search_49 k g (n + 1) i E = _
      have hA : f_Books_addStep 0 i E = some (0, A) := by
        unfold f_Books_addStep
        rw [show jshl 1 0 = 1 by decide +kernel]
        exact A1
      rw [f_Books_search_49, if_neg nc, hA, zb_some, d2, d1]
      simp only [Option.bind_some]
      exact G1
  · rw [zsum_0 l.toNat (fun b b0 b1 => F0 b (by omega))]; omega
  · refine hr.cong (fun a' b' c' d' => ⟨fun y => y.elim, fun ⟨y1, y2⟩ => ?_⟩) rfl rfl
    have := (hx a').mpr y1.1
    omega

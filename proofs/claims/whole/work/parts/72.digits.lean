def sg (a b c d m : Int) : Int := (if m % 2 = 1 then a else 0) + (if m / 2 % 2 = 1 then b else 0) + (if m / 4 % 2 = 1 then c else 0) + (if m / 8 % 2 = 1 then d else 0)
theorem m16 {m : Int} (h0 : 0 ≤ m) (h1 : m < 16) : m = 0 ∨ m = 1 ∨ m = 2 ∨ m = 3 ∨ m = 4 ∨ m = 5 ∨ m = 6 ∨ m = 7 ∨ m = 8 ∨ m = 9 ∨ m = 10 ∨ m = 11 ∨ m = 12 ∨ m = 13 ∨ m = 14 ∨ m = 15 := by omega
theorem bc4_e {m : Int} (h0 : 0 ≤ m) (h1 : m < 16) : bc4 m = sg 1 1 1 1 m := by
  have h : (List.range 16).all (fun m => decide (bc4 (m : Int) = sg 1 1 1 1 (m : Int))) = true := by decide +kernel
  have a := of_decide_eq_true (List.all_eq_true.mp h m.toNat (List.mem_range.mpr (by omega)))
  rw [show ((m.toNat : Nat) : Int) = m by omega] at a
  exact a
theorem sg_b {a b c d m : Int} (a0 : 0 ≤ a) (a1 : a ≤ 9) (b0 : 0 ≤ b) (b1 : b ≤ 9) (c0 : 0 ≤ c) (c1 : c ≤ 9) (d0 : 0 ≤ d) (d1 : d ≤ 9) : 0 ≤ sg a b c d m ∧ sg a b c d m ≤ 9 * sg 1 1 1 1 m := by
  unfold sg
  by_cases h1 : m % 2 = 1 <;> by_cases h2 : m / 2 % 2 = 1 <;> by_cases h3 : m / 4 % 2 = 1 <;> by_cases h4 : m / 8 % 2 = 1 <;> simp only [h1, h2, h3, h4, if_true, if_false] <;> omega
theorem sg_36 {a b c d m : Int} (a0 : 0 ≤ a) (a1 : a ≤ 9) (b0 : 0 ≤ b) (b1 : b ≤ 9) (c0 : 0 ≤ c) (c1 : c ≤ 9) (d0 : 0 ≤ d) (d1 : d ≤ 9) : 0 ≤ sg a b c d m ∧ sg a b c d m ≤ 36 := by
  have h := sg_b (m := m) a0 a1 b0 b1 c0 c1 d0 d1
  have h2 : sg 1 1 1 1 m ≤ 4 := by
    unfold sg
    by_cases h1 : m % 2 = 1 <;> by_cases h2 : m / 2 % 2 = 1 <;> by_cases h3 : m / 4 % 2 = 1 <;> by_cases h4 : m / 8 % 2 = 1 <;> simp only [h1, h2, h3, h4, if_true, if_false] <;> omega
  omega
theorem jor_w {w i : Int} (hw : w = 1 ∨ w = 2 ∨ w = 4 ∨ w = 8) (i0 : 0 ≤ i) (i1 : i < w) : jor i w = i + w := by
  rcases hw with h | h | h | h <;> subst h
  · rcases (show i = 0 by omega) with h; subst h; decide +kernel
  · rcases (show i = 0 ∨ i = 1 by omega) with h | h <;> subst h <;> decide +kernel
  · rcases (show i = 0 ∨ i = 1 ∨ i = 2 ∨ i = 3 by omega) with h | h | h | h <;> subst h <;> decide +kernel
  · rcases (show i = 0 ∨ i = 1 ∨ i = 2 ∨ i = 3 ∨ i = 4 ∨ i = 5 ∨ i = 6 ∨ i = 7 by omega) with h | h | h | h | h | h | h | h <;> subst h <;> decide +kernel
theorem e_add {w v : Int} (hw : w = 1 ∨ w = 2 ∨ w = 4) (D : Mm) : ∃ E, f_Books_addStep_7 v w zF 0 D = some (0, E) ∧ (∀ m, 0 ≤ m → m < w → E 9 (m + w) = D 9 m + v) ∧ ∀ x j, ¬ (x = 9 ∧ w ≤ j ∧ j < 2 * w) → E x j = D x j := by
  refine zup (fun n i E => f_Books_addStep_7 v w n i E) w (fun i E => 0 ≤ i ∧ (∀ m, 0 ≤ m → m < i → E 9 (m + w) = D 9 m + v) ∧ ∀ x j, ¬ (x = 9 ∧ w ≤ j ∧ j < i + w) → E x j = D x j) (fun o => ∃ E, o = some (0, E) ∧ (∀ m, 0 ≤ m → m < w → E 9 (m + w) = D 9 m + v) ∧ ∀ x j, ¬ (x = 9 ∧ w ≤ j ∧ j < 2 * w) → E x j = D x j) ?_ ?_ (w - 0).toNat zF 0 D rfl (by omega) (zF_pos (by omega)) ⟨by decide, fun m m0 m1 => by omega, fun x j _ => rfl⟩
  · intro n E ⟨_, e1, e2⟩
    refine ⟨E, ?_, e1, fun x j h => e2 x j (by omega)⟩
    show f_Books_addStep_7 v w (n + 1) w E = _
    rw [f_Books_addStep_7, if_pos (Int32.le_refl _)]
  · intro n i E hi ⟨i0, e1, e2⟩
    refine ⟨stm E 9 (i + w) (E 9 i + v), ⟨by omega, fun m m0 m1 => ?_, fun x j h => by rw [stm_ne (by omega)]; exact e2 x j (by omega)⟩, ?_⟩
    · by_cases e : m = i
      · rw [e, stm_eq ⟨rfl, rfl⟩, e2 9 i (by omega)]
      · rw [stm_ne (by omega)]; exact e1 m m0 (by omega)
    · show f_Books_addStep_7 v w (n + 1) i E = _
      rw [f_Books_addStep_7, if_neg (fun q => by have := (zI_le (by omega) (by omega) (by omega) (by omega)).mp q; omega), jor_w (by omega) i0 hi, if_pos (show 0 ≤ i ∧ i < 16 by omega), if_pos (show 0 ≤ i + w ∧ i + w < 16 by omega)]
      rfl
theorem e_least {D : Mm} {w : Int} (hw : w = 1 ∨ w = 2 ∨ w = 4 ∨ w = 8) (h7 : ∀ m, 0 ≤ m → m < 16 → 0 ≤ D 7 m ∧ D 7 m ≤ 37) (h9 : ∀ m, 0 ≤ m → m < w → 0 ≤ D 9 m ∧ D 9 m ≤ 36) : ∃ r, f_Books_leastOf_9 w D zF 0 0 = some r ∧ ∀ x, r ≤ x ↔ 0 ≤ x ∧ ∀ m, 0 ≤ m → m < w → D 7 (m + w) - D 9 m ≤ x := by
  refine zup (fun n i v => f_Books_leastOf_9 w D n v i) w (fun i r => 0 ≤ i ∧ (0 ≤ r ∧ r ≤ 37) ∧ ∀ x, r ≤ x ↔ 0 ≤ x ∧ ∀ m, 0 ≤ m → m < i → D 7 (m + w) - D 9 m ≤ x) (fun o => ∃ r, o = some r ∧ ∀ x, r ≤ x ↔ 0 ≤ x ∧ ∀ m, 0 ≤ m → m < w → D 7 (m + w) - D 9 m ≤ x) ?_ ?_ (w - 0).toNat zF 0 0 rfl (by omega) (zF_pos (by omega)) ⟨by decide, by decide, fun x => ⟨fun y => ⟨y, fun m m0 m1 => by omega⟩, fun y => y.1⟩⟩
  · intro n r ⟨_, _, e⟩
    refine ⟨r, ?_, e⟩
    show f_Books_leastOf_9 w D (n + 1) r w = _
    rw [f_Books_leastOf_9, if_pos (Int32.le_refl _)]
  · intro n i r hi ⟨i0, hr, e⟩
    have a1 := h7 (i + w) (by omega) (by omega)
    have a2 := h9 i i0 hi
    have z1 := (zmax_le (a := r) (b := D 7 (i + w) - D 9 i) (x := zmax r (D 7 (i + w) - D 9 i))).mp (Int.le_refl _)
    have z2 := (zmax_le (a := r) (b := D 7 (i + w) - D 9 i) (x := 37)).mpr ⟨by omega, by omega⟩
    refine ⟨zmax r (D 7 (i + w) - D 9 i), ⟨by omega, ⟨by omega, z2⟩, fun x => ?_⟩, ?_⟩
    · rw [zmax_le, e x]
      constructor
      · intro ⟨⟨y1, y2⟩, y3⟩
        refine ⟨y1, fun m m0 m1 => ?_⟩
        by_cases u : m = i
        · rw [u]; exact y3
        · exact y2 m m0 (by omega)
      · intro ⟨y1, y2⟩
        exact ⟨⟨y1, fun m m0 m1 => y2 m m0 (by omega)⟩, y2 i i0 (by omega)⟩
    · show f_Books_leastOf_9 w D (n + 1) r i = _
      rw [f_Books_leastOf_9, if_neg (fun q => by have := (zI_le (by omega) (by omega) (by omega) (by omega)).mp q; omega), jor_w hw i0 hi, if_pos (show 0 ≤ i + w ∧ i + w < 16 by omega), if_pos (show 0 ≤ i ∧ i < 16 by omega), e_max ⟨by omega, by omega⟩ ⟨by omega, by omega⟩]
      rfl
theorem e_great {D : Mm} {w : Int} (hw : w = 1 ∨ w = 2 ∨ w = 4 ∨ w = 8) (h8 : ∀ m, 0 ≤ m → m < 16 → 0 ≤ D 8 m ∧ D 8 m ≤ 36) (h9 : ∀ m, 0 ≤ m → m < w → 0 ≤ D 9 m ∧ D 9 m ≤ 36) : ∃ r, f_Books_greatestOf_20 w D zF 9 0 = some r ∧ ∀ x, x ≤ r ↔ x ≤ 9 ∧ ∀ m, 0 ≤ m → m < w → x ≤ D 8 (m + w) - D 9 m := by
  refine zup (fun n i v => f_Books_greatestOf_20 w D n v i) w (fun i r => 0 ≤ i ∧ (-36 ≤ r ∧ r ≤ 9) ∧ ∀ x, x ≤ r ↔ x ≤ 9 ∧ ∀ m, 0 ≤ m → m < i → x ≤ D 8 (m + w) - D 9 m) (fun o => ∃ r, o = some r ∧ ∀ x, x ≤ r ↔ x ≤ 9 ∧ ∀ m, 0 ≤ m → m < w → x ≤ D 8 (m + w) - D 9 m) ?_ ?_ (w - 0).toNat zF 0 9 rfl (by omega) (zF_pos (by omega)) ⟨by decide, by decide, fun x => ⟨fun y => ⟨y, fun m m0 m1 => by omega⟩, fun y => y.1⟩⟩
  · intro n r ⟨_, _, e⟩
    refine ⟨r, ?_, e⟩
    show f_Books_greatestOf_20 w D (n + 1) r w = _
    rw [f_Books_greatestOf_20, if_pos (Int32.le_refl _)]
  · intro n i r hi ⟨i0, hr, e⟩
    have a1 := h8 (i + w) (by omega) (by omega)
    have a2 := h9 i i0 hi
    have z1 := (le_zmin (a := r) (b := D 8 (i + w) - D 9 i) (x := zmin r (D 8 (i + w) - D 9 i))).mp (Int.le_refl _)
    have z2 := (le_zmin (a := r) (b := D 8 (i + w) - D 9 i) (x := -36)).mpr ⟨by omega, by omega⟩
    refine ⟨zmin r (D 8 (i + w) - D 9 i), ⟨by omega, ⟨z2, by omega⟩, fun x => ?_⟩, ?_⟩
    · rw [le_zmin, e x]
      constructor
      · intro ⟨⟨y1, y2⟩, y3⟩
        refine ⟨y1, fun m m0 m1 => ?_⟩
        by_cases u : m = i
        · rw [u]; exact y3
        · exact y2 m m0 (by omega)
      · intro ⟨y1, y2⟩
        exact ⟨⟨y1, fun m m0 m1 => y2 m m0 (by omega)⟩, y2 i i0 (by omega)⟩
    · show f_Books_greatestOf_20 w D (n + 1) r i = _
      rw [f_Books_greatestOf_20, if_neg (fun q => by have := (zI_le (by omega) (by omega) (by omega) (by omega)).mp q; omega), jor_w hw i0 hi, if_pos (show 0 ≤ i + w ∧ i + w < 16 by omega), if_pos (show 0 ≤ i ∧ i < 16 by omega), e_min ⟨by omega, by omega⟩ ⟨by omega, by omega⟩]
      rfl
theorem e_free (D : Mm) (t : Int) : f_Books_isFree t D = some (if bitz (D 6 3) t = 1 then 0 else 1) := by
  unfold f_Books_isFree
  show (if zI (bitz (D 6 3) t) = 0 then some (1 : Int) else some 0) = _
  rcases bitz_01 (D 6 3) t with h | h <;> rw [h] <;> rfl
-- the range of one digit
theorem e_rng {D : Mm} {t w : Int} (ht : (t = 0 ∧ w = 1) ∨ (t = 1 ∧ w = 2) ∨ (t = 2 ∧ w = 4) ∨ (t = 3 ∧ w = 8)) (h7 : ∀ m, 0 ≤ m → m < 16 → 0 ≤ D 7 m ∧ D 7 m ≤ 37) (h8 : ∀ m, 0 ≤ m → m < 16 → 0 ≤ D 8 m ∧ D 8 m ≤ 36) (h9 : ∀ m, 0 ≤ m → m < w → 0 ≤ D 9 m ∧ D 9 m ≤ 36) (hf : ¬ bitz (D 6 3) t = 1 → ∀ m, 0 ≤ m → m < w → D 7 (m + w) = 0 ∧ D 9 m ≤ D 8 (m + w)) : ∃ l g, f_Books_leastOf t D = some l ∧ f_Books_greatestOf t D = some g ∧ (0 ≤ l ∧ l ≤ 37 ∧ -36 ≤ g ∧ g ≤ 9) ∧ ∀ x, (l ≤ x ∧ x ≤ g) ↔ (0 ≤ x ∧ x ≤ 9 ∧ (¬ bitz (D 6 3) t = 1 → x = 0) ∧ ∀ m, 0 ≤ m → m < w → D 7 (m + w) ≤ D 9 m + x ∧ D 9 m + x ≤ D 8 (m + w)) := by
  have hw : w = 1 ∨ w = 2 ∨ w = 4 ∨ w = 8 := by omega
  have hj : jshl 1 t = w := by
    rcases ht with ⟨h1, h2⟩ | ⟨h1, h2⟩ | ⟨h1, h2⟩ | ⟨h1, h2⟩ <;> subst h1 <;> subst h2 <;> decide +kernel
  obtain ⟨l, l1, l2⟩ := e_least hw h7 h9
  obtain ⟨g, g1, g2⟩ := e_great hw h8 h9
  have bl : 0 ≤ l ∧ l ≤ 37 := ⟨((l2 l).mp (Int.le_refl _)).1, (l2 37).mpr ⟨by decide, fun m m0 m1 => by have := h7 (m + w) (by omega) (by omega); have := h9 m m0 m1; omega⟩⟩
  have bg : -36 ≤ g ∧ g ≤ 9 := ⟨(g2 (-36)).mpr ⟨by decide, fun m m0 m1 => by have := h8 (m + w) (by omega) (by omega); have := h9 m m0 m1; omega⟩, ((g2 g).mp (Int.le_refl _)).1⟩
  have cl : f_Books_leastOf t D = some l := by unfold f_Books_leastOf; rw [hj]; exact l1
  by_cases z : bitz (D 6 3) t = 1
  · refine ⟨l, g, cl, ?_, ⟨bl.1, bl.2, bg⟩, fun x => ?_⟩
    · unfold f_Books_greatestOf
      rw [e_free, if_pos z, hj]
      exact g1
    · rw [l2 x, g2 x]
      constructor
      · intro ⟨⟨y1, y2⟩, y3, y4⟩
        exact ⟨y1, y3, fun y => absurd z y, fun m m0 m1 => by have := y2 m m0 m1; have := y4 m m0 m1; omega⟩
      · intro ⟨y1, y2, _, y3⟩
        exact ⟨⟨y1, fun m m0 m1 => by have := y3 m m0 m1; omega⟩, y2, fun m m0 m1 => by have := y3 m m0 m1; omega⟩
  · refine ⟨l, 0, cl, ?_, ⟨bl.1, bl.2, by decide, by decide⟩, fun x => ?_⟩
    · unfold f_Books_greatestOf
      rw [e_free, if_neg z]
      rfl
    · rw [l2 x]
      constructor
      · intro ⟨⟨y1, y2⟩, y3⟩
        exact ⟨y1, by omega, fun _ => by omega, fun m m0 m1 => by have := hf z m m0 m1; have := h9 m m0 m1; omega⟩
      · intro ⟨y1, y2, y3, y4⟩
        exact ⟨⟨y1, fun m m0 m1 => by have := y4 m m0 m1; omega⟩, by have := y3 z; omega⟩

theorem k_idx {k : Int} (k0 : 0 ≤ k) (k1 : k < 16) : jand k (jxor 8 (-1)) = k % 8 ∧ (zI (jand k 8) = 0 ↔ k < 8) := by
  have h : (List.range 16).all (fun k => decide (jand (k : Int) (jxor 8 (-1)) = (k : Int) % 8 ∧ (zI (jand (k : Int) 8) = 0 ↔ (k : Int) < 8))) = true := by decide +kernel
  have a := of_decide_eq_true (List.all_eq_true.mp h k.toNat (List.mem_range.mpr (by omega)))
  rw [show ((k.toNat : Nat) : Int) = k by omega] at a
  exact a
theorem sg_8 {a b c d k : Int} (k0 : 0 ≤ k) (k1 : k < 16) : sg a b c d k = sg a b c 0 (k % 8) + (if k < 8 then 0 else d) := by
  rcases m16 k0 k1 with h | h | h | h | h | h | h | h | h | h | h | h | h | h | h | h <;> subst h <;> simp [sg]
theorem e_note {E : Mm} {a b c l g k : Int} (k0 : 0 ≤ k) (k1 : k < 16) (h9 : ∀ m, 0 ≤ m → m < 8 → E 9 m = sg a b c 0 m) (a0 : 0 ≤ a) (a1 : a ≤ 9) (b0 : 0 ≤ b) (b1 : b ≤ 9) (c0 : 0 ≤ c) (c1 : c ≤ 9) (l0 : 0 ≤ l) (l1 : l ≤ 37) (g0 : -36 ≤ g) (g1 : g ≤ 9) (e5 : 0 ≤ E 6 5 ∧ E 6 5 ≤ 37) (e6 : -1 ≤ E 6 6 ∧ E 6 6 ≤ 36) : ∃ G, f_Books_noteRange l g k E = some (0, G) ∧ (l ≤ g → G 6 4 = E 6 4 + (g - l + 1) ∧ G 6 5 = zmin (E 6 5) (sg a b c l k) ∧ G 6 6 = zmax (E 6 6) (sg a b c g k)) ∧ (¬ l ≤ g → G 6 4 = E 6 4 ∧ G 6 5 = E 6 5 ∧ G 6 6 = E 6 6) ∧ ∀ x j, ¬ (x = 6 ∧ 4 ≤ j ∧ j ≤ 6) → G x j = E x j := by
  obtain ⟨i1, i2⟩ := k_idx k0 k1
  unfold f_Books_noteRange
  by_cases z : l ≤ g
  · rw [if_pos ((zI_le (by omega) (by omega) (by omega) (by omega)).mpr z)]
    simp only [zst]
    generalize hF : stm E 6 4 (E 6 4 + ((g - l) + 1)) = F
    have F4 : F 6 4 = E 6 4 + (g - l + 1) := by rw [← hF, stm_eq ⟨rfl, rfl⟩]
    have Fo : ∀ x j, ¬ (x = 6 ∧ j = 4) → F x j = E x j := fun x j h => by rw [← hF, stm_ne (by omega)]
    have F5 := Fo 6 5 (by omega)
    have F6 := Fo 6 6 (by omega)
    have F9 : F 9 (k % 8) = sg a b c 0 (k % 8) := by rw [Fo _ _ (by omega)]; exact h9 _ (by omega) (by omega)
    have gk : 0 ≤ k % 8 ∧ k % 8 < 16 := by omega
    have sb := sg_36 (m := k % 8) a0 a1 b0 b1 c0 c1 (d := 0) (by decide) (by decide)
    have fin : ∀ u v : Int, -100 ≤ u → u ≤ 100 → -100 ≤ v → v ≤ 100 → u = sg a b c l k → v = sg a b c g k → ∃ G, (some (0, stm (stm F 6 5 (zmin (E 6 5) u)) 6 6 (zmax (E 6 6) v)) : Option (Int × Mm)) = some (0, G) ∧ (l ≤ g → G 6 4 = E 6 4 + (g - l + 1) ∧ G 6 5 = zmin (E 6 5) (sg a b c l k) ∧ G 6 6 = zmax (E 6 6) (sg a b c g k)) ∧ (¬ l ≤ g → G 6 4 = E 6 4 ∧ G 6 5 = E 6 5 ∧ G 6 6 = E 6 6) ∧ ∀ x j, ¬ (x = 6 ∧ 4 ≤ j ∧ j ≤ 6) → G x j = E x j := by
      intro u v _ _ _ _ hu hv
      refine ⟨_, rfl, fun _ => ⟨?_, ?_, ?_⟩, fun y => absurd z y, fun x j h => ?_⟩
      · rw [stm_ne (by omega), stm_ne (by omega), F4]
      · rw [stm_ne (by omega), stm_eq ⟨rfl, rfl⟩, hu]
      · rw [stm_eq ⟨rfl, rfl⟩, hv]
      · rw [stm_ne (by omega), stm_ne (by omega), Fo _ _ (by omega)]
    by_cases y : k < 8
    · rw [if_pos (i2.mpr y)]
      unfold f_Books_noteRange_36
      rw [i1, if_pos gk, if_pos (show zI 0 = 0 by decide +kernel), F9, F5]
      unfold f_Books_noteRange_70
      rw [e_min ⟨by omega, by omega⟩ ⟨by omega, by omega⟩]
      simp only [Option.bind_some, zst]
      rw [if_pos (show zI 0 = 0 by decide +kernel), stm_ne (show (6 : Int) ≠ 6 ∨ (6 : Int) ≠ 5 by omega), F6]
      unfold f_Books_noteRange_95
      rw [e_max ⟨by omega, by omega⟩ ⟨by omega, by omega⟩]
      simp only [Option.bind_some, zst]
      exact fin _ _ (by omega) (by omega) (by omega) (by omega) (by rw [sg_8 k0 k1, if_pos y]; omega) (by rw [sg_8 k0 k1, if_pos y]; omega)
    · rw [if_neg (fun q => y (i2.mp q))]
      unfold f_Books_noteRange_36
      rw [i1, if_pos gk, if_neg n10, F9, F5]
      unfold f_Books_noteRange_70
      rw [e_min ⟨by omega, by omega⟩ ⟨by omega, by omega⟩]
      simp only [Option.bind_some, zst]
      rw [if_neg n10, stm_ne (show (6 : Int) ≠ 6 ∨ (6 : Int) ≠ 5 by omega), F6]
      unfold f_Books_noteRange_95
      rw [e_max ⟨by omega, by omega⟩ ⟨by omega, by omega⟩]
      simp only [Option.bind_some, zst]
      exact fin _ _ (by omega) (by omega) (by omega) (by omega) (by rw [sg_8 k0 k1 (d := l), if_neg y]) (by rw [sg_8 k0 k1 (d := g), if_neg y])
  · rw [if_neg (fun q => z ((zI_le (by omega) (by omega) (by omega) (by omega)).mp q))]
    exact ⟨E, rfl, fun y => absurd y z, fun _ => ⟨rfl, rfl, rfl⟩, fun x j _ => rfl⟩
-- sums that end early or begin late
theorem zsum_pad {F : Int → Int} {n : Nat} (h : ∀ k : Int, (n : Int) ≤ k → F k = 0) : ∀ j : Nat, zsum F (n + j) = zsum F n := by
  intro j
  induction j with
  | zero => rfl
  | succ j ih =>
    show zsum F (n + j) + F ((n + j : Nat) : Int) = _
    rw [ih, h _ (by omega)]
    omega
theorem zsum_end {F : Int → Int} {n m : Nat} (h : ∀ k : Int, (n : Int) ≤ k → F k = 0) (h2 : ∀ k : Int, (m : Int) ≤ k → F k = 0) : zsum F n = zsum F m := by
  have a := zsum_pad h m
  have b := zsum_pad h2 n
  rw [Nat.add_comm] at b
  omega
theorem zsum_rng {F : Int → Int} {l g : Int} (l0 : 0 ≤ l) (g1 : g ≤ 9) (hl : l ≤ g) (h1 : ∀ k, l ≤ k → k ≤ g → F k = 1) (h0 : ∀ k, ¬ (l ≤ k ∧ k ≤ g) → F k = 0) : zsum F 10 = g - l + 1 := by
  have e : zsum F 10 = F 0 + F 1 + F 2 + F 3 + F 4 + F 5 + F 6 + F 7 + F 8 + F 9 := by
    show 0 + F 0 + F 1 + F 2 + F 3 + F 4 + F 5 + F 6 + F 7 + F 8 + F 9 = _
    omega
  have v : ∀ k : Int, F k = if l ≤ k ∧ k ≤ g then 1 else 0 := fun k => by
    by_cases y : l ≤ k ∧ k ≤ g
    · rw [if_pos y, h1 k y.1 y.2]
    · rw [if_neg y, h0 k y]
  rw [e, v 0, v 1, v 2, v 3, v 4, v 5, v 6, v 7, v 8, v 9]
  rcases (show l = 0 ∨ l = 1 ∨ l = 2 ∨ l = 3 ∨ l = 4 ∨ l = 5 ∨ l = 6 ∨ l = 7 ∨ l = 8 ∨ l = 9 by omega) with h | h | h | h | h | h | h | h | h | h <;> rcases (show g = 0 ∨ g = 1 ∨ g = 2 ∨ g = 3 ∨ g = 4 ∨ g = 5 ∨ g = 6 ∨ g = 7 ∨ g = 8 ∨ g = 9 by omega) with j | j | j | j | j | j | j | j | j | j <;> subst h <;> subst j <;> first | decide | omega

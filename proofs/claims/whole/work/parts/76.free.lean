def fr (B : Mm) (t x : Int) : Int := if bitz (B 6 3) t = 1 then x else 0
def Fu (B : Mm) (a b c d : Int) : Prop := (0 ≤ a ∧ a ≤ 9 ∧ 0 ≤ b ∧ b ≤ 9 ∧ 0 ≤ c ∧ c ≤ 9 ∧ 0 ≤ d ∧ d ≤ 9) ∧ ∀ m, 1 ≤ m → m < 16 → B 7 m ≤ sg a b c d m ∧ sg a b c d m ≤ B 8 m
theorem sg_1 {a b c d : Int} {m : Int} (m0 : 0 ≤ m) (m1 : m < 1) : sg a b c d (m + 1) = sg 0 0 0 0 m + a := by
  have : m = 0 := by omega
  subst this
  simp [sg]
theorem sg_22 {a b c d : Int} {m : Int} (m0 : 0 ≤ m) (m1 : m < 2) : sg a b c d (m + 2) = sg a 0 0 0 m + b := by
  rcases (show m = 0 ∨ m = 1 by omega) with h | h <;> subst h <;> simp [sg]
theorem sg_44 {a b c d : Int} {m : Int} (m0 : 0 ≤ m) (m1 : m < 4) : sg a b c d (m + 4) = sg a b 0 0 m + c := by
  rcases (show m = 0 ∨ m = 1 ∨ m = 2 ∨ m = 3 by omega) with h | h | h | h <;> subst h <;> simp [sg]
theorem sg_88 {a b c d : Int} {m : Int} (m0 : 0 ≤ m) (m1 : m < 8) : sg a b c d (m + 8) = sg a b c 0 m + d := by
  rcases (show m = 0 ∨ m = 1 ∨ m = 2 ∨ m = 3 ∨ m = 4 ∨ m = 5 ∨ m = 6 ∨ m = 7 by omega) with h | h | h | h | h | h | h | h <;> subst h <;> simp [sg]
theorem Pt_Fu {B : Mm} {a b c d : Int} : Pt B a b c d ↔ Fu B a b c d ∧ (¬ bitz (B 6 3) 0 = 1 → a = 0) ∧ (¬ bitz (B 6 3) 1 = 1 → b = 0) ∧ (¬ bitz (B 6 3) 2 = 1 → c = 0) ∧ (¬ bitz (B 6 3) 3 = 1 → d = 0) := by
  unfold Pt Lv Fu
  constructor
  · intro ⟨⟨a0, a1, a2, a3⟩, ⟨b0, b1, b2, b3⟩, ⟨c0, c1, c2, c3⟩, ⟨d0, d1, d2, d3⟩⟩
    refine ⟨⟨⟨a0, a1, b0, b1, c0, c1, d0, d1⟩, fun m m0 m1 => ?_⟩, a2, b2, c2, d2⟩
    by_cases h8 : 8 ≤ m
    · have x := d3 (m - 8) (by omega) (by omega)
      rw [← sg_88 (d := d) (by omega) (by omega), show m - 8 + 8 = m by omega] at x
      exact x
    · by_cases h4 : 4 ≤ m
      · have x := c3 (m - 4) (by omega) (by omega)
        rw [← sg_44 (d := d) (by omega) (by omega), show m - 4 + 4 = m by omega] at x
        exact x
      · by_cases h2 : 2 ≤ m
        · have x := b3 (m - 2) (by omega) (by omega)
          rw [← sg_22 (c := c) (d := d) (by omega) (by omega), show m - 2 + 2 = m by omega] at x
          exact x
        · have x := a3 (m - 1) (by omega) (by omega)
          rw [← sg_1 (b := b) (c := c) (d := d) (by omega) (by omega), show m - 1 + 1 = m by omega] at x
          exact x
  · intro ⟨⟨⟨a0, a1, b0, b1, c0, c1, d0, d1⟩, h⟩, a2, b2, c2, d2⟩
    refine ⟨⟨a0, a1, a2, fun m m0 m1 => ?_⟩, ⟨b0, b1, b2, fun m m0 m1 => ?_⟩, ⟨c0, c1, c2, fun m m0 m1 => ?_⟩, ⟨d0, d1, d2, fun m m0 m1 => ?_⟩⟩
    · rw [← sg_1 (b := b) (c := c) (d := d) m0 m1]; exact h _ (by omega) (by omega)
    · rw [← sg_22 (c := c) (d := d) m0 m1]; exact h _ (by omega) (by omega)
    · rw [← sg_44 (d := d) m0 m1]; exact h _ (by omega) (by omega)
    · rw [← sg_88 (d := d) m0 m1]; exact h _ (by omega) (by omega)
-- a bound whose mask has a free digit says nothing
theorem bit_mod {m : Int} (m0 : 0 ≤ m) (m1 : m < 16) : (bitz m 0 = 1 ↔ m % 2 = 1) ∧ (bitz m 1 = 1 ↔ m / 2 % 2 = 1) ∧ (bitz m 2 = 1 ↔ m / 4 % 2 = 1) ∧ (bitz m 3 = 1 ↔ m / 8 % 2 = 1) := by
  have h : (List.range 16).all (fun m => decide ((bitz (m : Int) 0 = 1 ↔ (m : Int) % 2 = 1) ∧ (bitz (m : Int) 1 = 1 ↔ (m : Int) / 2 % 2 = 1) ∧ (bitz (m : Int) 2 = 1 ↔ (m : Int) / 4 % 2 = 1) ∧ (bitz (m : Int) 3 = 1 ↔ (m : Int) / 8 % 2 = 1))) = true := by decide +kernel
  have a := of_decide_eq_true (List.all_eq_true.mp h m.toNat (List.mem_range.mpr (by omega)))
  rw [show ((m.toNat : Nat) : Int) = m by omega] at a
  exact a
theorem fr_b {B : Mm} {t x : Int} (h0 : 0 ≤ x) (h1 : x ≤ 9) : 0 ≤ fr B t x ∧ fr B t x ≤ 9 ∧ fr B t x ≤ x := by
  unfold fr
  split <;> omega
theorem Fu_fr {B : Mm} (hB : Hb B) {a b c d : Int} (a0 : 0 ≤ a) (a1 : a ≤ 9) (b0 : 0 ≤ b) (b1 : b ≤ 9) (c0 : 0 ≤ c) (c1 : c ≤ 9) (d0 : 0 ≤ d) (d1 : d ≤ 9) : Fu B a b c d ↔ Pt B (fr B 0 a) (fr B 1 b) (fr B 2 c) (fr B 3 d) := by
  have ra := fr_b (B := B) (t := 0) a0 a1
  have rb := fr_b (B := B) (t := 1) b0 b1
  have rc := fr_b (B := B) (t := 2) c0 c1
  have rd := fr_b (B := B) (t := 3) d0 d1
  have key : ∀ m, 1 ≤ m → m < 16 → ((B 7 m ≤ sg a b c d m ∧ sg a b c d m ≤ B 8 m) ↔ (B 7 m ≤ sg (fr B 0 a) (fr B 1 b) (fr B 2 c) (fr B 3 d) m ∧ sg (fr B 0 a) (fr B 1 b) (fr B 2 c) (fr B 3 d) m ≤ B 8 m)) := by
    intro m m0 m1
    have s1 := sg_b (m := m) a0 a1 b0 b1 c0 c1 d0 d1
    have s2 := sg_b (m := m) ra.1 ra.2.1 rb.1 rb.2.1 rc.1 rc.2.1 rd.1 rd.2.1
    rw [← bc4_e (by omega) m1] at s1 s2
    obtain ⟨p0, p1, p2, p3⟩ := bit_mod (m := m) (by omega) m1
    have triv : ∀ t, 0 ≤ t → t < 4 → ¬ bitz (B 6 3) t = 1 → bitz m t = 1 → ((B 7 m ≤ sg a b c d m ∧ sg a b c d m ≤ B 8 m) ↔ (B 7 m ≤ sg (fr B 0 a) (fr B 1 b) (fr B 2 c) (fr B 3 d) m ∧ sg (fr B 0 a) (fr B 1 b) (fr B 2 c) (fr B 3 d) m ≤ B 8 m)) := fun t t0 t1 y z => by
      obtain ⟨v1, v2⟩ := hB.2 t m t0 t1 y (by omega) m1 z
      exact ⟨fun _ => ⟨by omega, by omega⟩, fun _ => ⟨by omega, by omega⟩⟩
    by_cases q0 : ¬ bitz (B 6 3) 0 = 1 ∧ bitz m 0 = 1
    · exact triv 0 (by decide) (by decide) q0.1 q0.2
    · by_cases q1 : ¬ bitz (B 6 3) 1 = 1 ∧ bitz m 1 = 1
      · exact triv 1 (by decide) (by decide) q1.1 q1.2
      · by_cases q2 : ¬ bitz (B 6 3) 2 = 1 ∧ bitz m 2 = 1
        · exact triv 2 (by decide) (by decide) q2.1 q2.2
        · by_cases q3 : ¬ bitz (B 6 3) 3 = 1 ∧ bitz m 3 = 1
          · exact triv 3 (by decide) (by decide) q3.1 q3.2
          · have one : ∀ (t x : Int) (p : Prop) [Decidable p], (bitz m t = 1 ↔ p) → ¬ (¬ bitz (B 6 3) t = 1 ∧ bitz m t = 1) → (if p then fr B t x else 0) = if p then x else 0 := fun t x p _ e n => by
              by_cases y : p
              · rw [if_pos y, if_pos y]
                unfold fr
                by_cases z : bitz (B 6 3) t = 1
                · rw [if_pos z]
                · exact absurd ⟨z, e.mpr y⟩ n
              · rw [if_neg y, if_neg y]
            have e : sg (fr B 0 a) (fr B 1 b) (fr B 2 c) (fr B 3 d) m = sg a b c d m := by
              unfold sg
              rw [one 0 a _ p0 q0, one 1 b _ p1 q1, one 2 c _ p2 q2, one 3 d _ p3 q3]
            rw [e]
  rw [Pt_Fu]
  unfold Fu
  constructor
  · intro ⟨_, h⟩
    refine ⟨⟨⟨ra.1, ra.2.1, rb.1, rb.2.1, rc.1, rc.2.1, rd.1, rd.2.1⟩, fun m m0 m1 => (key m m0 m1).mp (h m m0 m1)⟩, fun y => if_neg y, fun y => if_neg y, fun y => if_neg y, fun y => if_neg y⟩
  · intro ⟨⟨_, h⟩, _⟩
    exact ⟨⟨a0, a1, b0, b1, c0, c1, d0, d1⟩, fun m m0 m1 => (key m m0 m1).mpr (h m m0 m1)⟩

-- balls of a relation on 0 .. n-1
def Bl (n : Int) (R : Int → Int → Prop) (s : Int) : Nat → Int → Prop
  | 0, x => x = s
  | r + 1, x => ∃ y, Bl n R s r y ∧ R y x ∧ 0 ≤ x ∧ x < n
theorem Bl_in {n : Int} {R : Int → Int → Prop} {s x : Int} (s0 : 0 ≤ s) (s1 : s < n) : ∀ {r : Nat}, Bl n R s r x → 0 ≤ x ∧ x < n := by
  intro r h
  cases r with
  | zero => have h : x = s := h; omega
  | succ r => obtain ⟨y, -, -, h1, h2⟩ := h; exact ⟨h1, h2⟩
theorem Bl_up {n : Int} {R : Int → Int → Prop} {s x : Int} (hr : ∀ a, 0 ≤ a → a < n → R a a) (s0 : 0 ≤ s) (s1 : s < n) {r : Nat} (h : Bl n R s r x) : Bl n R s (r + 1) x := by
  obtain ⟨x0, x1⟩ := Bl_in s0 s1 h
  exact ⟨x, h, hr x x0 x1, x0, x1⟩
theorem Bl_mono {n : Int} {R : Int → Int → Prop} {s x : Int} (hr : ∀ a, 0 ≤ a → a < n → R a a) (s0 : 0 ≤ s) (s1 : s < n) {r : Nat} (h : Bl n R s r x) : ∀ k : Nat, Bl n R s (r + k) x := by
  intro k
  induction k with
  | zero => exact h
  | succ k ih => exact Bl_up hr s0 s1 ih
theorem Bl_mono2 {n : Int} {R : Int → Int → Prop} {s x : Int} (hr : ∀ a, 0 ≤ a → a < n → R a a) (s0 : 0 ≤ s) (s1 : s < n) {r k : Nat} (hk : r ≤ k) (h : Bl n R s r x) : Bl n R s k x := by
  have := Bl_mono hr s0 s1 h (k - r)
  rw [show r + (k - r) = k by omega] at this
  exact this
theorem Bl_first {n : Int} {R : Int → Int → Prop} {s : Int} : ∀ (r : Nat) (x : Int), Bl n R s (r + 1) x → ∃ y, R s y ∧ 0 ≤ y ∧ y < n ∧ Bl n R y r x := by
  intro r
  induction r with
  | zero =>
    intro x h
    obtain ⟨y, h1, h2, h3, h4⟩ := h
    have h1 : y = s := h1
    subst h1
    exact ⟨x, h2, h3, h4, rfl⟩
  | succ r ih =>
    intro x h
    obtain ⟨z, h1, h2, h3, h4⟩ := h
    obtain ⟨y, y1, y2, y3, y4⟩ := ih z h1
    exact ⟨y, y1, y2, y3, z, y4, h2, h3, h4⟩
theorem Bl_tsrif {n : Int} {R : Int → Int → Prop} {s y : Int} (hR : R s y) (y0 : 0 ≤ y) (y1 : y < n) : ∀ (r : Nat) (x : Int), Bl n R y r x → Bl n R s (r + 1) x := by
  intro r
  induction r with
  | zero =>
    intro x h
    have h : x = y := h
    subst h
    exact ⟨s, rfl, hR, y0, y1⟩
  | succ r ih =>
    intro x h
    obtain ⟨z, h1, h2, h3, h4⟩ := h
    exact ⟨z, ih z h1, h2, h3, h4⟩
theorem Bl_stop {n : Int} {R : Int → Int → Prop} {s : Int} {j : Nat} (h : ∀ x, Bl n R s (j + 1) x → Bl n R s j x) : ∀ (k : Nat) (x : Int), Bl n R s (j + k) x → Bl n R s j x := by
  intro k
  induction k with
  | zero => intro x hx; exact hx
  | succ k ih =>
    intro x hx
    obtain ⟨y, h1, h2, h3, h4⟩ := hx
    exact h x ⟨y, ih y h1, h2, h3, h4⟩
theorem Bl_grow {n : Int} {R : Int → Int → Prop} {s : Int} (hr : ∀ a, 0 ≤ a → a < n → R a a) (s0 : 0 ≤ s) (s1 : s < n) : ∀ r : Nat, (∃ j, j ≤ r ∧ ∀ x, Bl n R s (j + 1) x → Bl n R s j x) ∨ ∃ f : Int → Int, (∀ x, f x = 0 ∨ (f x = 1 ∧ Bl n R s r x)) ∧ (r : Int) + 1 ≤ zsum f n.toNat := by
  intro r
  induction r with
  | zero =>
    right
    refine ⟨fun x => if x = s then 1 else 0, fun x => ?_, ?_⟩
    · by_cases h : x = s
      · exact Or.inr ⟨if_pos h, h⟩
      · exact Or.inl (if_neg h)
    · have h0 : zsum (fun _ => (0 : Int)) n.toNat = 0 := zsum_0 _ (fun _ _ _ => rfl)
      have := zsum_upd (f := fun _ => (0 : Int)) (g := fun x => if x = s then 1 else 0) (k := s) (x := 1) n.toNat s0 (by omega) (fun j hj => if_neg hj) (if_pos rfl)
      omega
  | succ r ih =>
    rcases ih with ⟨j, j1, j2⟩ | ⟨f, f1, f2⟩
    · exact Or.inl ⟨j, by omega, j2⟩
    · by_cases h : ∀ x, Bl n R s (r + 1) x → Bl n R s r x
      · exact Or.inl ⟨r, by omega, h⟩
      · right
        have ⟨x, hx⟩ := Classical.not_forall.mp h
        have hx1 : Bl n R s (r + 1) x := Classical.byContradiction (fun q => hx (fun y => absurd y q))
        have hx2 : ¬ Bl n R s r x := fun q => hx (fun _ => q)
        obtain ⟨x0, x1⟩ := Bl_in s0 s1 hx1
        have fx : f x = 0 := by
          rcases f1 x with y | y
          · exact y
          · exact absurd y.2 hx2
        refine ⟨fun y => if y = x then 1 else f y, fun y => ?_, ?_⟩
        · by_cases hy : y = x
          · right
            exact ⟨if_pos hy, by rw [hy]; exact hx1⟩
          · rcases f1 y with z | z
            · exact Or.inl (by show (if y = x then (1 : Int) else f y) = 0; rw [if_neg hy, z])
            · exact Or.inr ⟨by show (if y = x then (1 : Int) else f y) = 1; rw [if_neg hy, z.1], Bl_up hr s0 s1 z.2⟩
        · have := zsum_upd (f := f) (g := fun y => if y = x then 1 else f y) (k := x) (x := 1) n.toNat x0 (by omega) (fun j hj => if_neg hj) (by show (if x = x then (1 : Int) else f x) = f x + 1; rw [if_pos rfl, fx]; rfl)
          omega
theorem Bl_cap {n : Int} {R : Int → Int → Prop} {s : Int} (hr : ∀ a, 0 ≤ a → a < n → R a a) (s0 : 0 ≤ s) (s1 : s < n) {r : Nat} {x : Int} (h : Bl n R s r x) : Bl n R s (n - 1).toNat x := by
  rcases Bl_grow hr s0 s1 (n - 1).toNat with ⟨j, j1, j2⟩ | ⟨f, f1, f2⟩
  · exact Bl_mono2 hr s0 s1 j1 (Bl_stop j2 r x (Bl_mono2 hr s0 s1 (by omega) h))
  · obtain ⟨x0, x1⟩ := Bl_in s0 s1 h
    rcases f1 x with z | z
    · exfalso
      have u := zsum_upd (f := f) (g := fun y => if y = x then 1 else f y) (k := x) (x := 1) n.toNat x0 (by omega) (fun j hj => if_neg hj) (by show (if x = x then (1 : Int) else f x) = f x + 1; rw [if_pos rfl, z]; rfl)
      have b := zsum_b (f := fun y => if y = x then 1 else f y) (M := 1) (by decide) n.toNat (fun k _ _ => by
        show 0 ≤ (if k = x then (1 : Int) else f k) ∧ (if k = x then (1 : Int) else f k) ≤ 1
        by_cases hk : k = x
        · rw [if_pos hk]; decide
        · rw [if_neg hk]
          rcases f1 k with w | w
          · omega
          · omega)
      omega
    · exact z.2
-- the class's sets
theorem bitz_or {x y g : Int} (x0 : 0 ≤ x) (x1 : x < 64) (y0 : 0 ≤ y) (y1 : y < 64) (g0 : 0 ≤ g) (g1 : g < 32) : 0 ≤ jor x y ∧ jor x y < 64 ∧ (bitz (jor x y) g = 1 ↔ bitz x g = 1 ∨ bitz y g = 1) := by
  have h : x.toNat ||| y.toNat < 2 ^ 6 := Nat.or_lt_two_pow (by omega) (by omega)
  have e := jor_nn x0 y0 (by omega)
  rw [e]
  refine ⟨by omega, by omega, ?_⟩
  rw [bitz_tb (by omega) (by omega) g0 g1, bitz_tb x0 (by omega) g0 g1, bitz_tb y0 (by omega) g0 g1, Int.toNat_natCast, Nat.testBit_or]
  cases x.toNat.testBit g.toNat <;> cases y.toNat.testBit g.toNat <;> decide
theorem ntz_all : (List.range 64).all (fun x => (List.range 6).all (fun g => decide ((x : Nat) = 0 ∨ (∃ t : Fin 6, f_Integer_numberOfTrailingZeros (x : Int) (fun _ _ => 0) = some ((t.val : Nat) : Int) ∧ bitz (x : Int) ((t.val : Nat) : Int) = 1 ∧ (bitz (x : Int) (g : Int) = 1 → t.val ≤ g))))) = true := by decide +kernel

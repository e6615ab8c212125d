def Bk0 (a i : Int) : Prop := (a = 146 ∧ i = 0) ∨ (a = 148 ∧ i = 0) ∨ (a = 147 ∧ 0 ≤ i ∧ i < 24) ∨ (149 ≤ a ∧ a ≤ 152 ∧ 0 ≤ i ∧ i < 10) ∨ (a = 153 ∧ 0 ≤ i ∧ i < 60) ∨ (a = 154 ∧ 0 ≤ i ∧ i < 24) ∨ (155 ≤ a ∧ a ≤ 157 ∧ 0 ≤ i ∧ i < 4) ∨ (a = 158 ∧ 0 ≤ i ∧ i < 36)
theorem stm_ne {D : Mm} {a i x b j : Int} (h : b ≠ a ∨ j ≠ i) : stm D a i x b j = D b j := by
  unfold stm
  rw [if_neg (by omega)]
theorem stm_eq {D : Mm} {a i x b j : Int} (h : b = a ∧ j = i) : stm D a i x b j = x := by
  unfold stm
  rw [if_pos h]
theorem TX.cong {D E : Mm} (h : TX D) (h1 : E 2 1 = D 2 1) (h2 : ∀ i, E 3 i = D 3 i) (h3 : E 144 0 = D 144 0) (h4 : ∀ i, E 145 i = D 145 i) : TX E := by
  obtain ⟨a, b, c, d⟩ := h
  refine ⟨by omega, by omega, by omega, fun k k0 k1 => ?_⟩
  rw [h2, h4]
  exact d k k0 (by omega)
theorem QL.cong {D E : Mm} {q : Int} (h : QL D q) (hc : ∀ a i, q ≤ a → a ≤ q + 36 → E a i = D a i) (hm : ∀ a i, Bk0 a i → E a i = D a i) : QL E q := by
  obtain ⟨a1, a2, a3, a4, a5, a6, a7, a8, a9, a10⟩ := h
  have q0 : ∀ i, E q i = D q i := fun i => hc q i (by omega) (by omega)
  refine ⟨?_, ?_, fun s w x1 x2 x3 x4 => ?_, fun f x1 x2 => ?_, fun f s x1 x2 x3 x4 => ?_, fun t s x1 x2 x3 x4 => ?_, fun t x1 x2 => ?_, ?_, fun s t x1 x2 x3 x4 => ?_, fun s x1 x2 => ?_⟩
  · rw [q0, hm 146 0 (by unfold Bk0; omega)]; exact a1
  · rw [q0, hm 148 0 (by unfold Bk0; omega)]; exact a2
  · rw [q0] at x2
    rw [hm 147 _ (by unfold Bk0; omega), hc _ _ (by omega) (by omega)]
    exact a3 s w x1 x2 x3 x4
  · rw [q0] at x2
    rw [hm 149 _ (by unfold Bk0; omega), hm 150 _ (by unfold Bk0; omega), hm 151 _ (by unfold Bk0; omega), hm 152 _ (by unfold Bk0; omega), hc (q + 8) _ (by omega) (by omega), hc (q + 9) _ (by omega) (by omega), hc (q + 10) _ (by omega) (by omega), hc (q + 11) _ (by omega) (by omega)]
    exact a4 f x1 x2
  · rw [hm 153 _ (by unfold Bk0; omega), hc _ _ (by omega) (by omega)]
    exact a5 f s x1 x2 x3 x4
  · rw [hm 154 _ (by unfold Bk0; omega), hc _ _ (by omega) (by omega)]
    exact a6 t s x1 x2 x3 x4
  · rw [hm 155 _ (by unfold Bk0; omega), hm 156 _ (by unfold Bk0; omega), hm 157 _ (by unfold Bk0; omega), hc (q + 28) _ (by omega) (by omega), hc (q + 29) _ (by omega) (by omega), q0]
    exact a7 t x1 x2
  · rw [q0]; exact a8
  · rw [hm 158 _ (by unfold Bk0; omega), hc _ _ (by omega) (by omega)]
    exact a9 s t x1 x2 x3 x4
  · rw [hc _ _ (by omega) (by omega)]
    exact a10 s x1 x2
theorem zsum_cong {f g : Int → Int} : ∀ n : Nat, (∀ k : Int, 0 ≤ k → k < n → f k = g k) → zsum f n = zsum g n := by
  intro n
  induction n with
  | zero => intro _; rfl
  | succ n ih =>
    intro h
    show zsum f n + f n = zsum g n + g n
    rw [ih (fun k h0 h1 => h k h0 (by omega)), h n (by omega) (by omega)]
theorem FL.cong {D E : Mm} {p : Int} (h : FL D p) (hc : ∀ a i, 12 ≤ a → a ≤ 30 → E a i = D a i) (h159 : ∀ i, 0 ≤ i → i < 60 → E 159 i = D 159 i) (h160 : ∀ i, 0 ≤ i → i < 10 → E 160 i = D 160 i) (h161 : ∀ i, 0 ≤ i → i < 36 → E 161 i = D 161 i) (h162 : E 162 0 = D 162 0) : FL E p := by
  obtain ⟨a1, a2, a3, a4, a5, a6⟩ := h
  refine ⟨fun f s x1 x2 x3 x4 => ?_, ?_, fun f x1 x2 => ?_, fun s t x1 x2 x3 x4 => ?_, ?_, ?_⟩
  · rw [h159 _ (by omega) (by omega), hc _ _ (by omega) (by omega)]; exact a1 f s x1 x2 x3 x4
  · rw [hc _ _ (by omega) (by omega)]; exact a2
  · rw [h160 _ (by omega) (by omega), hc _ _ (by omega) (by omega)]; exact a3 f x1 x2
  · rw [h161 _ (by omega) (by omega), hc _ _ (by omega) (by omega), hc 12 3 (by omega) (by omega)]; exact a4 s t x1 x2 x3 x4
  · rw [hc 12 3 (by omega) (by omega), zsum_cong 36 (fun k h0 h1 => h161 k h0 (by omega))]; exact a5
  · rw [h162, hc 12 4 (by omega) (by omega)]; exact a6
theorem FK.cong {D E : Mm} {a o p : Int} (h : FK D a o p) (hc : ∀ b i, a ≤ b → b ≤ a + 18 → E b i = D b i) (h159 : ∀ i, 60 * o ≤ i → i < 60 * o + 60 → E 159 i = D 159 i) (h160 : ∀ i, 10 * o ≤ i → i < 10 * o + 10 → E 160 i = D 160 i) (h161 : ∀ i, 36 * o ≤ i → i < 36 * o + 36 → E 161 i = D 161 i) (h162 : E 162 o = D 162 o) : FK E a o p := by
  obtain ⟨a1, a2, a3, a4, a5, a6⟩ := h
  refine ⟨fun f s x1 x2 x3 x4 => ?_, ?_, fun f x1 x2 => ?_, fun s t x1 x2 x3 x4 => ?_, ?_, ?_⟩
  · rw [h159 _ (by omega) (by omega), hc _ _ (by omega) (by omega)]; exact a1 f s x1 x2 x3 x4
  · rw [hc _ _ (by omega) (by omega)]; exact a2
  · rw [h160 _ (by omega) (by omega), hc _ _ (by omega) (by omega)]; exact a3 f x1 x2
  · rw [h161 _ (by omega) (by omega), hc _ _ (by omega) (by omega), hc a 3 (by omega) (by omega)]; exact a4 s t x1 x2 x3 x4
  · rw [hc a 3 (by omega) (by omega), zsum_cong 36 (fun k h0 h1 => h161 (36 * o + k) (by omega) (by omega))]; exact a5
  · rw [h162, hc a 4 (by omega) (by omega)]; exact a6
-- what the invariant looks at
def Rel (q a i : Int) : Prop := (a = 1 ∧ 6 ≤ i ∧ i ≤ 8) ∨ (a = 9 ∧ i = 0) ∨ a = 2 ∨ a = 3 ∨ (12 ≤ a ∧ a ≤ 30) ∨ (106 ≤ a ∧ a ≤ 143) ∨ (q ≤ a ∧ a ≤ q + 36) ∨ (a = 144 ∧ (i = 0 ∨ i = 19)) ∨ a = 145 ∨ Bk0 a i ∨ (159 ≤ a ∧ a ≤ 162)
theorem Iv.cong {D E : Mm} (h : Iv D) (hr : ∀ a i, Rel (D 1 7) a i → E a i = D a i) : Iv E := by
  have hq := h.q
  obtain ⟨h1, h2, h3, h4, h5, h6⟩ := h
  have e17 : E 1 7 = D 1 7 := hr 1 7 (by unfold Rel; omega)
  have e18 : E 1 8 = D 1 8 := hr 1 8 (by unfold Rel; omega)
  have e16 : E 1 6 = D 1 6 := hr 1 6 (by unfold Rel; omega)
  have eq1 : E (D 1 7) 1 = D (D 1 7) 1 := hr _ _ (by unfold Rel; omega)
  refine ⟨h1.cong (hr _ _ (by unfold Rel; omega)) (fun i => hr _ _ (by unfold Rel; omega)) (hr _ _ (by unfold Rel; omega)) (fun i => hr _ _ (by unfold Rel; omega)), ?_, ?_, ?_, ?_, ?_⟩
  · rw [e17, e18]; exact h2
  · rw [e17]; exact h3.cong (fun a i x y => hr a i (by unfold Rel; omega)) (fun a i x => hr a i (by unfold Rel; simp [x]))
  · rw [e17, eq1]; exact h4.cong (fun a i x y => hr a i (by unfold Rel; omega)) (fun i _ _ => hr _ _ (by unfold Rel; omega)) (fun i _ _ => hr _ _ (by unfold Rel; omega)) (fun i _ _ => hr _ _ (by unfold Rel; omega)) (hr _ _ (by unfold Rel; omega))
  · rw [e16, hr 144 19 (by unfold Rel; omega), hr 9 0 (by unfold Rel; omega)]; exact h5
  · rw [e16, e17, eq1]
    intro i i0 i1
    exact (h6 i i0 i1).cong (fun a i x y => hr a i (by unfold Rel; omega)) (fun i _ _ => hr _ _ (by unfold Rel; omega)) (fun i _ _ => hr _ _ (by unfold Rel; omega)) (fun i _ _ => hr _ _ (by unfold Rel; omega)) (hr _ _ (by unfold Rel; omega))

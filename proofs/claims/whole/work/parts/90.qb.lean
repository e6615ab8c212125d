/-! what both readers have told so far: the spare quern (class) against the book-1 halves (model) -/
def B1 (C M : Mm) (q : Int) : Prop := 0 ≤ C q 0 ∧ C q 0 ≤ 6 ∧ M 146 1 = C q 0
def B2 (C M : Mm) (q : Int) : Prop := 0 ≤ C q 1 ∧ C q 1 ≤ 10 ∧ M 148 1 = C q 1
def B3 (C M : Mm) (q : Int) : Prop := ∀ s w, 0 ≤ s → s < C q 0 → 0 ≤ w → w < 4 → M 147 (24 + (4 * s + w)) = C (q + 2 + s) w ∧ 0 ≤ C (q + 2 + s) w ∧ C (q + 2 + s) w ≤ 100
def B4 (C M : Mm) (q : Int) : Prop := ∀ f, 0 ≤ f → f < C q 1 → (M 149 (10 + f) = C (q + 8) f ∧ 0 ≤ C (q + 8) f ∧ C (q + 8) f ≤ 7) ∧ (M 150 (10 + f) = C (q + 9) f ∧ 0 ≤ C (q + 9) f ∧ C (q + 9) f ≤ 3) ∧ (M 151 (10 + f) = C (q + 10) f ∧ 1 ≤ C (q + 10) f ∧ C (q + 10) f ≤ 9) ∧ (M 152 (10 + f) = C (q + 11) f ∧ 0 ≤ C (q + 11) f ∧ C (q + 11) f ≤ 15)
def B5 (C M : Mm) (q : Int) : Prop := ∀ f s, 0 ≤ f → f < 10 → 0 ≤ s → s < 6 → M 153 (60 + (6 * f + s)) = C (q + 13 + f) s ∧ 0 ≤ C (q + 13 + f) s ∧ C (q + 13 + f) s ≤ 60
def B6 (C M : Mm) (q : Int) : Prop := ∀ t s, 0 ≤ t → t < 4 → 0 ≤ s → s < 6 → M 154 (24 + (6 * t + s)) = C (q + 24 + t) s ∧ 0 ≤ C (q + 24 + t) s ∧ C (q + 24 + t) s ≤ 9
def B7 (C M : Mm) (q : Int) : Prop := ∀ t, 0 ≤ t → t < 4 → M 155 (4 + t) = C (q + 28) t ∧ 0 ≤ C (q + 28) t ∧ C (q + 28) t ≤ 99
def B8 (C M : Mm) (q : Int) : Prop := ∀ t, 0 ≤ t → t < 4 → M 156 (4 + t) = C (q + 29) t ∧ 0 ≤ C (q + 29) t ∧ C (q + 29) t ≤ 99
def B9 (C M : Mm) (q : Int) : Prop := (0 ≤ C q 11 ∧ C q 11 ≤ 15) ∧ ∀ t, 0 ≤ t → t < 4 → M 157 (4 + t) = bitz (C q 11) t
def B10 (C M : Mm) (q : Int) : Prop := (∀ s t, 0 ≤ s → s < 6 → 0 ≤ t → t < 6 → M 158 (36 + (6 * s + t)) = C (q + 31 + s) t ∧ 0 ≤ C (q + 31 + s) t ∧ C (q + 31 + s) t ≤ 99) ∧ (∀ s, 0 ≤ s → s < 6 → C (q + 31 + s) s = 0) ∧ ∀ s t, 0 ≤ s → s < 6 → C q 0 ≤ t → t < 6 → C (q + 31 + s) t = 0
def QB (C M : Mm) (q : Int) : Prop := B1 C M q ∧ B2 C M q ∧ B3 C M q ∧ B4 C M q ∧ B5 C M q ∧ B6 C M q ∧ B7 C M q ∧ B8 C M q ∧ B9 C M q ∧ B10 C M q
theorem B1.c {C M C' M' : Mm} {q : Int} (h : B1 C M q) (e : C' q 0 = C q 0) (m : M' 146 1 = M 146 1) : B1 C' M' q := by
  unfold B1 at *; rw [e, m]; exact h
theorem B2.c {C M C' M' : Mm} {q : Int} (h : B2 C M q) (e : C' q 1 = C q 1) (m : M' 148 1 = M 148 1) : B2 C' M' q := by
  unfold B2 at *; rw [e, m]; exact h
theorem B3.c {C M C' M' : Mm} {q : Int} (h : B3 C M q) (h1 : C q 0 ≤ 6) (e : C' q 0 = C q 0) (hc : ∀ s w, 0 ≤ s → s < 6 → C' (q + 2 + s) w = C (q + 2 + s) w) (m : ∀ j, 24 ≤ j → M' 147 j = M 147 j) : B3 C' M' q := by
  intro s w x1 x2 x3 x4
  rw [e] at x2
  rw [hc s w x1 (by omega), m _ (by omega)]
  exact h s w x1 x2 x3 x4
theorem B4.c {C M C' M' : Mm} {q : Int} (h : B4 C M q) (h1 : C q 1 ≤ 10) (e : C' q 1 = C q 1) (hc : ∀ a f, q + 8 ≤ a → a ≤ q + 11 → C' a f = C a f) (m : ∀ a j, 149 ≤ a → a ≤ 152 → 10 ≤ j → M' a j = M a j) : B4 C' M' q := by
  intro f x1 x2
  rw [e] at x2
  rw [hc (q + 8) f (by omega) (by omega), hc (q + 9) f (by omega) (by omega), hc (q + 10) f (by omega) (by omega), hc (q + 11) f (by omega) (by omega), m 149 _ (by omega) (by omega) (by omega), m 150 _ (by omega) (by omega) (by omega), m 151 _ (by omega) (by omega) (by omega), m 152 _ (by omega) (by omega) (by omega)]
  exact h f x1 x2
theorem B5.c {C M C' M' : Mm} {q : Int} (h : B5 C M q) (hc : ∀ f s, 0 ≤ f → f < 10 → C' (q + 13 + f) s = C (q + 13 + f) s) (m : ∀ j, 60 ≤ j → M' 153 j = M 153 j) : B5 C' M' q := by
  intro f s x1 x2 x3 x4
  rw [hc f s x1 x2, m _ (by omega)]
  exact h f s x1 x2 x3 x4
theorem B6.c {C M C' M' : Mm} {q : Int} (h : B6 C M q) (hc : ∀ f s, 0 ≤ f → f < 4 → C' (q + 24 + f) s = C (q + 24 + f) s) (m : ∀ j, 24 ≤ j → M' 154 j = M 154 j) : B6 C' M' q := by
  intro f s x1 x2 x3 x4
  rw [hc f s x1 x2, m _ (by omega)]
  exact h f s x1 x2 x3 x4
theorem B7.c {C M C' M' : Mm} {q : Int} (h : B7 C M q) (hc : ∀ s, C' (q + 28) s = C (q + 28) s) (m : ∀ j, 4 ≤ j → M' 155 j = M 155 j) : B7 C' M' q := by
  intro t x1 x2
  rw [hc t, m _ (by omega)]
  exact h t x1 x2
theorem B8.c {C M C' M' : Mm} {q : Int} (h : B8 C M q) (hc : ∀ s, C' (q + 29) s = C (q + 29) s) (m : ∀ j, 4 ≤ j → M' 156 j = M 156 j) : B8 C' M' q := by
  intro t x1 x2
  rw [hc t, m _ (by omega)]
  exact h t x1 x2
theorem B9.c {C M C' M' : Mm} {q : Int} (h : B9 C M q) (e : C' q 11 = C q 11) (m : ∀ j, 4 ≤ j → M' 157 j = M 157 j) : B9 C' M' q := by
  refine ⟨by rw [e]; exact h.1, fun t x1 x2 => ?_⟩
  rw [e, m _ (by omega)]
  exact h.2 t x1 x2
theorem B10.c {C M C' M' : Mm} {q : Int} (h : B10 C M q) (e : C q 0 ≤ C' q 0) (h1 : C' q 0 ≤ 6) (hc : ∀ f s, 0 ≤ f → f < 6 → C' (q + 31 + f) s = C (q + 31 + f) s) (m : ∀ j, 36 ≤ j → M' 158 j = M 158 j) : B10 C' M' q := by
  refine ⟨fun s t x1 x2 x3 x4 => ?_, fun s x1 x2 => ?_, fun s t x1 x2 x3 x4 => ?_⟩
  · rw [hc s t x1 x2, m _ (by omega)]
    exact h.1 s t x1 x2 x3 x4
  · rw [hc s s x1 x2]; exact h.2.1 s x1 x2
  · rw [hc s t x1 x2]; exact h.2.2 s t x1 x2 (by omega) x4
def CF (q : Int) (C' C : Mm) : Prop := ∀ c j, c ≠ 5 → ¬ (q ≤ c ∧ c ≤ q + 36) → C' c j = C c j
def Mz (c j : Int) : Prop := (c = 144 ∧ j = 20) ∨ c = 163 ∨ (c = 146 ∧ j = 1) ∨ (c = 148 ∧ j = 1) ∨ (c = 147 ∧ 24 ≤ j) ∨ (149 ≤ c ∧ c ≤ 152 ∧ 10 ≤ j) ∨ (c = 153 ∧ 60 ≤ j) ∨ (c = 154 ∧ 24 ≤ j) ∨ (155 ≤ c ∧ c ≤ 157 ∧ 4 ≤ j) ∨ (c = 158 ∧ 36 ≤ j)
def MF (M' M : Mm) : Prop := ∀ c j, ¬ Mz c j → M' c j = M c j
/-- one item's numbers taken by both -/
def Tk (q : Int) (x y : Option (Int × Mm)) (C M : Mm) : Prop := (∃ C' M', x = some (0, C') ∧ y = some (0, M') ∧ CF q C' C ∧ MF M' M) ∨ (∃ C' M', x = some (1, C') ∧ y = some (1, M') ∧ CF q C' C ∧ MF M' M ∧ QB C' M' q ∧ M' 144 20 = M 144 20)
theorem Tk.no {q : Int} {C M : Mm} : Tk q (some (0, C)) (some (0, M)) C M := Or.inl ⟨C, M, rfl, rfl, fun _ _ _ _ => rfl, fun _ _ _ => rfl⟩
def tl_b (D4 : Mm) : Option (Int × Mm) :=
      if zI 3 < zI (D4 163 0) then
        some (0, D4)
      else
        if zI (D4 146 1) ≤ zI (D4 163 1) then
          some (0, D4)
        else
          if zI (D4 163 2) ≤ zI 9 then
            if 0 ≤ (24 + (6 * (D4 163 0))) + (D4 163 1) ∧ (24 + (6 * (D4 163 0))) + (D4 163 1) < 48 then (zst D4 154 ((24 + (6 * (D4 163 0))) + (D4 163 1)) (D4 163 2) fun D5 =>
            some (1, D5)) else none
          else
            some (0, D4)
def tl_t (D11 : Mm) : Option (Int × Mm) :=
      if zI 3 < zI (D11 163 0) then
        some (0, D11)
      else
        if zI 99 < zI (D11 163 1) then
          some (0, D11)
        else
          if zI (D11 163 2) ≤ zI 1 then
            if 0 ≤ 4 + (D11 163 0) ∧ 4 + (D11 163 0) < 8 then (zst D11 156 (4 + (D11 163 0)) (D11 163 1) fun D12 =>
            if 0 ≤ 4 + (D12 163 0) ∧ 4 + (D12 163 0) < 8 then (zst D12 157 (4 + (D12 163 0)) (D12 163 2) fun D13 =>
            some (1, D13)) else none) else none
          else
            some (0, D11)
def tl_u (D15 : Mm) : Option (Int × Mm) :=
      if zI (D15 148 1) ≤ zI (D15 163 0) then
        some (0, D15)
      else
        if zI (D15 146 1) ≤ zI (D15 163 1) then
          some (0, D15)
        else
          if zI (D15 163 2) ≤ zI 60 then
            if 0 ≤ (60 + (6 * (D15 163 0))) + (D15 163 1) ∧ (60 + (6 * (D15 163 0))) + (D15 163 1) < 120 then (zst D15 153 ((60 + (6 * (D15 163 0))) + (D15 163 1)) (D15 163 2) fun D16 =>
            some (1, D16)) else none
          else
            some (0, D15)
def tl_w (D18 : Mm) : Option (Int × Mm) :=
      if zI 3 < zI (D18 163 0) then
        some (0, D18)
      else
        if zI (D18 163 1) ≤ zI 99 then
          if 0 ≤ 4 + (D18 163 0) ∧ 4 + (D18 163 0) < 8 then (zst D18 155 (4 + (D18 163 0)) (D18 163 1) fun D19 =>
          some (1, D19)) else none
        else
          some (0, D18)
theorem e_isStep {v : Int} (v0 : 0 ≤ v) (v1 : v ≤ 999) (D : Mm) : f_Quern_isStep v D = some (if v < 4 then 1 else 0) := by
  unfold f_Quern_isStep
  rw [if_neg (fun q => by have := (zI_lt0 (by omega) (by omega)).mp q; omega)]
  by_cases c : v < 4
  · rw [if_neg (fun q => by have := (zI_le (by omega) (by omega) (by omega) (by omega)).mp q; omega), if_pos c]
  · rw [if_pos ((zI_le (by omega) (by omega) (by omega) (by omega)).mpr (by omega)), if_neg c]
theorem zltY {α : Type} {a b : Int} {x y : α} (h : a < b) (h1 : -2147483648 ≤ a) (h2 : a < 2147483648) (h3 : -2147483648 ≤ b) (h4 : b < 2147483648) : (if zI a < zI b then x else y) = x := if_pos ((zI_lt h1 h2 h3 h4).mpr h)
theorem zltN {α : Type} {a b : Int} {x y : α} (h : b ≤ a) (h1 : -2147483648 ≤ a) (h2 : a < 2147483648) (h3 : -2147483648 ≤ b) (h4 : b < 2147483648) : (if zI a < zI b then x else y) = y := if_neg (fun q => by have := (zI_lt h1 h2 h3 h4).mp q; omega)
theorem zleY {α : Type} {a b : Int} {x y : α} (h : a ≤ b) (h1 : -2147483648 ≤ a) (h2 : a < 2147483648) (h3 : -2147483648 ≤ b) (h4 : b < 2147483648) : (if zI a ≤ zI b then x else y) = x := if_pos ((zI_le h1 h2 h3 h4).mpr h)
theorem zleN {α : Type} {a b : Int} {x y : α} (h : b < a) (h1 : -2147483648 ≤ a) (h2 : a < 2147483648) (h3 : -2147483648 ≤ b) (h4 : b < 2147483648) : (if zI a ≤ zI b then x else y) = y := if_neg (fun q => by have := (zI_le h1 h2 h3 h4).mp q; omega)
theorem zltI {α : Type} {a b : Int} {x y : α} (h1 : -2147483648 ≤ a) (h2 : a < 2147483648) (h3 : -2147483648 ≤ b) (h4 : b < 2147483648) : (if zI a < zI b then x else y) = if a < b then x else y := by
  by_cases c : a < b
  · rw [if_pos c, zltY c h1 h2 h3 h4]
  · rw [if_neg c, zltN (by omega) h1 h2 h3 h4]
theorem zleI {α : Type} {a b : Int} {x y : α} (h1 : -2147483648 ≤ a) (h2 : a < 2147483648) (h3 : -2147483648 ≤ b) (h4 : b < 2147483648) : (if zI a ≤ zI b then x else y) = if a ≤ b then x else y := by
  by_cases c : a ≤ b
  · rw [if_pos c, zleY c h1 h2 h3 h4]
  · rw [if_neg c, zleN (by omega) h1 h2 h3 h4]
theorem zeqI {α : Type} {a b : Int} {x y : α} (h1 : -2147483648 ≤ a) (h2 : a < 2147483648) (h3 : -2147483648 ≤ b) (h4 : b < 2147483648) : (if zI a = zI b then x else y) = if a = b then x else y := by
  by_cases c : a = b
  · rw [if_pos c, if_pos (by rw [c])]
  · rw [if_neg c, if_neg (fun q => c ((zI_eq h1 h2 h3 h4).mp q))]
theorem tk_b {q : Int} {C M : Mm} (hq : q = 32 ∨ q = 69) (h : QB C M q) (n : Nq 3 C M) : Tk q (f_Quern_takeBook q (C 5 0) (C 5 1) (C 5 2) C) (tl_b M) C M := by
  obtain ⟨h1, h2, h3, h4, h5, h6, h7, h8, h9, h10⟩ := h
  obtain ⟨n0, n1⟩ := n 0 (by decide) (by decide)
  obtain ⟨m0, m1⟩ := n 1 (by decide) (by decide)
  obtain ⟨k0, k1⟩ := n 2 (by decide) (by decide)
  have b1 := h1
  unfold B1 at b1
  unfold f_Quern_takeBook tl_b
  rw [n0, m0, k0, b1.2.2, e_isStep n1.1 n1.2, bnd_if, e_hasSort ⟨by omega, by omega⟩ ⟨b1.1, b1.2.1⟩, bnd_if, e_within ⟨by omega, by omega⟩ ⟨by decide, by decide⟩ ⟨by decide, by decide⟩, bnd_if, zltI (by omega) (by omega) (by omega) (by omega), zleI (by omega) (by omega) (by omega) (by omega), zleI (by omega) (by omega) (by omega) (by omega)]
  by_cases c1 : C 5 0 < 4
  · rw [if_pos c1, if_neg (show ¬ 3 < C 5 0 by omega)]
    by_cases c2 : C 5 1 < C q 0
    · rw [if_pos ⟨m1.1, c2⟩, if_neg (show ¬ C q 0 ≤ C 5 1 by omega)]
      by_cases c3 : C 5 2 ≤ 9
      · rw [if_pos ⟨k1.1, c3⟩, if_pos c3, if_pos (by omega), if_pos (by omega), if_pos (by omega)]
        refine Or.inr ⟨stm C (q + 24 + C 5 0) (C 5 1) (C 5 2), stm M 154 (24 + 6 * C 5 0 + C 5 1) (C 5 2), rfl, rfl, fun c j x y => stm_ne (by omega), fun c j x => stm_ne (by unfold Mz at x; omega), ⟨h1.c (stm_ne (by omega)) (stm_ne (by omega)), h2.c (stm_ne (by omega)) (stm_ne (by omega)), h3.c b1.2.1 (stm_ne (by omega)) (fun s w _ _ => stm_ne (by omega)) (fun j _ => stm_ne (by omega)), h4.c h2.2.1 (stm_ne (by omega)) (fun a f _ _ => stm_ne (by omega)) (fun a j _ _ _ => stm_ne (by omega)), h5.c (fun f s _ _ => stm_ne (by omega)) (fun j _ => stm_ne (by omega)), ?_, h7.c (fun s => stm_ne (by omega)) (fun j _ => stm_ne (by omega)), h8.c (fun s => stm_ne (by omega)) (fun j _ => stm_ne (by omega)), h9.c (stm_ne (by omega)) (fun j _ => stm_ne (by omega)), h10.c (by rw [stm_ne (by omega)]; omega) (by rw [stm_ne (by omega)]; omega) (fun f s _ _ => stm_ne (by omega)) (fun j _ => stm_ne (by omega))⟩, stm_ne (by omega)⟩
        intro t s x1 x2 x3 x4
        by_cases e : t = C 5 0 ∧ s = C 5 1
        · rw [stm_eq (by omega), stm_eq (by omega)]
          exact ⟨rfl, k1.1, c3⟩
        · rw [stm_ne (by omega), stm_ne (by omega)]
          exact h6 t s x1 x2 x3 x4
      · rw [if_neg (show ¬ (0 ≤ C 5 2 ∧ C 5 2 ≤ 9) by omega), if_neg c3]
        exact Tk.no
    · rw [if_neg (show ¬ (0 ≤ C 5 1 ∧ C 5 1 < C q 0) by omega), if_pos (show C q 0 ≤ C 5 1 by omega)]
      exact Tk.no
  · rw [if_neg c1, if_pos (show 3 < C 5 0 by omega)]
    exact Tk.no
theorem tk_u {q : Int} {C M : Mm} (hq : q = 32 ∨ q = 69) (h : QB C M q) (n : Nq 3 C M) : Tk q (f_Quern_takeUse q (C 5 0) (C 5 1) (C 5 2) C) (tl_u M) C M := by
  obtain ⟨h1, h2, h3, h4, h5, h6, h7, h8, h9, h10⟩ := h
  obtain ⟨n0, n1⟩ := n 0 (by decide) (by decide)
  obtain ⟨m0, m1⟩ := n 1 (by decide) (by decide)
  obtain ⟨k0, k1⟩ := n 2 (by decide) (by decide)
  have b1 := h1
  have b2 := h2
  unfold B1 at b1
  unfold B2 at b2
  unfold f_Quern_takeUse tl_u
  rw [n0, m0, k0, b1.2.2, b2.2.2, e_hasPatch ⟨by omega, by omega⟩ ⟨b2.1, b2.2.1⟩, bnd_if, e_hasSort ⟨by omega, by omega⟩ ⟨b1.1, b1.2.1⟩, bnd_if, e_within ⟨by omega, by omega⟩ ⟨by decide, by decide⟩ ⟨by decide, by decide⟩, bnd_if, zleI (by omega) (by omega) (by omega) (by omega), zleI (by omega) (by omega) (by omega) (by omega), zleI (by omega) (by omega) (by omega) (by omega)]
  by_cases c1 : C 5 0 < C q 1
  · rw [if_pos ⟨n1.1, c1⟩, if_neg (show ¬ C q 1 ≤ C 5 0 by omega)]
    by_cases c2 : C 5 1 < C q 0
    · rw [if_pos ⟨m1.1, c2⟩, if_neg (show ¬ C q 0 ≤ C 5 1 by omega)]
      by_cases c3 : C 5 2 ≤ 60
      · rw [if_pos ⟨k1.1, c3⟩, if_pos c3, if_pos (by omega), if_pos (by omega), if_pos (by omega)]
        refine Or.inr ⟨stm C (q + 13 + C 5 0) (C 5 1) (C 5 2), stm M 153 (60 + 6 * C 5 0 + C 5 1) (C 5 2), rfl, rfl, fun c j x y => stm_ne (by omega), fun c j x => stm_ne (by unfold Mz at x; omega), ⟨h1.c (stm_ne (by omega)) (stm_ne (by omega)), h2.c (stm_ne (by omega)) (stm_ne (by omega)), h3.c b1.2.1 (stm_ne (by omega)) (fun s w _ _ => stm_ne (by omega)) (fun j _ => stm_ne (by omega)), h4.c h2.2.1 (stm_ne (by omega)) (fun a f _ _ => stm_ne (by omega)) (fun a j _ _ _ => stm_ne (by omega)), ?_, h6.c (fun f s _ _ => stm_ne (by omega)) (fun j _ => stm_ne (by omega)), h7.c (fun s => stm_ne (by omega)) (fun j _ => stm_ne (by omega)), h8.c (fun s => stm_ne (by omega)) (fun j _ => stm_ne (by omega)), h9.c (stm_ne (by omega)) (fun j _ => stm_ne (by omega)), h10.c (by rw [stm_ne (by omega)]; omega) (by rw [stm_ne (by omega)]; omega) (fun f s _ _ => stm_ne (by omega)) (fun j _ => stm_ne (by omega))⟩, stm_ne (by omega)⟩
        intro t s x1 x2 x3 x4
        by_cases e : t = C 5 0 ∧ s = C 5 1
        · rw [stm_eq (by omega), stm_eq (by omega)]
          exact ⟨rfl, k1.1, c3⟩
        · rw [stm_ne (by omega), stm_ne (by omega)]
          exact h5 t s x1 x2 x3 x4
      · rw [if_neg (show ¬ (0 ≤ C 5 2 ∧ C 5 2 ≤ 60) by omega), if_neg c3]
        exact Tk.no
    · rw [if_neg (show ¬ (0 ≤ C 5 1 ∧ C 5 1 < C q 0) by omega), if_pos (show C q 0 ≤ C 5 1 by omega)]
      exact Tk.no
  · rw [if_neg (show ¬ (0 ≤ C 5 0 ∧ C 5 0 < C q 1) by omega), if_pos (show C q 1 ≤ C 5 0 by omega)]
    exact Tk.no
theorem tk_w {q : Int} {C M : Mm} (hq : q = 32 ∨ q = 69) (h : QB C M q) (n : Nq 2 C M) : Tk q (f_Quern_takeWash q (C 5 0) (C 5 1) C) (tl_w M) C M := by
  obtain ⟨h1, h2, h3, h4, h5, h6, h7, h8, h9, h10⟩ := h
  obtain ⟨n0, n1⟩ := n 0 (by decide) (by decide)
  obtain ⟨m0, m1⟩ := n 1 (by decide) (by decide)
  have b1 := h1
  unfold B1 at b1
  unfold f_Quern_takeWash tl_w
  rw [n0, m0, e_isStep n1.1 n1.2, bnd_if, e_within ⟨by omega, by omega⟩ ⟨by decide, by decide⟩ ⟨by decide, by decide⟩, bnd_if, zltI (by omega) (by omega) (by omega) (by omega), zleI (by omega) (by omega) (by omega) (by omega)]
  by_cases c1 : C 5 0 < 4
  · rw [if_pos c1, if_neg (show ¬ 3 < C 5 0 by omega)]
    by_cases c2 : C 5 1 ≤ 99
    · rw [if_pos ⟨m1.1, c2⟩, if_pos c2, if_pos (by omega), if_pos (by omega)]
      refine Or.inr ⟨stm C (q + 28) (C 5 0) (C 5 1), stm M 155 (4 + C 5 0) (C 5 1), rfl, rfl, fun c j x y => stm_ne (by omega), fun c j x => stm_ne (by unfold Mz at x; omega), ⟨h1.c (stm_ne (by omega)) (stm_ne (by omega)), h2.c (stm_ne (by omega)) (stm_ne (by omega)), h3.c b1.2.1 (stm_ne (by omega)) (fun s w _ _ => stm_ne (by omega)) (fun j _ => stm_ne (by omega)), h4.c h2.2.1 (stm_ne (by omega)) (fun a f _ _ => stm_ne (by omega)) (fun a j _ _ _ => stm_ne (by omega)), h5.c (fun f s _ _ => stm_ne (by omega)) (fun j _ => stm_ne (by omega)), h6.c (fun f s _ _ => stm_ne (by omega)) (fun j _ => stm_ne (by omega)), ?_, h8.c (fun s => stm_ne (by omega)) (fun j _ => stm_ne (by omega)), h9.c (stm_ne (by omega)) (fun j _ => stm_ne (by omega)), h10.c (by rw [stm_ne (by omega)]; omega) (by rw [stm_ne (by omega)]; omega) (fun f s _ _ => stm_ne (by omega)) (fun j _ => stm_ne (by omega))⟩, stm_ne (by omega)⟩
      intro t x1 x2
      by_cases e : t = C 5 0
      · rw [stm_eq (by omega), stm_eq (by omega)]
        exact ⟨rfl, m1.1, c2⟩
      · rw [stm_ne (by omega), stm_ne (by omega)]
        exact h7 t x1 x2
    · rw [if_neg (show ¬ (0 ≤ C 5 1 ∧ C 5 1 ≤ 99) by omega), if_neg c2]
      exact Tk.no
  · rw [if_neg c1, if_pos (show 3 < C 5 0 by omega)]
    exact Tk.no

theorem QB.c {C M C' M' : Mm} {q : Int} (h : QB C M q) (hc : ∀ c j, q ≤ c → c ≤ q + 36 → C' c j = C c j) (hm : ∀ c j, 146 ≤ c → c ≤ 158 → M' c j = M c j) : QB C' M' q := by
  obtain ⟨h1, h2, h3, h4, h5, h6, h7, h8, h9, h10⟩ := h
  have b1 := h1
  unfold B1 at b1
  have e0 : C' q 0 = C q 0 := hc _ _ (by omega) (by omega)
  exact ⟨h1.c e0 (hm _ _ (by omega) (by omega)), h2.c (hc _ _ (by omega) (by omega)) (hm _ _ (by omega) (by omega)), h3.c b1.2.1 e0 (fun s w _ _ => hc _ _ (by omega) (by omega)) (fun j _ => hm _ _ (by omega) (by omega)), h4.c h2.2.1 (hc _ _ (by omega) (by omega)) (fun a f _ _ => hc _ _ (by omega) (by omega)) (fun a j _ _ _ => hm _ _ (by omega) (by omega)), h5.c (fun f s _ _ => hc _ _ (by omega) (by omega)) (fun j _ => hm _ _ (by omega) (by omega)), h6.c (fun f s _ _ => hc _ _ (by omega) (by omega)) (fun j _ => hm _ _ (by omega) (by omega)), h7.c (fun s => hc _ _ (by omega) (by omega)) (fun j _ => hm _ _ (by omega) (by omega)), h8.c (fun s => hc _ _ (by omega) (by omega)) (fun j _ => hm _ _ (by omega) (by omega)), h9.c (hc _ _ (by omega) (by omega)) (fun j _ => hm _ _ (by omega) (by omega)), h10.c (by omega) (by omega) (fun f s _ _ => hc _ _ (by omega) (by omega)) (fun j _ => hm _ _ (by omega) (by omega))⟩
def cstep (q p : Int) (C : Mm) (K : Int → Mm → Option (Int × Mm)) : Option (Int × Mm) :=
        zb (f_Scribe_placeBehindItem p C) fun r1 D2 =>
        if zI r1 = zI (-1) then
          some (p, D2)
        else
          (f_Text_at p D2).bind fun r3 =>
          zb (f_Quern_take q r3 5 D2) fun r4 D5 =>
          if zI r4 = 0 then
            some (p, D5)
          else
            K r1 D5
def It (q p L : Int) (C M : Mm) : Prop := (∃ C' M', (∀ K, cstep q p C K = some (p, C')) ∧ f_Model_item M = some (0, M') ∧ CF q C' C ∧ MF M' M) ∨ (∃ p' C' M', (∀ K, cstep q p C K = K p' C') ∧ f_Model_item M = some (1, M') ∧ CF q C' C ∧ MF M' M ∧ QB C' M' q ∧ M' 144 20 = p' ∧ p < p' ∧ p' ≤ L)
theorem e_let {T : Int → Int} {L q p m : Int} {C M : Mm} {tail TAKE : Mm → Option (Int × Mm)} (tb : TB T L) (tc : TC T L C) (tm : TM T L M) (hq : q = 32 ∨ q = 69) (h : QB C M q) (hp : M 144 20 = p) (p0 : 0 ≤ p) (p1 : p < L) (m0 : 2 ≤ m) (m4 : m ≤ 4) (hn : f_Scribe_numbersOf (T p) C = some m) (hT : ∀ E r E', TAKE E = some (r, E') → (r = 0 ∨ r = 1) → f_Quern_take q (T p) 5 E = some (r, E')) (hI0 : ∀ M1, f_Model_figures m (stm M 144 20 (p + 1)) = some (0, M1) → f_Model_item M = some (0, M1)) (hI1 : ∀ M1 r M3, f_Model_figures m (stm M 144 20 (p + 1)) = some (1, M1) → tail M1 = some (r, M3) → (r = 0 ∨ r = 1) → f_Model_item M = some (r, M3)) (TK : ∀ C1 M1, QB C1 M1 q → Nq m C1 M1 → M1 146 1 = M 146 1 → M1 148 1 = M 148 1 → C1 q 0 = C q 0 → C1 q 1 = C q 1 → Tk q (TAKE C1) (tail M1) C1 M1) : It q p L C M := by
  have l1 := tb.2.1
  have hM2 : ∀ c j, ¬ (c = 144 ∧ j = 20) → stm M 144 20 (p + 1) c j = M c j := fun c j x => stm_ne (by omega)
  have tm2 : TM T L (stm M 144 20 (p + 1)) := tm.pf hM2
  have hB : f_Scribe_placeBehindItem p C = f_Scribe_placeBehindItem_23 m zF (p + 1) 0 C := by
    unfold f_Scribe_placeBehindItem
    rw [e_at tb tc p0 (by omega), if_pos p1]
    simp only [Option.bind_some]
    rw [hn]
    simp only [Option.bind_some]
    rw [if_neg (fun y => by have := (zI_eq0 (by omega) (by omega)).mp y; omega)]
  rcases e_nums tb m0 m4 (m - 0).toNat zF 0 (p + 1) C (stm M 144 20 (p + 1)) rfl (by decide) (by omega) (zF_pos (by omega)) (by omega) (by omega) tc tm2 (stm_eq ⟨rfl, rfl⟩) (fun j j0 j1 => by omega) with ⟨C1, M1, x1, x2, x3, x4⟩ | ⟨p', C1, M1, x1, x2, x3, x4, x5, x6⟩
  · refine Or.inl ⟨C1, M1, fun K => ?_, hI0 M1 x2, fun c j y _ => x3 c j y, fun c j y => ?_⟩
    · unfold cstep
      rw [hB, x1, zb_some, if_pos rfl]
    · unfold Mz at y
      rw [x4 c j (by omega) (by omega), hM2 c j (by omega)]
  · have tc1 : TC T L C1 := tc.nc x5
    have q1 : QB C1 M1 q := h.c (fun c j y z => x5 c j (by omega)) (fun c j y z => by rw [x6 c j (by omega) (by omega), hM2 c j (by omega)])
    have m146 : ∀ c j, ¬ (c = 144 ∧ j = 20) → c ≠ 163 → M1 c j = M c j := fun c j y z => by rw [x6 c j y z, hM2 c j y]
    have cs : ∀ K, cstep q p C K = zb (f_Quern_take q (T p) 5 C1) fun r4 D5 => if zI r4 = 0 then some (p, D5) else K p' D5 := fun K => by
      unfold cstep
      rw [hB, x1, zb_some, if_neg (fun y => by have := (zI_eq (by omega) (by omega) (by omega) (by omega)).mp y; omega), e_at tb tc1 p0 (by omega), if_pos p1]
      rfl
    rcases TK C1 M1 q1 x4 (m146 _ _ (by omega) (by omega)) (m146 _ _ (by omega) (by omega)) (x5 _ _ (by omega)) (x5 _ _ (by omega)) with ⟨C2, M2, y1, y2, y3, y4⟩ | ⟨C2, M2, y1, y2, y3, y4, y5, y6⟩
    · refine Or.inl ⟨C2, M2, fun K => ?_, hI1 M1 0 M2 x2 y2 (Or.inl rfl), fun c j u v => by rw [y3 c j u v, x5 c j u], fun c j u => by rw [y4 c j u, m146 c j (by unfold Mz at u; omega) (by unfold Mz at u; omega)]⟩
      rw [cs, hT C1 0 C2 y1 (Or.inl rfl), zb_some, if_pos (by decide +kernel)]
    · refine Or.inr ⟨p', C2, M2, fun K => ?_, hI1 M1 1 M2 x2 y2 (Or.inr rfl), fun c j u v => by rw [y3 c j u v, x5 c j u], fun c j u => by rw [y4 c j u, m146 c j (by unfold Mz at u; omega) (by unfold Mz at u; omega)], y5, by omega, by omega, by omega⟩
      rw [cs, hT C1 1 C2 y1 (Or.inr rfl), zb_some, if_neg (by decide +kernel)]
theorem zIn {a b : Int} (h : a ≠ b) (h1 : -2147483648 ≤ a) (h2 : a < 2147483648) (h3 : -2147483648 ≤ b) (h4 : b < 2147483648) : ¬ zI a = zI b := fun q => h ((zI_eq h1 h2 h3 h4).mp q)
theorem e_item {T : Int → Int} {L q p : Int} {C M : Mm} (tb : TB T L) (tc : TC T L C) (tm : TM T L M) (hq : q = 32 ∨ q = 69) (h : QB C M q) (hp : M 144 20 = p) (p0 : 0 ≤ p) (p1 : p < L) : It q p L C M := by
  have l1 := tb.2.1
  have tt := tb.2.2 p p0 p1
  have hb : f_Model_byteAt (M 144 20) M = some (T p) := by rw [hp, e_bat tb tm p0 (by omega), if_pos p1]
  have s163 : ∀ c j, ¬ (c = 144 ∧ j = 20) → stm M 144 20 (p + 1) c j = M c j := fun c j x => stm_ne (by omega)
  by_cases c98 : T p = 98
  · refine e_let (m := 3) (TAKE := fun E => f_Quern_takeBook q (E 5 0) (E 5 1) (E 5 2) E) (tail := tl_b) tb tc tm hq h hp p0 p1 (by decide) (by decide) (by rw [c98]; rfl) (fun E r E' x y => ?_) (fun M1 x => ?_) (fun M1 r M3 x y z => ?_) (fun C1 M1 a b _ _ _ _ => tk_b hq a b)
    · unfold f_Quern_take
      rw [c98, if_pos rfl]
      show zb (f_Quern_takeBook q (E 5 0) (E 5 1) (E 5 2) E) _ = _
      rw [show f_Quern_takeBook q (E 5 0) (E 5 1) (E 5 2) E = some (r, E') from x, zb_some, if_pos y]
    · unfold f_Model_item
      rw [hb, hp]
      simp only [Option.bind_some]
      simp only [zst]
      rw [c98, if_pos rfl, x, zb_some, if_pos (by decide +kernel)]
    · unfold f_Model_item
      rw [hb, hp]
      simp only [Option.bind_some]
      simp only [zst]
      rw [c98, if_pos rfl, x, zb_some, if_neg (by decide +kernel)]
      exact y
  by_cases c102 : T p = 102
  · refine e_let (m := 4) (TAKE := fun E => f_Quern_takePatch q 5 E) (tail := tl_f (M 148 1)) tb tc tm hq h hp p0 p1 (by decide) (by decide) (by rw [c102]; rfl) (fun E r E' x y => ?_) (fun M1 x => ?_) (fun M1 r M3 x y z => ?_) (fun C1 M1 a b d e f g => tk_f hq a (by rw [h.2.1.2.2, g]) b)
    · unfold f_Quern_take
      rw [c102, if_neg (by decide +kernel), if_pos rfl]
      rw [show f_Quern_takePatch q 5 E = some (r, E') from x, zb_some, if_pos y]
    · unfold f_Model_item
      rw [hb, hp]
      simp only [Option.bind_some]
      simp only [zst]
      rw [c102, if_neg (by decide +kernel), if_pos rfl]
      unfold f_Model_faceItem
      rw [x, zb_some, if_pos (by decide +kernel), zb_some, if_pos (Or.inl rfl)]
    · unfold f_Model_item
      rw [hb, hp]
      simp only [Option.bind_some]
      simp only [zst]
      rw [c102, if_neg (by decide +kernel), if_pos rfl]
      unfold f_Model_faceItem
      rw [x, zb_some, if_neg (by decide +kernel), s163 148 1 (by omega)]
      have y' : tl_f (M 148 1) M1 = some (r, M3) := y
      unfold tl_f at y'
      rw [y', zb_some, if_pos z]
  by_cases c103 : T p = 103
  · refine e_let (m := 4) (TAKE := fun E => f_Quern_takeSort q 5 E) (tail := tl_g (M 146 1)) tb tc tm hq h hp p0 p1 (by decide) (by decide) (by rw [c103]; rfl) (fun E r E' x y => ?_) (fun M1 x => ?_) (fun M1 r M3 x y z => ?_) (fun C1 M1 a b d e f g => tk_g hq a (by rw [h.1.2.2, f]) b)
    · unfold f_Quern_take
      rw [c103, if_neg (by decide +kernel), if_neg (by decide +kernel), if_pos rfl]
      rw [show f_Quern_takeSort q 5 E = some (r, E') from x, zb_some, if_pos y]
    · unfold f_Model_item
      rw [hb, hp]
      simp only [Option.bind_some]
      simp only [zst]
      rw [c103, if_neg (by decide +kernel), if_neg (by decide +kernel), if_pos rfl]
      unfold f_Model_sortItem
      rw [x, zb_some, if_pos (by decide +kernel), zb_some, if_pos (Or.inl rfl)]
    · unfold f_Model_item
      rw [hb, hp]
      simp only [Option.bind_some]
      simp only [zst]
      rw [c103, if_neg (by decide +kernel), if_neg (by decide +kernel), if_pos rfl]
      unfold f_Model_sortItem
      rw [x, zb_some, if_neg (by decide +kernel), s163 146 1 (by omega)]
      have y' : tl_g (M 146 1) M1 = some (r, M3) := y
      unfold tl_g at y'
      rw [y', zb_some, if_pos z]
  by_cases c116 : T p = 116
  · refine e_let (m := 3) (TAKE := fun E => f_Quern_takeHours q (E 5 0) (E 5 1) (E 5 2) E) (tail := tl_t) tb tc tm hq h hp p0 p1 (by decide) (by decide) (by rw [c116]; rfl) (fun E r E' x y => ?_) (fun M1 x => ?_) (fun M1 r M3 x y z => ?_) (fun C1 M1 a b _ _ _ _ => tk_t hq a b)
    · unfold f_Quern_take
      rw [c116, if_neg (by decide +kernel), if_neg (by decide +kernel), if_neg (by decide +kernel), if_pos rfl]
      rw [show f_Quern_takeHours q (E 5 0) (E 5 1) (E 5 2) E = some (r, E') from x, zb_some, if_pos y]
    · unfold f_Model_item
      rw [hb, hp]
      simp only [Option.bind_some]
      simp only [zst]
      rw [c116, if_neg (by decide +kernel), if_neg (by decide +kernel), if_neg (by decide +kernel), if_pos rfl, x, zb_some, if_pos (by decide +kernel)]
    · unfold f_Model_item
      rw [hb, hp]
      simp only [Option.bind_some]
      simp only [zst]
      rw [c116, if_neg (by decide +kernel), if_neg (by decide +kernel), if_neg (by decide +kernel), if_pos rfl, x, zb_some, if_neg (by decide +kernel)]
      exact y
  by_cases c117 : T p = 117
  · refine e_let (m := 3) (TAKE := fun E => f_Quern_takeUse q (E 5 0) (E 5 1) (E 5 2) E) (tail := tl_u) tb tc tm hq h hp p0 p1 (by decide) (by decide) (by rw [c117]; rfl) (fun E r E' x y => ?_) (fun M1 x => ?_) (fun M1 r M3 x y z => ?_) (fun C1 M1 a b _ _ _ _ => tk_u hq a b)
    · unfold f_Quern_take
      rw [c117, if_neg (by decide +kernel), if_neg (by decide +kernel), if_neg (by decide +kernel), if_neg (by decide +kernel), if_pos rfl]
      rw [show f_Quern_takeUse q (E 5 0) (E 5 1) (E 5 2) E = some (r, E') from x, zb_some, if_pos y]
    · unfold f_Model_item
      rw [hb, hp]
      simp only [Option.bind_some]
      simp only [zst]
      rw [c117, if_neg (by decide +kernel), if_neg (by decide +kernel), if_neg (by decide +kernel), if_neg (by decide +kernel), if_pos rfl, x, zb_some, if_pos (by decide +kernel)]
    · unfold f_Model_item
      rw [hb, hp]
      simp only [Option.bind_some]
      simp only [zst]
      rw [c117, if_neg (by decide +kernel), if_neg (by decide +kernel), if_neg (by decide +kernel), if_neg (by decide +kernel), if_pos rfl, x, zb_some, if_neg (by decide +kernel)]
      exact y
  by_cases c119 : T p = 119
  · refine e_let (m := 2) (TAKE := fun E => f_Quern_takeWash q (E 5 0) (E 5 1) E) (tail := tl_w) tb tc tm hq h hp p0 p1 (by decide) (by decide) (by rw [c119]; rfl) (fun E r E' x y => ?_) (fun M1 x => ?_) (fun M1 r M3 x y z => ?_) (fun C1 M1 a b _ _ _ _ => tk_w hq a b)
    · unfold f_Quern_take
      rw [c119, if_neg (by decide +kernel), if_neg (by decide +kernel), if_neg (by decide +kernel), if_neg (by decide +kernel), if_neg (by decide +kernel), if_pos rfl]
      rw [show f_Quern_takeWash q (E 5 0) (E 5 1) E = some (r, E') from x, zb_some, if_pos y]
    · unfold f_Model_item
      rw [hb, hp]
      simp only [Option.bind_some]
      simp only [zst]
      rw [c119, if_neg (by decide +kernel), if_neg (by decide +kernel), if_neg (by decide +kernel), if_neg (by decide +kernel), if_neg (by decide +kernel), if_pos rfl, x, zb_some, if_pos (by decide +kernel)]
    · unfold f_Model_item
      rw [hb, hp]
      simp only [Option.bind_some]
      simp only [zst]
      rw [c119, if_neg (by decide +kernel), if_neg (by decide +kernel), if_neg (by decide +kernel), if_neg (by decide +kernel), if_neg (by decide +kernel), if_pos rfl, x, zb_some, if_neg (by decide +kernel)]
      exact y
  by_cases c120 : T p = 120
  · refine e_let (m := 3) (TAKE := fun E => f_Quern_takeSlip q (E 5 0) (E 5 1) (E 5 2) E) (tail := tl_x) tb tc tm hq h hp p0 p1 (by decide) (by decide) (by rw [c120]; rfl) (fun E r E' x y => ?_) (fun M1 x => ?_) (fun M1 r M3 x y z => ?_) (fun C1 M1 a b _ _ _ _ => tk_x hq a b)
    · unfold f_Quern_take
      rw [c120, if_neg (by decide +kernel), if_neg (by decide +kernel), if_neg (by decide +kernel), if_neg (by decide +kernel), if_neg (by decide +kernel), if_neg (by decide +kernel), if_pos rfl]
      rw [show f_Quern_takeSlip q (E 5 0) (E 5 1) (E 5 2) E = some (r, E') from x, zb_some, if_pos y]
    · unfold f_Model_item
      rw [hb, hp]
      simp only [Option.bind_some]
      simp only [zst]
      rw [c120, if_neg (by decide +kernel), if_neg (by decide +kernel), if_neg (by decide +kernel), if_neg (by decide +kernel), if_neg (by decide +kernel), if_neg (by decide +kernel), if_pos rfl]
      unfold f_Model_callItem
      rw [x, zb_some, if_pos (by decide +kernel), zb_some, if_pos (Or.inl rfl)]
    · unfold f_Model_item
      rw [hb, hp]
      simp only [Option.bind_some]
      simp only [zst]
      rw [c120, if_neg (by decide +kernel), if_neg (by decide +kernel), if_neg (by decide +kernel), if_neg (by decide +kernel), if_neg (by decide +kernel), if_neg (by decide +kernel), if_pos rfl]
      unfold f_Model_callItem
      rw [x, zb_some, if_neg (by decide +kernel)]
      have y' : tl_x M1 = some (r, M3) := y
      unfold tl_x at y'
      rw [y', zb_some, if_pos z]
  refine Or.inl ⟨C, stm M 144 20 (p + 1), fun K => ?_, ?_, fun _ _ _ _ => rfl, fun c j x => s163 c j (by unfold Mz at x; omega)⟩
  · unfold cstep f_Scribe_placeBehindItem
    rw [e_at tb tc p0 (by omega), if_pos p1]
    simp only [Option.bind_some]
    unfold f_Scribe_numbersOf
    rw [if_neg (zIn c98 (by omega) (by omega) (by omega) (by omega)), if_neg (zIn c102 (by omega) (by omega) (by omega) (by omega)), if_neg (zIn c103 (by omega) (by omega) (by omega) (by omega)), if_neg (zIn c116 (by omega) (by omega) (by omega) (by omega)), if_neg (zIn c117 (by omega) (by omega) (by omega) (by omega)), if_neg (zIn c119 (by omega) (by omega) (by omega) (by omega)), if_neg (zIn c120 (by omega) (by omega) (by omega) (by omega))]
    rfl
  · unfold f_Model_item
    rw [hb, hp]
    simp only [Option.bind_some]
    simp only [zst]
    rw [if_neg (zIn c98 (by omega) (by omega) (by omega) (by omega)), if_neg (zIn c102 (by omega) (by omega) (by omega) (by omega)), if_neg (zIn c103 (by omega) (by omega) (by omega) (by omega)), if_neg (zIn c116 (by omega) (by omega) (by omega) (by omega)), if_neg (zIn c117 (by omega) (by omega) (by omega) (by omega)), if_neg (zIn c119 (by omega) (by omega) (by omega) (by omega)), if_neg (zIn c120 (by omega) (by omega) (by omega) (by omega))]
theorem e_loop {T : Int → Int} {L q : Int} (tb : TB T L) (hq : q = 32 ∨ q = 69) : ∀ (k n m : Nat) (p it : Int) (C M : Mm), (L - p).toNat ≤ k → k < n → k < m → 0 ≤ p → p ≤ L → 0 ≤ it → it ≤ p → TC T L C → TM T L M → QB C M q → M 144 20 = p → ∃ r C' M', f_Scribe_placeOfFault_9 q n p it C = some (r, C') ∧ f_Model_readAll_10 m M = some (r, M') ∧ CF q C' C ∧ MF M' M ∧ (-4 ≤ r ∧ r ≤ 500) ∧ (r = -4 → QB C' M' q) := by
  have l1 := tb.2.1
  intro k
  induction k with
  | zero =>
    intro n m p it C M hk hn hm p0 p1 i0 i1 tc tm h hp
    obtain ⟨n, rfl⟩ : ∃ x, n = x + 1 := ⟨n - 1, by omega⟩
    obtain ⟨m, rfl⟩ : ∃ x, m = x + 1 := ⟨m - 1, by omega⟩
    have e : p = L := by omega
    refine ⟨-4, C, M, ?_, ?_, fun _ _ _ _ => rfl, fun _ _ _ => rfl, by decide, fun _ => h⟩
    · rw [f_Scribe_placeOfFault_9, tc.1, e, if_pos (show zI L ≤ zI L from Int32.le_refl _)]
      split <;> rfl
    · rw [f_Model_readAll_10, tm.1, hp, e, if_pos (Int32.le_refl _)]
  | succ k ih =>
    intro n m p it C M hk hn hm p0 p1 i0 i1 tc tm h hp
    obtain ⟨n, rfl⟩ : ∃ x, n = x + 1 := ⟨n - 1, by omega⟩
    obtain ⟨m, rfl⟩ : ∃ x, m = x + 1 := ⟨m - 1, by omega⟩
    by_cases e : p = L
    · refine ⟨-4, C, M, ?_, ?_, fun _ _ _ _ => rfl, fun _ _ _ => rfl, by decide, fun _ => h⟩
      · rw [f_Scribe_placeOfFault_9, tc.1, e, if_pos (show zI L ≤ zI L from Int32.le_refl _)]
        split <;> rfl
      · rw [f_Model_readAll_10, tm.1, hp, e, if_pos (Int32.le_refl _)]
    · have hC : f_Scribe_placeOfFault_9 q (n + 1) p it C = cstep q p C (fun r1 D5 => f_Scribe_placeOfFault_9 q n r1 (it + 1) D5) := by
        rw [f_Scribe_placeOfFault_9, zleN (by omega) (by omega) (by omega) (by omega) (by omega), tc.1, zleN (by omega) (by omega) (by omega) (by omega) (by omega)]
        rfl
      have hMm : f_Model_readAll_10 (m + 1) M = zb (f_Model_item M) fun r1 D2 => if zI r1 = 0 then some (p, D2) else f_Model_readAll_10 m D2 := by
        rw [f_Model_readAll_10, tm.1, hp, zleN (by omega) (by omega) (by omega) (by omega) (by omega)]
      rcases e_item tb tc tm hq h hp p0 (by omega) with ⟨C', M', x1, x2, x3, x4⟩ | ⟨p', C', M', x1, x2, x3, x4, x5, x6, x7, x8⟩
      · refine ⟨p, C', M', ?_, ?_, x3, x4, by omega, fun y => by omega⟩
        · rw [hC, x1]
        · rw [hMm, x2, zb_some, if_pos (by decide +kernel)]
      · have tc' : TC T L C' := ⟨by rw [x3 2 1 (by omega) (by omega)]; exact tc.1, fun k k0 k1 => by rw [x3 3 k (by omega) (by omega)]; exact tc.2 k k0 k1⟩
        have tm' : TM T L M' := ⟨by rw [x4 144 0 (by unfold Mz; omega)]; exact tm.1, fun k k0 k1 => by rw [x4 145 k (by unfold Mz; omega)]; exact tm.2 k k0 k1⟩
        obtain ⟨r, A, B, y1, y2, y3, y4, y5, y6⟩ := ih n m p' (it + 1) C' M' (by omega) (by omega) (by omega) (by omega) x8 (by omega) (by omega) tc' tm' x5 x6
        refine ⟨r, A, B, ?_, ?_, fun c j u v => by rw [y3 c j u v, x3 c j u v], fun c j u => by rw [y4 c j u, x4 c j u], y5, y6⟩
        · rw [hC, x1]; exact y1
        · rw [hMm, x2, zb_some, if_neg (by decide +kernel)]; exact y2

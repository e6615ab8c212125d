def prd (W h : Int → Int) : Nat → Int
  | 0 => 1
  | i + 1 => prd W h i * (W i) ^ (h i).toNat
theorem prd_s {W h : Int → Int} {i : Int} (h0 : 0 ≤ i) : prd W h (i + 1).toNat = prd W h i.toNat * (W i) ^ (h i).toNat := by
  have e : (i + 1).toNat = i.toNat + 1 := by omega
  have e2 : ((i.toNat : Nat) : Int) = i := by omega
  rw [e]
  show prd W h i.toNat * (W ((i.toNat : Nat) : Int)) ^ (h ((i.toNat : Nat) : Int)).toNat = _
  rw [e2]
theorem prd_cong {W h W' h' : Int → Int} : ∀ n : Nat, (∀ k : Int, 0 ≤ k → k < n → W k = W' k ∧ h k = h' k) → prd W h n = prd W' h' n := by
  intro n
  induction n with
  | zero => intro _; rfl
  | succ n ih =>
    intro hh
    show prd W h n * (W n) ^ (h n).toNat = prd W' h' n * (W' n) ^ (h' n).toNat
    rw [ih (fun k h0 h1 => hh k h0 (by omega)), (hh n (by omega) (by omega)).1, (hh n (by omega) (by omega)).2]
def p4 (D : Mm) (c a b d e : Int) : Mm := stm (stm (stm (stm D c 0 a) c 1 b) c 2 d) c 3 e
theorem p4_ne {D : Mm} {c a b d e x i : Int} (h : x ≠ c) : p4 D c a b d e x i = D x i := by
  unfold p4
  rw [stm_ne (by omega), stm_ne (by omega), stm_ne (by omega), stm_ne (by omega)]
def hok (a b c d L : Int) : Prop := 0 ≤ a ∧ 0 ≤ b ∧ 0 ≤ c ∧ 0 ≤ d ∧ a + b + c + d ≤ L
theorem p4_at {D : Mm} {x a b c d L w : Int} (h : hok a b c d L) (w0 : 0 ≤ w) (w1 : w < 4) : 0 ≤ p4 D x a b c d x w ∧ p4 D x a b c d x w ≤ L := by
  unfold hok at h
  unfold p4
  rcases (show w = 0 ∨ w = 1 ∨ w = 2 ∨ w = 3 by omega) with rfl | rfl | rfl | rfl
  · rw [stm_ne (by omega), stm_ne (by omega), stm_ne (by omega), stm_eq ⟨rfl, rfl⟩]; omega
  · rw [stm_ne (by omega), stm_ne (by omega), stm_eq ⟨rfl, rfl⟩]; omega
  · rw [stm_ne (by omega), stm_eq ⟨rfl, rfl⟩]; omega
  · rw [stm_eq ⟨rfl, rfl⟩]; omega
theorem p4_two {D E : Mm} {x y a b c d w : Int} (w0 : 0 ≤ w) (w1 : w < 4) : p4 D x a b c d x w = p4 E y a b c d y w := by
  unfold p4
  rcases (show w = 0 ∨ w = 1 ∨ w = 2 ∨ w = 3 by omega) with rfl | rfl | rfl | rfl
  · rw [stm_ne (by omega), stm_ne (by omega), stm_ne (by omega), stm_eq ⟨rfl, rfl⟩, stm_ne (by omega), stm_ne (by omega), stm_ne (by omega), stm_eq ⟨rfl, rfl⟩]
  · rw [stm_ne (by omega), stm_ne (by omega), stm_eq ⟨rfl, rfl⟩, stm_ne (by omega), stm_ne (by omega), stm_eq ⟨rfl, rfl⟩]
  · rw [stm_ne (by omega), stm_eq ⟨rfl, rfl⟩, stm_ne (by omega), stm_eq ⟨rfl, rfl⟩]
  · rw [stm_eq ⟨rfl, rfl⟩, stm_eq ⟨rfl, rfl⟩]
theorem p4_sum {D : Mm} {x a b c d : Int} : zsum (fun w => p4 D x a b c d x w) 4 = a + b + c + d := by
  unfold p4
  show 0 + stm (stm (stm (stm D x 0 a) x 1 b) x 2 c) x 3 d x 0 + stm (stm (stm (stm D x 0 a) x 1 b) x 2 c) x 3 d x 1 + stm (stm (stm (stm D x 0 a) x 1 b) x 2 c) x 3 d x 2 + stm (stm (stm (stm D x 0 a) x 1 b) x 2 c) x 3 d x 3 = _
  rw [stm_ne (j := 0) (by omega), stm_ne (j := 0) (by omega), stm_ne (j := 0) (by omega), stm_eq ⟨rfl, rfl⟩, stm_ne (j := 1) (by omega), stm_ne (j := 1) (by omega), stm_eq ⟨rfl, rfl⟩, stm_ne (j := 2) (by omega), stm_eq ⟨rfl, rfl⟩, stm_eq ⟨rfl, rfl⟩]
  omega
theorem e_pile {D : Mm} {a b c d L : Int} (ha : Rg a) (hb : Rg b) (hc : Rg c) (hd : Rg d) (L0 : 0 ≤ L) (L1 : L ≤ 1000) : (hok a b c d L → f_Heap_pile a b c d L D = some (1, p4 D 11 a b c d)) ∧ (¬ hok a b c d L → f_Heap_pile a b c d L D = some (0, D)) := by
  unfold hok
  unfold f_Heap_pile
  rw [e_within ha ⟨by decide, by decide⟩ ⟨by omega, by omega⟩, bnd_if]
  by_cases c1 : 0 ≤ a ∧ a ≤ L
  · rw [if_pos c1, e_within hb ⟨by decide, by decide⟩ ⟨by omega, by omega⟩, bnd_if]
    by_cases c2 : 0 ≤ b ∧ b ≤ L - a
    · rw [if_pos c2, e_within hc ⟨by decide, by decide⟩ ⟨by omega, by omega⟩, bnd_if]
      by_cases c3 : 0 ≤ c ∧ c ≤ L - a - b
      · rw [if_pos c3, e_within hd ⟨by decide, by decide⟩ ⟨by omega, by omega⟩, bnd_if]
        by_cases c4 : 0 ≤ d ∧ d ≤ L - a - b - c
        · rw [if_pos c4]
          exact ⟨fun _ => rfl, fun n => absurd (by omega) n⟩
        · rw [if_neg c4]
          exact ⟨fun n => absurd (by omega) c4, fun _ => rfl⟩
      · rw [if_neg c3]
        exact ⟨fun n => absurd (by omega) c3, fun _ => rfl⟩
    · rw [if_neg c2]
      exact ⟨fun n => absurd (by omega) c2, fun _ => rfl⟩
  · rw [if_neg c1]
    exact ⟨fun n => absurd (by omega) c1, fun _ => rfl⟩
theorem e_isHeap {D : Mm} {a b c d L : Int} (ha : Rg a) (hb : Rg b) (hc : Rg c) (hd : Rg d) (L0 : 0 ≤ L) (L1 : L ≤ 1000) : (hok a b c d L → f_Model_isHeap a b c d L D = some (1, p4 D 164 a b c d)) ∧ (¬ hok a b c d L → f_Model_isHeap a b c d L D = some (0, p4 D 164 a b c d)) := by
  unfold hok
  unfold f_Model_isHeap
  simp only [zst]
  rw [wI_id ha.1 ha.2, wI_id hb.1 hb.2, wI_id hc.1 hc.2, wI_id hd.1 hd.2, wI_id (a := L) (by omega) (by omega), e_in ha ⟨by decide, by decide⟩ ⟨by omega, by omega⟩, bnd_if, e_in hb ⟨by decide, by decide⟩ ⟨by omega, by omega⟩, bnd_if, e_in hc ⟨by decide, by decide⟩ ⟨by omega, by omega⟩, bnd_if, e_in hd ⟨by decide, by decide⟩ ⟨by omega, by omega⟩, bnd_if]
  by_cases c1 : 0 ≤ a ∧ a ≤ L
  · by_cases c2 : 0 ≤ b ∧ b ≤ L
    · by_cases c3 : 0 ≤ c ∧ c ≤ L
      · by_cases c4 : 0 ≤ d ∧ d ≤ L
        · rw [if_pos c1, if_pos c2, if_pos c3, if_pos c4]
          by_cases c5 : L < a + b + c + d
          · rw [if_pos ((zI_lt (by omega) (by omega) (by omega) (by omega)).mpr c5)]
            exact ⟨fun n => absurd c5 (by omega), fun _ => rfl⟩
          · rw [if_neg (fun q => c5 ((zI_lt (by omega) (by omega) (by omega) (by omega)).mp q))]
            exact ⟨fun _ => rfl, fun n => absurd (by omega) n⟩
        · rw [if_pos c1, if_pos c2, if_pos c3, if_neg c4]
          exact ⟨fun n => absurd (by omega) c4, fun _ => rfl⟩
      · rw [if_pos c1, if_pos c2, if_neg c3]
        exact ⟨fun n => absurd (by omega) c3, fun _ => rfl⟩
    · rw [if_pos c1, if_neg c2]
      exact ⟨fun n => absurd (by omega) c2, fun _ => rfl⟩
  · rw [if_neg c1]
    exact ⟨fun n => absurd (by omega) c1, fun _ => rfl⟩
theorem e_mix {D : Mm} {a p b r : Int} (hh : ∀ w, 0 ≤ w → w < 4 → 0 ≤ D 11 w ∧ D 11 w ≤ 1000) (hr : ∀ w, 0 ≤ w → w < 4 → Rg (a * D p w + b * D r w)) : f_Heap_productOfMix a p b r D = some (prd (fun w => a * D p w + b * D r w) (fun w => D 11 w) 4) := by
  unfold f_Heap_productOfMix
  refine zup (fun n i x => f_Heap_productOfMix_6 a p b r D n x i) 4 (fun i x => 0 ≤ i ∧ x = prd (fun w => a * D p w + b * D r w) (fun w => D 11 w) i.toNat) (fun o => o = some (prd (fun w => a * D p w + b * D r w) (fun w => D 11 w) 4)) ?_ ?_ 4 zF 0 1 rfl (by decide) (zF_pos (by decide)) ⟨by decide, rfl⟩
  · intro n x ⟨_, hb⟩
    show f_Heap_productOfMix_6 a p b r D (n + 1) x 4 = _
    rw [f_Heap_productOfMix_6, if_pos (by decide +kernel), hb]
    rfl
  · intro n i x hi ⟨h2, hb⟩
    obtain ⟨y0, y1⟩ := hh i h2 hi
    obtain ⟨z0, z1⟩ := hr i h2 hi
    have gi : 0 ≤ i ∧ i < 4 := ⟨h2, hi⟩
    refine ⟨x * (a * D p i + b * D r i) ^ (D 11 i).toNat, ⟨by omega, by rw [hb, prd_s h2]⟩, ?_⟩
    show f_Heap_productOfMix_6 a p b r D (n + 1) x i = _
    rw [f_Heap_productOfMix_6, if_neg (fun q => by have := (zI_le (by omega) (by omega) (by omega) (by omega)).mp q; omega), if_pos gi, if_pos gi, if_pos gi, wI_id z0 z1, e_pow y0 y1]
    rfl
theorem e_likely {D : Mm} {s : Int} (s0 : 0 ≤ s) (s1 : s < 6) (hh : ∀ w, 0 ≤ w → w < 4 → 0 ≤ D 164 w ∧ D 164 w ≤ 1000) (hr : ∀ w, 0 ≤ w → w < 4 → Rg (D 147 (4 * s + w))) : f_Model_likely s D = some (prd (fun w => D 147 (4 * s + w)) (fun w => D 164 w) 4) := by
  unfold f_Model_likely
  refine zup (fun n i x => f_Model_likely_5 s D n x i) 4 (fun i x => 0 ≤ i ∧ x = prd (fun w => D 147 (4 * s + w)) (fun w => D 164 w) i.toNat) (fun o => o = some (prd (fun w => D 147 (4 * s + w)) (fun w => D 164 w) 4)) ?_ ?_ 4 zF 0 1 rfl (by decide) (zF_pos (by decide)) ⟨by decide, rfl⟩
  · intro n x ⟨_, hb⟩
    show f_Model_likely_5 s D (n + 1) x 4 = _
    rw [f_Model_likely_5, if_pos (by decide +kernel), hb]
    rfl
  · intro n i x hi ⟨h2, hb⟩
    obtain ⟨y0, y1⟩ := hh i h2 hi
    obtain ⟨z0, z1⟩ := hr i h2 hi
    have gi : 0 ≤ i ∧ i < 4 := ⟨h2, hi⟩
    have g2 : 0 ≤ 4 * s + i ∧ 4 * s + i < 48 := by omega
    refine ⟨x * (D 147 (4 * s + i)) ^ (D 164 i).toNat, ⟨by omega, by rw [hb, prd_s h2]⟩, ?_⟩
    show f_Model_likely_5 s D (n + 1) x i = _
    rw [f_Model_likely_5, if_neg (fun q => by have := (zI_le (by omega) (by omega) (by omega) (by omega)).mp q; omega), if_pos g2, if_pos gi, wI_id z0 z1, e_powM y0 y1]
    rfl
theorem prd_b {W h : Int → Int} : ∀ n : Nat, (∀ k : Int, 0 ≤ k → k < n → 0 ≤ W k ∧ W k ≤ 100 ∧ 0 ≤ h k) → 0 ≤ prd W h n ∧ prd W h n ≤ 100 ^ (zsum h n).toNat ∧ 0 ≤ zsum h n := by
  intro n
  induction n with
  | zero => intro _; exact ⟨show (0 : Int) ≤ 1 by decide, show (1 : Int) ≤ 100 ^ (0 : Int).toNat by decide, show (0 : Int) ≤ 0 by decide⟩
  | succ n ih =>
    intro hh
    obtain ⟨i1, i2, i3⟩ := ih (fun k h0 h1 => hh k h0 (by omega))
    obtain ⟨w0, w1, w2⟩ := hh n (by omega) (by omega)
    obtain ⟨p0, p1⟩ := pow_b w0 100 w1 (h n).toNat
    show 0 ≤ prd W h n * (W n) ^ (h n).toNat ∧ prd W h n * (W n) ^ (h n).toNat ≤ 100 ^ (zsum h n + h n).toNat ∧ 0 ≤ zsum h n + h n
    have e : (zsum h n + h n).toNat = (zsum h n).toNat + (h n).toNat := by omega
    refine ⟨Int.mul_nonneg i1 p0, ?_, by omega⟩
    rw [e, Int.pow_add]
    exact Int.mul_le_mul i2 p1 p0 (Int.le_trans i1 i2)
-- the two sides' products
def lk (D : Mm) (q s a b c d : Int) : Int := prd (fun w => D (q + 2 + s) w) (fun w => p4 D 11 a b c d 11 w) 4
theorem lk_b {D : Mm} {q s a b c d : Int} (h : QL D q) (s0 : 0 ≤ s) (s1 : s < D q 0) (hk : hok a b c d 8) : 0 ≤ lk D q s a b c d ∧ lk D q s a b c d ≤ 10000000000000000 := by
  have hk2 := hk
  unfold hok at hk2
  obtain ⟨x1, x2, x3⟩ := prd_b (W := fun w => D (q + 2 + s) w) (h := fun w => p4 D 11 a b c d 11 w) 4 (fun k k0 k1 => ⟨(h.2.2.1 s k s0 s1 k0 (by omega)).2.1, (h.2.2.1 s k s0 s1 k0 (by omega)).2.2, (p4_at hk k0 (by omega)).1⟩)
  rw [p4_sum] at x2
  refine ⟨x1, Int.le_trans x2 ?_⟩
  have : (100 : Int) ^ (a + b + c + d).toNat ≤ 100 ^ 8 := by
    have h8 : (List.range 9).all (fun n => decide ((100 : Int) ^ n ≤ 10000000000000000)) = true := by decide +kernel
    exact of_decide_eq_true (List.all_eq_true.mp h8 (a + b + c + d).toNat (List.mem_range.mpr (by omega)))
  exact this
theorem e_of {D : Mm} {q s a b c d L : Int} (hq : q = 32 ∨ q = 69) (h : QL D q) (s0 : 0 ≤ s) (s1 : s < D q 0) (hk : hok a b c d L) (hL : L ≤ 1000) : f_Heap_productOf (q + 2 + s) (p4 D 11 a b c d) = some (lk D q s a b c d) := by
  have hs := h.1
  have e1 : ∀ w, p4 D 11 a b c d (q + 2 + s) w = D (q + 2 + s) w := fun w => p4_ne (by omega)
  unfold f_Heap_productOf
  rw [e_mix (fun w w0 w1 => by have := p4_at (D := D) (x := 11) hk w0 w1; exact ⟨this.1, by omega⟩) (fun w w0 w1 => by rw [e1]; have := h.2.2.1 s w s0 s1 w0 w1; unfold Rg; omega)]
  show some _ = some _
  congr 1
  exact prd_cong 4 (fun k k0 k1 => ⟨by rw [e1]; omega, rfl⟩)
theorem e_ofM {D E : Mm} {q s a b c d L : Int} (h : QL D q) (s0 : 0 ≤ s) (s1 : s < D q 0) (hk : hok a b c d L) (hL : L ≤ 1000) (hE : ∀ x i, x ≠ 164 → x ≠ 11 → E x i = D x i) (hE2 : ∀ w, 0 ≤ w → w < 4 → E 164 w = p4 D 11 a b c d 11 w) : f_Model_likely s E = some (lk D q s a b c d) := by
  have hs := h.1
  have e1 : ∀ w, 0 ≤ w → w < 4 → E 147 (4 * s + w) = D (q + 2 + s) w := fun w w0 w1 => by rw [hE _ _ (by omega) (by omega)]; exact (h.2.2.1 s w s0 s1 w0 w1).1
  rw [e_likely s0 (by omega) (fun w w0 w1 => by rw [hE2 w w0 w1]; have := p4_at (D := D) (x := 11) hk w0 w1; exact ⟨this.1, by omega⟩) (fun w w0 w1 => by rw [e1 w w0 w1]; have := h.2.2.1 s w s0 s1 w0 w1; unfold Rg; omega)]
  congr 1
  exact prd_cong 4 (fun k k0 k1 => ⟨e1 k k0 (by omega), hE2 k k0 (by omega)⟩)
theorem Iv.p11 {D : Mm} (h : Iv D) (a b c d : Int) : Iv (p4 D 11 a b c d) := h.cong (fun x i hr => p4_ne (by have := h.q; unfold Rel Bk0 at hr; omega))
theorem Iv.p164 {D : Mm} (h : Iv D) (a b c d : Int) : Iv (p4 D 164 a b c d) := h.cong (fun x i hr => p4_ne (by have := h.q; unfold Rel Bk0 at hr; omega))
theorem zb_some {α : Type} (a : Int) (D : Mm) (k : Int → Mm → Option α) : zb (some (a, D)) k = k a D := rfl
theorem n10 : ¬ zI 1 = 0 := by decide +kernel
theorem q_heap {D : Mm} (h : Iv D) {s a b c d p : Int} (hs0 : Rg s) (ha : Rg a) (hb : Rg b) (hc : Rg c) (hd : Rg d) (hp : Rg p) : EqMM (f_Main_heap s a b c d p D) (f_Model_heap s a b c d p) := by
  have hh := h
  have hq := h.q
  obtain ⟨-, -, hql, -⟩ := h
  have hs := hql.1
  unfold f_Main_heap f_Main_heap_39
  rw [if_pos hq, e_hasSort hs0 ⟨by omega, by omega⟩, bnd_if, e_within hp ⟨by decide, by decide⟩ ⟨by decide, by decide⟩, bnd_if]
  by_cases c1 : 0 ≤ s ∧ s < D (D 1 7) 0
  · rw [if_pos c1]
    by_cases c2 : 0 ≤ p ∧ p ≤ 1
    · rw [if_pos c2]
      by_cases c3 : hok a b c d 8
      · rw [(e_pile ha hb hc hd (by decide) (by decide)).1 c3]
        rw [zb_some, if_neg n10]
        generalize hE : p4 D 11 a b c d = E
        generalize hG : p4 E 164 a b c d = G
        have oE : ∀ x i, x ≠ 11 → E x i = D x i := fun x i hx => by rw [← hE]; exact p4_ne hx
        have oG : ∀ x i, x ≠ 164 → x ≠ 11 → G x i = D x i := fun x i h1 h2 => by rw [← hG, p4_ne h1, oE x i h2]
        have G2 : ∀ w, 0 ≤ w → w < 4 → G 164 w = p4 D 11 a b c d 11 w := fun w w0 w1 => by rw [← hG]; exact p4_two w0 w1
        have IG : Iv G := by rw [← hG, ← hE]; exact (hh.p11 a b c d).p164 a b c d
        have e17 : E 1 7 = D 1 7 := oE _ _ (by decide)
        have eq0 : E (D 1 7) 0 = D (D 1 7) 0 := oE _ _ (by omega)
        have lb : ∀ i, 0 ≤ i → i < D (D 1 7) 0 → 0 ≤ lk D (D 1 7) i a b c d ∧ lk D (D 1 7) i a b c d ≤ 10000000000000000 := fun i i0 i1 => lk_b hql i0 i1 c3
        have prodC : ∀ i, 0 ≤ i → i < D (D 1 7) 0 → f_Heap_productOf (D 1 7 + 2 + i) E = some (lk D (D 1 7) i a b c d) := fun i i0 i1 => by rw [← hE]; exact e_of hq hql i0 i1 c3 (by decide)
        have prodM : ∀ i, 0 ≤ i → i < D (D 1 7) 0 → f_Model_likely i G = some (lk D (D 1 7) i a b c d) := fun i i0 i1 => e_ofM hql i0 i1 c3 (by decide) oG G2
        have sb := zsum_b (f := fun i => lk D (D 1 7) i a b c d) (M := 10000000000000000) (by decide) (D (D 1 7) 0).toNat (fun k k0 k1 => lb k k0 (by omega))
        have sb2 : zsum (fun i => lk D (D 1 7) i a b c d) (D (D 1 7) 0).toNat ≤ 60000000000000000 := by have := sb.2; omega
        generalize hS : zsum (fun i => lk D (D 1 7) i a b c d) (D (D 1 7) 0).toNat = S at sb sb2
        obtain ⟨sl0, sl1⟩ := lb s c1.1 c1.2
        have g10 : 0 ≤ s ∧ s < 6 := by omega
        have R1 : f_Main_heap_49 s p E zF 0 0 = some (if S = 0 then -4 else if p = 0 then lk D (D 1 7) s a b c d / zgcd (lk D (D 1 7) s a b c d) S else S / zgcd (lk D (D 1 7) s a b c d) S, E) := by
          refine zup (fun n i x => f_Main_heap_49 s p E n x i) (D (D 1 7) 0) (fun i x => 0 ≤ i ∧ x = zsum (fun i => lk D (D 1 7) i a b c d) i.toNat) (fun o => o = some (if S = 0 then -4 else if p = 0 then lk D (D 1 7) s a b c d / zgcd (lk D (D 1 7) s a b c d) S else S / zgcd (lk D (D 1 7) s a b c d) S, E)) ?_ ?_ (D (D 1 7) 0 - 0).toNat zF 0 0 rfl (by omega) (zF_pos (by omega)) ⟨by decide, rfl⟩
          · intro n x ⟨_, hx⟩
            show f_Main_heap_49 s p E (n + 1) x _ = _
            rw [f_Main_heap_49, e17, if_pos hq, eq0, if_pos (Int32.le_refl _), hx, hS]
            by_cases z : S = 0
            · rw [if_pos ((zL_eq (by omega) (by omega) (by omega) (by omega)).mpr z), if_pos z]
            · rw [if_neg (fun y => z ((zL_eq (by omega) (by omega) (by omega) (by omega)).mp y)), if_pos hq, if_pos g10, prodC s c1.1 c1.2, if_neg z]
              simp only [Option.bind_some]
              rw [e_lowest sl0 (by omega) (by omega) (by omega) hp]
              rfl
          · intro n i x hi ⟨i0, hx⟩
            have gi : 0 ≤ i ∧ i < 6 := by omega
            refine ⟨x + lk D (D 1 7) i a b c d, ⟨by omega, by rw [hx, zsum_s _ i0]⟩, ?_⟩
            show f_Main_heap_49 s p E (n + 1) x i = _
            have nc : ¬ zI (D (D 1 7) 0) ≤ zI i := fun q => by have := (zI_le (by omega) (by omega) (by omega) (by omega)).mp q; omega
            rw [f_Main_heap_49, e17, if_pos hq, eq0, if_neg nc, if_pos hq, if_pos gi, prodC i i0 hi]
            rfl
        have R2 : f_Model_heap_44 s p G zF 0 0 = some (if S = 0 then -4 else if p = 0 then lk D (D 1 7) s a b c d / zgcd (lk D (D 1 7) s a b c d) S else S / zgcd (lk D (D 1 7) s a b c d) S, G) := by
          refine zup (fun n i x => f_Model_heap_44 s p G n x i) (D (D 1 7) 0) (fun i x => 0 ≤ i ∧ x = zsum (fun i => lk D (D 1 7) i a b c d) i.toNat) (fun o => o = some (if S = 0 then -4 else if p = 0 then lk D (D 1 7) s a b c d / zgcd (lk D (D 1 7) s a b c d) S else S / zgcd (lk D (D 1 7) s a b c d) S, G)) ?_ ?_ (D (D 1 7) 0 - 0).toNat zF 0 0 rfl (by omega) (zF_pos (by omega)) ⟨by decide, rfl⟩
          · intro n x ⟨_, hx⟩
            show f_Model_heap_44 s p G (n + 1) x _ = _
            rw [f_Model_heap_44, oG _ _ (by decide) (by decide), hs.2.2, if_pos (Int32.le_refl _), hx, hS]
            by_cases z : S = 0
            · rw [if_pos ((zL_eq (by omega) (by omega) (by omega) (by omega)).mpr z), if_pos z]
            · have g0 := zgcd_pos (x := lk D (D 1 7) s a b c d) (show 0 < S by omega)
              have g1 := zgcd_le (x := lk D (D 1 7) s a b c d) (show 0 < S by omega)
              have n2 : ¬ zL (zgcd (lk D (D 1 7) s a b c d) S) = 0 := fun y => by have := (zL_eq0 (by omega) (by omega)).mp y; omega
              rw [if_neg (fun y => z ((zL_eq (by omega) (by omega) (by omega) (by omega)).mp y)), prodM s c1.1 c1.2, if_neg z]
              simp only [Option.bind_some]
              rw [e_common sl0 (by omega) (by omega) (by omega)]
              simp only [Option.bind_some]
              rw [if_neg n2, if_neg n2, jldiv_nn sl0 (by omega) g0 (by omega), jldiv_nn sb.1 (by omega) g0 (by omega)]
              by_cases hp0 : p = 0
              · rw [if_pos hp0, if_pos ((zI_eq0 hp.1 hp.2).mpr hp0)]
              · rw [if_neg hp0, if_neg (fun q => hp0 ((zI_eq0 hp.1 hp.2).mp q))]
          · intro n i x hi ⟨i0, hx⟩
            refine ⟨x + lk D (D 1 7) i a b c d, ⟨by omega, by rw [hx, zsum_s _ i0]⟩, ?_⟩
            show f_Model_heap_44 s p G (n + 1) x i = _
            have nc : ¬ zI (D (D 1 7) 0) ≤ zI i := fun q => by have := (zI_le (by omega) (by omega) (by omega) (by omega)).mp q; omega
            rw [f_Model_heap_44, oG _ _ (by decide) (by decide), hs.2.2, if_neg nc, prodM i i0 hi]
            rfl
        refine ⟨_, E, G, R1, ?_, IG⟩
        unfold f_Model_heap
        have e146 : E 146 0 = D (D 1 7) 0 := by rw [oE _ _ (by decide)]; exact hs.2.2
        rw [e_isSort hs0 e146 ⟨by omega, by omega⟩, bnd_if, if_pos c1, (e_isHeap ha hb hc hd (by decide) (by decide)).1 c3, hG]
        rw [zb_some, if_neg n10, wI_id hp.1 hp.2, e_in hp ⟨by decide, by decide⟩ ⟨by decide, by decide⟩, bnd_if, if_pos c2]
        exact R2
      · rw [(e_pile ha hb hc hd (by decide) (by decide)).2 c3]
        refine ⟨-1, D, p4 D 164 a b c d, rfl, ?_, hh.p164 a b c d⟩
        unfold f_Model_heap f_Model_heap_34
        rw [e_isSort hs0 hs.2.2 ⟨by omega, by omega⟩, bnd_if, if_pos c1, (e_isHeap ha hb hc hd (by decide) (by decide)).2 c3]
        rfl
    · rw [if_neg c2]
      refine ⟨-1, D, p4 D 164 a b c d, rfl, ?_, hh.p164 a b c d⟩
      unfold f_Model_heap f_Model_heap_34
      rw [e_isSort hs0 hs.2.2 ⟨by omega, by omega⟩, bnd_if, if_pos c1]
      by_cases c3 : hok a b c d 8
      · rw [(e_isHeap ha hb hc hd (by decide) (by decide)).1 c3]
        rw [zb_some, if_neg n10, wI_id hp.1 hp.2, e_in hp ⟨by decide, by decide⟩ ⟨by decide, by decide⟩, bnd_if, if_neg c2]
      · rw [(e_isHeap ha hb hc hd (by decide) (by decide)).2 c3]
        rfl
  · rw [if_neg c1]
    refine ⟨-1, D, D, rfl, ?_, hh⟩
    unfold f_Model_heap f_Model_heap_34
    rw [e_isSort hs0 hs.2.2 ⟨by omega, by omega⟩, bnd_if, if_neg c1]
theorem q_most {D : Mm} (h : Iv D) {a b c d : Int} (ha : Rg a) (hb : Rg b) (hc : Rg c) (hd : Rg d) : EqMM (f_Main_most a b c d D) (f_Model_most a b c d) := by
  have hh := h
  have hq := h.q
  obtain ⟨-, -, hql, -⟩ := h
  have hs := hql.1
  unfold f_Main_most
  by_cases c3 : hok a b c d 8
  · rw [(e_pile ha hb hc hd (by decide) (by decide)).1 c3]
    rw [zb_some, if_neg n10]
    generalize hE : p4 D 11 a b c d = E
    generalize hG : p4 E 164 a b c d = G
    have oE : ∀ x i, x ≠ 11 → E x i = D x i := fun x i hx => by rw [← hE]; exact p4_ne hx
    have oG : ∀ x i, x ≠ 164 → x ≠ 11 → G x i = D x i := fun x i h1 h2 => by rw [← hG, p4_ne h1, oE x i h2]
    have G2 : ∀ w, 0 ≤ w → w < 4 → G 164 w = p4 D 11 a b c d 11 w := fun w w0 w1 => by rw [← hG]; exact p4_two w0 w1
    have IG : Iv G := by rw [← hG, ← hE]; exact (hh.p11 a b c d).p164 a b c d
    have e17 : E 1 7 = D 1 7 := oE _ _ (by decide)
    have eq0 : E (D 1 7) 0 = D (D 1 7) 0 := oE _ _ (by omega)
    have lb : ∀ i, 0 ≤ i → i < D (D 1 7) 0 → 0 ≤ lk D (D 1 7) i a b c d ∧ lk D (D 1 7) i a b c d ≤ 10000000000000000 := fun i i0 i1 => lk_b hql i0 i1 c3
    have prodC : ∀ i, 0 ≤ i → i < D (D 1 7) 0 → f_Heap_productOf (D 1 7 + 2 + i) E = some (lk D (D 1 7) i a b c d) := fun i i0 i1 => by rw [← hE]; exact e_of hq hql i0 i1 c3 (by decide)
    have prodM : ∀ i, 0 ≤ i → i < D (D 1 7) 0 → f_Model_likely i G = some (lk D (D 1 7) i a b c d) := fun i i0 i1 => e_ofM hql i0 i1 c3 (by decide) oG G2
    have L : ∀ (k n : Nat) (bc gr bm i : Int), (D (D 1 7) 0 - i).toNat = k → 1 ≤ i → i ≤ D (D 1 7) 0 → 0 ≤ bm → bm < D (D 1 7) 0 → ((bc = -4 ∧ gr = 0 ∧ lk D (D 1 7) bm a b c d = 0) ∨ (bc = bm ∧ gr = lk D (D 1 7) bm a b c d ∧ 0 < gr)) → k < n → ∃ r, f_Main_most_29 E n bc gr i = some (r, E) ∧ f_Model_most_22 G n bm i = some (r, G) := by
      intro k
      induction k with
      | zero =>
        intro n bc gr bm i hk i0 i1 m0 m1 hv hn
        obtain ⟨m, rfl⟩ : ∃ m, n = m + 1 := ⟨n - 1, by omega⟩
        have : i = D (D 1 7) 0 := by omega
        subst this
        obtain ⟨l0, l1⟩ := lb bm m0 m1
        rw [f_Main_most_29, f_Model_most_22, e17, if_pos hq, eq0, if_pos (Int32.le_refl _), oG _ _ (by decide) (by decide), hs.2.2, if_pos (Int32.le_refl _), prodM bm m0 m1]
        simp only [Option.bind_some]
        refine ⟨bc, rfl, ?_⟩
        rcases hv with ⟨x1, x2, x3⟩ | ⟨x1, x2, x3⟩
        · rw [x3, if_pos rfl, x1]
        · rw [if_neg (fun y => by have := (zL_eq (by omega) (by omega) (by omega) (by omega)).mp y; omega), x1]
      | succ k ih =>
        intro n bc gr bm i hk i0 i1 m0 m1 hv hn
        obtain ⟨m, rfl⟩ : ∃ m, n = m + 1 := ⟨n - 1, by omega⟩
        have nc : ¬ zI (D (D 1 7) 0) ≤ zI i := fun q => by have := (zI_le (by omega) (by omega) (by omega) (by omega)).mp q; omega
        have gi : 0 ≤ i ∧ i < 6 := by omega
        obtain ⟨l0, l1⟩ := lb bm m0 m1
        obtain ⟨k0, k1⟩ := lb i (by omega) (by omega)
        rw [f_Main_most_29, f_Model_most_22, e17, if_pos hq, eq0, if_neg nc, if_pos hq, if_pos gi, oG _ _ (by decide) (by decide), hs.2.2, if_neg nc, prodC i (by omega) (by omega), prodM i (by omega) (by omega), prodM bm m0 m1]
        simp only [Option.bind_some]
        unfold f_Main_most_76 f_Model_most_56
        have hgr : gr = lk D (D 1 7) bm a b c d := by rcases hv with ⟨x1, x2, x3⟩ | ⟨x1, x2, x3⟩ <;> omega
        rw [hgr]
        by_cases z : lk D (D 1 7) i a b c d ≤ lk D (D 1 7) bm a b c d
        · have z1 := (zL_le (a := lk D (D 1 7) i a b c d) (b := lk D (D 1 7) bm a b c d) (by omega) (by omega) (by omega) (by omega)).mpr z
          rw [if_pos z1, if_pos z1]
          exact ih m bc _ bm (i + 1) (by omega) (by omega) (by omega) m0 m1 (by rcases hv with ⟨x1, x2, x3⟩ | ⟨x1, x2, x3⟩; exact Or.inl ⟨x1, x3, x3⟩; exact Or.inr ⟨x1, rfl, by omega⟩) (by omega)
        · have z1 : ¬ zL (lk D (D 1 7) i a b c d) ≤ zL (lk D (D 1 7) bm a b c d) := fun y => z ((zL_le (by omega) (by omega) (by omega) (by omega)).mp y)
          rw [if_neg z1, if_neg z1]
          exact ih m i _ i (i + 1) (by omega) (by omega) (by omega) (by omega) (by omega) (Or.inr ⟨rfl, rfl, by omega⟩) (by omega)
    have hz : zF = 999999 + 1 := rfl
    obtain ⟨f0, f1⟩ := lb 0 (by decide) (by omega)
    have first : ∃ bc gr, f_Main_most_29 E zF (-4) 0 0 = f_Main_most_29 E 999999 bc gr 1 ∧ ((bc = -4 ∧ gr = 0 ∧ lk D (D 1 7) 0 a b c d = 0) ∨ (bc = 0 ∧ gr = lk D (D 1 7) 0 a b c d ∧ 0 < gr)) := by
      have nc : ¬ zI (D (D 1 7) 0) ≤ zI 0 := fun q => by have := (zI_le (by omega) (by omega) (by omega) (by omega)).mp q; omega
      rw [hz, f_Main_most_29, e17, if_pos hq, eq0, if_neg nc, if_pos hq, if_pos (by decide), prodC 0 (by decide) (by omega)]
      simp only [Option.bind_some]
      unfold f_Main_most_76
      by_cases z : lk D (D 1 7) 0 a b c d ≤ 0
      · rw [if_pos ((zL_le (by omega) (by omega) (by omega) (by omega)).mpr z)]
        exact ⟨-4, 0, rfl, Or.inl ⟨rfl, rfl, by omega⟩⟩
      · rw [if_neg (fun y => z ((zL_le (by omega) (by omega) (by omega) (by omega)).mp y))]
        exact ⟨0, _, rfl, Or.inr ⟨rfl, rfl, by omega⟩⟩
    obtain ⟨bc, gr, e1, hv⟩ := first
    -- the model's loop with fuel zF, the class's with one less: both suffice
    have L2 : ∃ r, f_Main_most_29 E 999999 bc gr 1 = some (r, E) ∧ f_Model_most_22 G zF 0 1 = some (r, G) := by
      obtain ⟨r, r1, -⟩ := L (D (D 1 7) 0 - 1).toNat 999999 bc gr 0 1 rfl (by decide) (by omega) (by decide) (by omega) hv (by omega)
      obtain ⟨r', r1', r2'⟩ := L (D (D 1 7) 0 - 1).toNat zF bc gr 0 1 rfl (by decide) (by omega) (by decide) (by omega) hv (zF_pos (by omega))
      have key : ∀ (k n : Nat) (x y i : Int), (D (D 1 7) 0 - i).toNat = k → 0 ≤ i → i ≤ D (D 1 7) 0 → k < n → f_Main_most_29 E (n + 1) x y i = f_Main_most_29 E n x y i := by
        intro k
        induction k with
        | zero =>
          intro n x y i hk i0 i1 hn
          obtain ⟨m, rfl⟩ : ∃ m, n = m + 1 := ⟨n - 1, by omega⟩
          have : i = D (D 1 7) 0 := by omega
          subst this
          rw [f_Main_most_29, f_Main_most_29, e17, if_pos hq, eq0, if_pos (Int32.le_refl _), if_pos hq, if_pos (Int32.le_refl _)]
        | succ k ih =>
          intro n x y i hk i0 i1 hn
          obtain ⟨m, rfl⟩ : ∃ m, n = m + 1 := ⟨n - 1, by omega⟩
          have nc : ¬ zI (D (D 1 7) 0) ≤ zI i := fun q => by have := (zI_le (by omega) (by omega) (by omega) (by omega)).mp q; omega
          have gi : 0 ≤ i ∧ i < 6 := by omega
          rw [f_Main_most_29, e17, if_pos hq, eq0, if_neg nc, if_pos hq, if_pos gi]
          conv => rhs; rw [f_Main_most_29, e17, if_pos hq, eq0, if_neg nc, if_pos hq, if_pos gi]
          rw [prodC i i0 (by omega)]
          simp only [Option.bind_some]
          unfold f_Main_most_76
          split
          · exact ih m _ _ (i + 1) (by omega) (by omega) (by omega) (by omega)
          · exact ih m _ _ (i + 1) (by omega) (by omega) (by omega) (by omega)
      have e2 := key (D (D 1 7) 0 - 1).toNat 999999 bc gr 1 rfl (by decide) (by omega) (by omega)
      rw [hz] at r1'
      rw [e2] at r1'
      exact ⟨r', r1', r2'⟩
    obtain ⟨r, r1, r2⟩ := L2
    refine ⟨r, E, G, e1.trans r1, ?_, IG⟩
    unfold f_Model_most
    rw [(e_isHeap ha hb hc hd (by decide) (by decide)).1 c3, hG]
    rw [zb_some, if_neg n10]
    exact r2
  · rw [(e_pile ha hb hc hd (by decide) (by decide)).2 c3]
    refine ⟨-1, D, p4 D 164 a b c d, rfl, ?_, hh.p164 a b c d⟩
    unfold f_Model_most
    rw [(e_isHeap ha hb hc hd (by decide) (by decide)).2 c3]
    rfl

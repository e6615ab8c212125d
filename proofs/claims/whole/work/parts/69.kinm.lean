theorem e_areNear {D E : Mm} {q a b L : Int} (h : QL D q) (hE : ∀ x i, x ≠ 165 → x ≠ 166 → E x i = D x i) (a0 : 0 ≤ a) (a1 : a < D q 0) (b0 : 0 ≤ b) (b1 : b < D q 0) (L0 : 0 ≤ L) (L1 : L ≤ 200) : ∃ G, f_Model_areNear a b L E = some (if dfs D q a 0 b ≤ L then 1 else 0, G) ∧ ∀ x i, x ≠ 166 → G x i = E x i := by
  have hs := h.1
  have d := e_diff h a0 a1 (c := 0) (by decide) (by decide) b0 b1
  unfold f_Model_areNear
  refine zup (fun n i G => f_Model_areNear_3 a b L n i G) 4 (fun i G => 0 ≤ i ∧ (∀ k, 0 ≤ k → k < i → G 166 k = D (q + 2 + b) k) ∧ ∀ x i, x ≠ 166 → G x i = E x i) (fun o => ∃ G, o = some (if dfs D q a 0 b ≤ L then 1 else 0, G) ∧ ∀ x i, x ≠ 166 → G x i = E x i) ?_ ?_ 4 zF 0 E rfl (by decide) (zF_pos (by decide)) ⟨by decide, fun k k0 k1 => by omega, fun x i _ => rfl⟩
  · intro n G ⟨_, g1, g2⟩
    refine ⟨G, ?_, g2⟩
    show f_Model_areNear_3 a b L (n + 1) 4 G = _
    have hb : ∀ w, 0 ≤ w → w < 4 → G 147 (4 * a + w) = D (q + 2 + a) w ∧ -200 ≤ D (q + 2 + a) w - D (q + 2 + b) w ∧ D (q + 2 + a) w - D (q + 2 + b) w ≤ 200 := fun w w0 w1 => by
      obtain ⟨x0, x1, x2⟩ := h.2.2.1 a w a0 a1 w0 w1
      obtain ⟨y0, y1, y2⟩ := h.2.2.1 b w b0 b1 w0 w1
      exact ⟨by rw [g2 _ _ (by decide), hE _ _ (by decide) (by decide), x0], by omega, by omega⟩
    have ap : f_Model_apart a 166 G = some (dfs D q a 0 b) := by
      rw [e_apart (g := fun _ => 0) a0 (by omega) (fun w w0 w1 => by rw [(hb w w0 w1).1, g1 w w0 w1]; exact (hb w w0 w1).2)]
      congr 1
      exact zsum_cong 4 (fun w w0 w1 => by rw [(hb w w0 (by omega)).1, g1 w w0 (by omega), ckd_0])
    rw [f_Model_areNear_3, if_pos (show zI 4 ≤ zI 4 from Int32.le_refl _), ap]
    simp only [Option.bind_some]
    by_cases z : dfs D q a 0 b ≤ L
    · rw [if_neg (fun y => by have := (zI_lt (by omega) (by omega) (by omega) (by omega)).mp y; omega), if_pos z]
    · rw [if_pos ((zI_lt (by omega) (by omega) (by omega) (by omega)).mpr (by omega)), if_neg z]
  · intro n i G hi ⟨i0, g1, g2⟩
    have gg : 0 ≤ 4 * b + i ∧ 4 * b + i < 48 := by omega
    refine ⟨stm G 166 i (G 147 (4 * b + i)), ⟨by omega, fun k k0 k1 => ?_, fun x j hx => by rw [stm_ne (by omega)]; exact g2 x j hx⟩, ?_⟩
    · by_cases e : k = i
      · subst e
        rw [stm_eq ⟨rfl, rfl⟩, g2 _ _ (by decide), hE _ _ (by decide) (by decide)]
        exact (h.2.2.1 b k b0 b1 k0 hi).1
      · rw [stm_ne (by omega)]
        exact g1 k k0 (by omega)
    · show f_Model_areNear_3 a b L (n + 1) i G = _
      rw [f_Model_areNear_3, if_neg (fun q => by have := (zI_le (by omega) (by omega) (by omega) (by omega)).mp q; omega), if_pos gg, if_pos ⟨i0, hi⟩]
      rfl
def Hst (D : Mm) (q L : Int) (E : Mm) : Prop := (∀ x i, x ≠ 165 → x ≠ 166 → E x i = D x i) ∧ ∀ i, 0 ≤ i → i < D q 0 → ∃ m, Bl (D q 0) (nrr D q L) i m (E 165 i)
theorem e_k77 {D E : Mm} {q a L v2 v3 : Int} (K : Int → Mm → Option (Int × Mm)) (h : QL D q) (hE : Hst D q L E) (a0 : 0 ≤ a) (a1 : a < D q 0) (L0 : 0 ≤ L) (L1 : L ≤ 200) : ∃ G, f_Model_kin_77 L v2 v3 a K zF 0 E = K (a + 1) G ∧ Hst D q L G ∧ (∀ i, i ≠ a → G 165 i = E 165 i) ∧ G 165 a ≤ E 165 a ∧ (∀ j, 0 ≤ j → j < D q 0 → nrr D q L a j → G 165 a ≤ E 165 j) := by
  have hs := h.1
  refine zup (fun n i G => f_Model_kin_77 L v2 v3 a K n i G) (D q 0) (fun i G => 0 ≤ i ∧ Hst D q L G ∧ (∀ i, i ≠ a → G 165 i = E 165 i) ∧ G 165 a ≤ E 165 a ∧ (∀ j, 0 ≤ j → j < i → nrr D q L a j → G 165 a ≤ E 165 j)) (fun o => ∃ G, o = K (a + 1) G ∧ Hst D q L G ∧ (∀ i, i ≠ a → G 165 i = E 165 i) ∧ G 165 a ≤ E 165 a ∧ (∀ j, 0 ≤ j → j < D q 0 → nrr D q L a j → G 165 a ≤ E 165 j)) ?_ ?_ (D q 0 - 0).toNat zF 0 E rfl (by omega) (zF_pos (by omega)) ⟨by decide, hE, fun i _ => rfl, by omega, fun j j0 j1 => by omega⟩
  · intro n G ⟨_, g1, g2, g3, g4⟩
    refine ⟨G, ?_, g1, g2, g3, g4⟩
    show f_Model_kin_77 L v2 v3 a K (n + 1) (D q 0) G = _
    rw [f_Model_kin_77, g1.1 146 0 (by decide) (by decide), hs.2.2, if_pos (Int32.le_refl _)]
  · intro n i G hi ⟨i0, g1, g2, g3, g4⟩
    obtain ⟨F, f1, f2⟩ := e_areNear h g1.1 a0 a1 i0 hi L0 L1
    have nc : ¬ zI (D q 0) ≤ zI i := fun q => by have := (zI_le (by omega) (by omega) (by omega) (by omega)).mp q; omega
    have ga : 0 ≤ a ∧ a < 6 := by omega
    have gi : 0 ≤ i ∧ i < 6 := by omega
    have F165 : ∀ j, F 165 j = G 165 j := fun j => f2 165 j (by decide)
    obtain ⟨ma, hma⟩ := g1.2 a a0 a1
    obtain ⟨mi, hmi⟩ := g1.2 i i0 hi
    have ra := Bl_in a0 a1 hma
    have ri := Bl_in i0 hi hmi
    have key : f_Model_kin_77 L v2 v3 a K (n + 1) i G = f_Model_kin_77 L v2 v3 a K n (i + 1) (stm F 165 a (if dfs D q a 0 i ≤ L ∧ G 165 i < G 165 a then G 165 i else G 165 a)) := by
      rw [f_Model_kin_77, g1.1 146 0 (by decide) (by decide), hs.2.2, if_neg nc, f1, zb_some]
      unfold f_Model_kin_133 f_Model_kin_140
      by_cases z : dfs D q a 0 i ≤ L
      · rw [if_pos z, if_neg n10, if_pos gi, if_pos ga, if_pos gi, if_pos ga]
        by_cases y : G 165 a ≤ G 165 i
        · rw [F165, F165, if_pos ((zI_le (by omega) (by omega) (by omega) (by omega)).mpr y), if_neg (show ¬ (dfs D q a 0 i ≤ L ∧ G 165 i < G 165 a) by omega), if_pos ga]
          rfl
        · rw [F165, F165, if_neg (fun x => y ((zI_le (by omega) (by omega) (by omega) (by omega)).mp x)), if_pos (show dfs D q a 0 i ≤ L ∧ G 165 i < G 165 a by omega), if_pos ga]
          rfl
      · rw [if_neg z, if_pos (show zI 0 = 0 by decide +kernel), if_pos ga, if_pos ga, if_neg (fun x => z x.1), F165]
        rfl
    generalize hy : (if dfs D q a 0 i ≤ L ∧ G 165 i < G 165 a then G 165 i else G 165 a) = y at key
    have y1 : y ≤ G 165 a := by rw [← hy]; split <;> omega
    have y2 : nrr D q L a i → y ≤ G 165 i := fun z => by
      have z : dfs D q a 0 i ≤ L := z
      rw [← hy]
      by_cases w : G 165 i < G 165 a
      · rw [if_pos ⟨z, w⟩]; omega
      · rw [if_neg (fun x => w x.2)]; omega
    have y3 : ∃ m, Bl (D q 0) (nrr D q L) a m y := by
      rw [← hy]
      by_cases w : dfs D q a 0 i ≤ L ∧ G 165 i < G 165 a
      · rw [if_pos w]; exact ⟨mi + 1, Bl_tsrif (R := nrr D q L) (show nrr D q L a i from w.1) i0 hi mi _ hmi⟩
      · rw [if_neg w]; exact ⟨ma, hma⟩
    have s1 : stm F 165 a y 165 a = y := stm_eq ⟨rfl, rfl⟩
    have s2 : ∀ j, j ≠ a → stm F 165 a y 165 j = G 165 j := fun j hj => by rw [stm_ne (by omega), F165]
    refine ⟨stm F 165 a y, ⟨by omega, ⟨fun x j h1 h2 => by rw [stm_ne (by omega), f2 x j h2]; exact g1.1 x j h1 h2, fun j j0 j1 => ?_⟩, fun j hj => by rw [s2 j hj]; exact g2 j hj, by rw [s1]; omega, fun j j0 j1 hr => ?_⟩, key⟩
    · by_cases e : j = a
      · subst e; rw [s1]; exact y3
      · rw [s2 j e]; exact g1.2 j j0 j1
    · rw [s1]
      by_cases e : j = i
      · subst e
        have := y2 hr
        by_cases ea : j = a
        · rw [ea]; omega
        · rw [← g2 j ea]; exact this
      · have := g4 j j0 (by omega) hr
        omega
theorem e_k63 {D E : Mm} {q L v2 v3 : Int} {r : Nat} (K : Int → Mm → Option (Int × Mm)) (h : QL D q) (hE : Hst D q L E) (hr : ∀ i x, 0 ≤ i → i < D q 0 → Bl (D q 0) (nrr D q L) i r x → E 165 i ≤ x) (L0 : 0 ≤ L) (L1 : L ≤ 200) : ∃ G, f_Model_kin_63 L v2 v3 K zF 0 E = K (v3 + 1) G ∧ Hst D q L G ∧ ∀ i x, 0 ≤ i → i < D q 0 → Bl (D q 0) (nrr D q L) i (r + 1) x → G 165 i ≤ x := by
  have hs := h.1
  refine zup (fun n i G => f_Model_kin_63 L v2 v3 K n i G) (D q 0) (fun a G => 0 ≤ a ∧ Hst D q L G ∧ (∀ i, 0 ≤ i → i < D q 0 → G 165 i ≤ E 165 i) ∧ ∀ i x, 0 ≤ i → i < a → Bl (D q 0) (nrr D q L) i (r + 1) x → G 165 i ≤ x) (fun o => ∃ G, o = K (v3 + 1) G ∧ Hst D q L G ∧ ∀ i x, 0 ≤ i → i < D q 0 → Bl (D q 0) (nrr D q L) i (r + 1) x → G 165 i ≤ x) ?_ ?_ (D q 0 - 0).toNat zF 0 E rfl (by omega) (zF_pos (by omega)) ⟨by decide, hE, fun i _ _ => by omega, fun i x i0 i1 => by omega⟩
  · intro n G ⟨_, g1, g2, g3⟩
    refine ⟨G, ?_, g1, g3⟩
    show f_Model_kin_63 L v2 v3 K (n + 1) (D q 0) G = _
    rw [f_Model_kin_63, g1.1 146 0 (by decide) (by decide), hs.2.2, if_pos (Int32.le_refl _)]
  · intro n a G ha ⟨a0, g1, g2, g3⟩
    have nc : ¬ zI (D q 0) ≤ zI a := fun q => by have := (zI_le (by omega) (by omega) (by omega) (by omega)).mp q; omega
    obtain ⟨F, f1, f2, f3, f4, f5⟩ := e_k77 (v2 := v2) (v3 := v3) (f_Model_kin_63 L v2 v3 K n) h g1 a0 ha L0 L1
    refine ⟨F, ⟨by omega, f2, fun i i0 i1 => ?_, fun i x i0 i1 hb => ?_⟩, ?_⟩
    · have := g2 i i0 i1
      by_cases e : i = a
      · subst e; omega
      · rw [f3 i e]; exact this
    · by_cases e : i = a
      · subst e
        obtain ⟨j, j1, j2, j3, j4⟩ := Bl_first r x hb
        have u1 := f5 j j2 j3 j1
        have u2 := g2 j j2 j3
        have u3 := hr j x j2 j3 j4
        omega
      · rw [f3 i e]; exact g3 i x i0 (by omega) hb
    · show f_Model_kin_63 L v2 v3 K (n + 1) a G = _
      rw [f_Model_kin_63, g1.1 146 0 (by decide) (by decide), hs.2.2, if_neg nc]
      exact f1
theorem e_k54 {D E : Mm} {q L v2 : Int} (h : QL D q) (hE : Hst D q L E) (hr : ∀ i, 0 ≤ i → i < D q 0 → E 165 i = i) (L0 : 0 ≤ L) (L1 : L ≤ 200) : ∃ G, f_Model_kin_54 L v2 zF 0 E = (if zI v2 < 0 then f_Model_kin_175 G zF 0 0 else if 0 ≤ v2 ∧ v2 < 6 then some (G 165 v2, G) else none) ∧ Hst D q L G ∧ ∀ i x, 0 ≤ i → i < D q 0 → Bl (D q 0) (nrr D q L) i 6 x → G 165 i ≤ x := by
  refine zup (fun n i G => f_Model_kin_54 L v2 n i G) 6 (fun a G => 0 ≤ a ∧ Hst D q L G ∧ ∀ i x, 0 ≤ i → i < D q 0 → Bl (D q 0) (nrr D q L) i a.toNat x → G 165 i ≤ x) (fun o => ∃ G, o = (if zI v2 < 0 then f_Model_kin_175 G zF 0 0 else if 0 ≤ v2 ∧ v2 < 6 then some (G 165 v2, G) else none) ∧ Hst D q L G ∧ ∀ i x, 0 ≤ i → i < D q 0 → Bl (D q 0) (nrr D q L) i 6 x → G 165 i ≤ x) ?_ ?_ 6 zF 0 E rfl (by decide) (zF_pos (by decide)) ⟨by decide, hE, fun i x i0 i1 hb => by have hb : x = i := hb; rw [hr i i0 i1]; omega⟩
  · intro n G ⟨_, g1, g2⟩
    refine ⟨G, ?_, g1, g2⟩
    show f_Model_kin_54 L v2 (n + 1) 6 G = _
    rw [f_Model_kin_54, if_pos (Int32.le_refl _)]
  · intro n a G ha ⟨a0, g1, g2⟩
    have nc : ¬ zI 6 ≤ zI a := fun q => by have := (zI_le (by omega) (by omega) (by omega) (by omega)).mp q; omega
    obtain ⟨F, f1, f2, f3⟩ := e_k63 (v2 := v2) (v3 := a) (f_Model_kin_54 L v2 n) h g1 g2 L0 L1
    refine ⟨F, ⟨by omega, f2, ?_⟩, ?_⟩
    · rw [show (a + 1).toNat = a.toNat + 1 by omega]
      exact f3
    · show f_Model_kin_54 L v2 (n + 1) a G = _
      rw [f_Model_kin_54, if_neg nc]
      exact f1
theorem e_k27 {D : Mm} {q L v2 : Int} (h : QL D q) (L0 : 0 ≤ L) (L1 : L ≤ 200) : ∃ G, f_Model_kin_27 L v2 D = (if zI v2 < 0 then f_Model_kin_175 G zF 0 0 else if 0 ≤ v2 ∧ v2 < 6 then some (G 165 v2, G) else none) ∧ Hst D q L G ∧ ∀ i x, 0 ≤ i → i < D q 0 → Bl (D q 0) (nrr D q L) i 6 x → G 165 i ≤ x := by
  have hs := h.1
  unfold f_Model_kin_27
  refine zup (fun n i G => f_Model_kin_29 L v2 n i G) (D q 0) (fun a G => 0 ≤ a ∧ (∀ x i, x ≠ 165 → G x i = D x i) ∧ ∀ i, 0 ≤ i → i < a → G 165 i = i) (fun o => ∃ G, o = (if zI v2 < 0 then f_Model_kin_175 G zF 0 0 else if 0 ≤ v2 ∧ v2 < 6 then some (G 165 v2, G) else none) ∧ Hst D q L G ∧ ∀ i x, 0 ≤ i → i < D q 0 → Bl (D q 0) (nrr D q L) i 6 x → G 165 i ≤ x) ?_ ?_ (D q 0 - 0).toNat zF 0 D rfl (by omega) (zF_pos (by omega)) ⟨by decide, fun x i _ => rfl, fun i i0 i1 => by omega⟩
  · intro n G ⟨_, g1, g2⟩
    obtain ⟨F, f1, f2⟩ := e_k54 (v2 := v2) h (E := G) ⟨fun x i h1 _ => g1 x i h1, fun i i0 i1 => ⟨0, g2 i i0 i1⟩⟩ g2 L0 L1
    refine ⟨F, ?_, f2⟩
    show f_Model_kin_29 L v2 (n + 1) (D q 0) G = _
    rw [f_Model_kin_29, g1 146 0 (by decide), hs.2.2, if_pos (Int32.le_refl _)]
    exact f1
  · intro n a G ha ⟨a0, g1, g2⟩
    have nc : ¬ zI (D q 0) ≤ zI a := fun q => by have := (zI_le (by omega) (by omega) (by omega) (by omega)).mp q; omega
    have ga : 0 ≤ a ∧ a < 6 := by omega
    refine ⟨stm G 165 a a, ⟨by omega, fun x i hx => by rw [stm_ne (by omega)]; exact g1 x i hx, fun i i0 i1 => ?_⟩, ?_⟩
    · by_cases e : i = a
      · rw [e, stm_eq ⟨rfl, rfl⟩]
      · rw [stm_ne (by omega)]; exact g2 i i0 (by omega)
    · show f_Model_kin_29 L v2 (n + 1) a G = _
      rw [f_Model_kin_29, g1 146 0 (by decide), hs.2.2, if_neg nc, if_pos ga]
      rfl
theorem q_kin {D : Mm} (h : Iv D) {L s : Int} (hL : Rg L) (hs0 : Rg s) : EqPM (f_Main_kin L s D) (f_Model_kin L s D) := by
  have hh := h
  have hq := h.q
  obtain ⟨-, -, hql, -⟩ := h
  have hs := hql.1
  unfold f_Main_kin f_Model_kin
  rw [e_within hL ⟨by decide, by decide⟩ ⟨by decide, by decide⟩, bnd_if, wI_id hL.1 hL.2, e_in hL ⟨by decide, by decide⟩ ⟨by decide, by decide⟩, bnd_if]
  by_cases c1 : 0 ≤ L ∧ L ≤ 200
  · rw [if_pos c1, if_pos c1]
    have rf : ∀ a, 0 ≤ a → a < D (D 1 7) 0 → nrr D (D 1 7) L a a := fun a _ _ => nrr_rf c1.1
    obtain ⟨G, g1, g2, g3⟩ := e_k27 (v2 := s) hql c1.1 c1.2
    have IG : Iv G := hh.cong (fun a i hr => g2.1 a i (by unfold Rel Bk0 at hr; omega) (by unfold Rel Bk0 at hr; omega))
    have low : ∀ i, 0 ≤ i → i < D (D 1 7) 0 → f_Quern_lowestKin (D 1 7) i L D = some (G 165 i) := by
      intro i i0 i1
      obtain ⟨t, t1, t2, t3⟩ := e_lowestKin hql i0 i1 c1.1 c1.2
      obtain ⟨m, hm⟩ := g2.2 i i0 i1
      have x1 := t3 _ (Bl_cap rf i0 i1 hm)
      have x2 := g3 i t i0 i1 (Bl_mono2 rf i0 i1 (by omega) t2)
      rw [t1]
      congr 1
      omega
    by_cases c2 : s = -1
    · subst c2
      rw [if_pos rfl, if_pos rfl, g1, if_pos (by decide +kernel)]
      unfold f_Main_kin_29
      rw [if_pos rfl, if_pos hq]
      unfold f_Quern_kinsOf
      have loop : ∀ (k n : Nat) (v i : Int), (D (D 1 7) 0 - i).toNat = k → 0 ≤ i → i ≤ D (D 1 7) 0 → k < n → ∃ r, f_Quern_kinsOf_4 (D 1 7) L D n v i = some r ∧ f_Model_kin_175 G n v i = some (r, G) := by
        intro k
        induction k with
        | zero =>
          intro n v i hk i0 i1 hn
          obtain ⟨m, rfl⟩ : ∃ m, n = m + 1 := ⟨n - 1, by omega⟩
          have : i = D (D 1 7) 0 := by omega
          subst this
          rw [f_Quern_kinsOf_4, f_Model_kin_175, g2.1 146 0 (by decide) (by decide), hs.2.2, if_pos (Int32.le_refl _), if_pos (Int32.le_refl _)]
          exact ⟨v, rfl, rfl⟩
        | succ k ih =>
          intro n v i hk i0 i1 hn
          obtain ⟨m, rfl⟩ : ∃ m, n = m + 1 := ⟨n - 1, by omega⟩
          have nc : ¬ zI (D (D 1 7) 0) ≤ zI i := fun q => by have := (zI_le (by omega) (by omega) (by omega) (by omega)).mp q; omega
          have gi : 0 ≤ i ∧ i < 6 := by omega
          rw [f_Quern_kinsOf_4, f_Model_kin_175, g2.1 146 0 (by decide) (by decide), hs.2.2, if_neg nc, if_neg nc, if_pos gi, low i i0 (by omega)]
          simp only [Option.bind_some]
          unfold f_Quern_kinsOf_25 f_Model_kin_204
          by_cases z : zI (G 165 i) = zI i
          · rw [if_pos z, if_pos z]
            exact ih m _ (i + 1) (by omega) (by omega) (by omega) (by omega)
          · rw [if_neg z, if_neg z, Int.add_zero]
            exact ih m _ (i + 1) (by omega) (by omega) (by omega) (by omega)
      obtain ⟨r, r1, r2⟩ := loop (D (D 1 7) 0 - 0).toNat zF 0 0 rfl (by decide) (by omega) (zF_pos (by omega))
      rw [r1, r2]
      exact ⟨r, G, rfl, rfl, IG⟩
    · have n1 : ¬ zI s = zI (-1) := fun y => c2 ((zI_eq hs0.1 hs0.2 (by decide) (by decide)).mp y)
      rw [if_neg n1, if_neg n1, if_pos hq, e_hasSort hs0 ⟨by omega, by omega⟩, bnd_if, e_isSort hs0 hs.2.2 ⟨by omega, by omega⟩, bnd_if]
      by_cases c3 : 0 ≤ s ∧ s < D (D 1 7) 0
      · rw [if_pos c3, if_pos c3, g1, if_neg (fun y => by have := (zI_lt0 hs0.1 hs0.2).mp y; omega), if_pos (by omega)]
        unfold f_Main_kin_29
        rw [if_neg n1, if_pos hq, low s c3.1 c3.2]
        exact ⟨_, G, rfl, rfl, IG⟩
      · rw [if_neg c3, if_neg c3]
        exact ⟨-1, D, rfl, rfl, hh⟩
  · rw [if_neg c1, if_neg c1]
    exact ⟨-1, D, rfl, rfl, hh⟩

def EqMM (x : Option (Int × Mm)) (g : Mm → Option (Int × Mm)) : Prop := ∃ r D1 D2, x = some (r, D1) ∧ g D1 = some (r, D2) ∧ Iv D2
def EqMP (x : Option (Int × Mm)) (g : Mm → Option Int) : Prop := ∃ r D1, x = some (r, D1) ∧ g D1 = some r ∧ Iv D1
def EqPM (x : Option Int) (y : Option (Int × Mm)) : Prop := ∃ r D2, x = some r ∧ y = some (r, D2) ∧ Iv D2
theorem zsum_0 {f : Int → Int} : ∀ n : Nat, (∀ k : Int, 0 ≤ k → k < n → f k = 0) → zsum f n = 0 := by
  intro n
  induction n with
  | zero => intro _; rfl
  | succ n ih =>
    intro h
    show zsum f n + f n = 0
    rw [ih (fun k h0 h1 => h k h0 (by omega)), h n (by omega) (by omega)]
    rfl
theorem zsum_tail {f : Int → Int} (p : Nat) : ∀ n : Nat, (∀ k : Int, (p : Int) ≤ k → k < ((p + n : Nat) : Int) → f k = 0) → zsum f (p + n) = zsum f p := by
  intro n
  induction n with
  | zero => intro _; rfl
  | succ n ih =>
    intro h
    show zsum f (p + n) + f ((p + n : Nat) : Int) = _
    rw [ih (fun k h0 h1 => h k h0 (by omega)), h _ (by omega) (by omega)]
    omega
theorem e_sizeL {D : Mm} {p : Int} (hp : D 148 0 = p) (h0 : 0 ≤ p) (h1 : p ≤ 10) : f_Model_size_71 D zF 0 0 = some (zsum (fun f => D 160 f) p.toNat) := by
  refine zup (fun n i b => f_Model_size_71 D n b i) p (fun i b => 0 ≤ i ∧ b = zsum (fun f => D 160 f) i.toNat) (fun o => o = some (zsum (fun f => D 160 f) p.toNat)) ?_ ?_ (p - 0).toNat zF 0 0 rfl h0 (zF_pos (by omega)) ⟨by decide, rfl⟩
  · intro n b ⟨_, hb⟩
    show f_Model_size_71 D (n + 1) b p = _
    rw [f_Model_size_71, hp, if_pos (by exact Int32.le_refl _), hb]
  · intro n i b hi ⟨h2, hb⟩
    refine ⟨b + D 160 i, ⟨by omega, by rw [hb, zsum_s _ h2]⟩, ?_⟩
    show f_Model_size_71 D (n + 1) b i = _
    rw [f_Model_size_71, hp, if_neg (fun q => by have := (zI_le (by omega) (by omega) (by omega) (by omega)).mp q; omega), if_pos ⟨by omega, by omega⟩]
theorem q_size {D : Mm} (h : Iv D) {w : Int} (hw : Rg w) : Eq2 (f_Main_size w D) (f_Model_size w D) := by
  have hq := h.q
  obtain ⟨htx, -, ⟨hs, hp, -⟩, hfl, hk, -⟩ := h
  unfold f_Main_size f_Model_size
  simp only [hq, if_true]
  split
  · exact Eq2.mk2 hs.2.2.symm
  · split
    · exact Eq2.mk2 hp.2.2.symm
    · split
      · exact Eq2.mk2 htx.2.2.1.symm
      · split
        · rw [e_blindAll, hfl.2.2.2.2.1.1]; exact Eq2.rf
        · split
          · exact Eq2.mk2 hk.2.2.symm
          · split
            · rw [e_bitc hfl.2.1.1 hfl.2.1.2, e_sizeL hp.2.2 (by omega) hp.2.1]
              refine Eq2.mk2 ?_
              have e1 : zsum (fun f => D 160 f) (D (D 1 7) 1).toNat = zsum (fun f => bitz (D 12 2) f) (D (D 1 7) 1).toNat := zsum_cong _ (fun k k0 k1 => (hfl.2.2.1 k k0 (by omega)).1)
              rw [e1]
              have e2 : (10 : Nat) = (D (D 1 7) 1).toNat + (10 - (D (D 1 7) 1).toNat) := by omega
              have e3 := zsum_tail (f := fun f => bitz (D 12 2) f) (D (D 1 7) 1).toNat (10 - (D (D 1 7) 1).toNat) (fun k k0 k1 => (hfl.2.2.1 k (by omega) (by omega)).2 (by omega))
              rw [← e2] at e3
              exact e3
            · exact Eq2.rf
-- changes among the finds in use
def Fz (a i : Int) : Prop := (12 ≤ a ∧ a ≤ 30) ∨ (a = 159 ∧ 0 ≤ i ∧ i < 60) ∨ (a = 160 ∧ 0 ≤ i ∧ i < 10) ∨ (a = 161 ∧ 0 ≤ i ∧ i < 36) ∨ (a = 162 ∧ i = 0)
theorem Iv.setF {D E : Mm} (h : Iv D) (hr : ∀ a i, Rel (D 1 7) a i → ¬ Fz a i → E a i = D a i) (hf : FL E (D (D 1 7) 1)) : Iv E := by
  have hq := h.q
  obtain ⟨h1, h2, h3, h4, h5, h6⟩ := h
  have e17 : E 1 7 = D 1 7 := hr 1 7 (by unfold Rel; omega) (by unfold Fz; omega)
  have e18 : E 1 8 = D 1 8 := hr 1 8 (by unfold Rel; omega) (by unfold Fz; omega)
  have e16 : E 1 6 = D 1 6 := hr 1 6 (by unfold Rel; omega) (by unfold Fz; omega)
  have eq1 : E (D 1 7) 1 = D (D 1 7) 1 := hr _ _ (by unfold Rel; omega) (by unfold Fz; omega)
  refine ⟨h1.cong (hr _ _ (by unfold Rel; omega) (by unfold Fz; omega)) (fun i => hr _ _ (by unfold Rel; omega) (by unfold Fz; omega)) (hr _ _ (by unfold Rel; omega) (by unfold Fz; omega)) (fun i => hr _ _ (by unfold Rel; omega) (by unfold Fz; omega)), ?_, ?_, ?_, ?_, ?_⟩
  · rw [e17, e18]; exact h2
  · rw [e17]; exact h3.cong (fun a i x y => hr a i (by unfold Rel; omega) (by unfold Fz; omega)) (fun a i x => hr a i (by unfold Rel; simp [x]) (by unfold Bk0 at x; unfold Fz; omega))
  · rw [e17, eq1]; exact hf
  · rw [e16, hr 144 19 (by unfold Rel; omega) (by unfold Fz; omega), hr 9 0 (by unfold Rel; omega) (by unfold Fz; omega)]; exact h5
  · rw [e16, e17, eq1]
    intro i i0 i1
    exact (h6 i i0 i1).cong (fun a i x y => hr a i (by unfold Rel; omega) (by unfold Fz; omega)) (fun i _ _ => hr _ _ (by unfold Rel; omega) (by unfold Fz; omega)) (fun i _ _ => hr _ _ (by unfold Rel; omega) (by unfold Fz; omega)) (fun i _ _ => hr _ _ (by unfold Rel; omega) (by unfold Fz; omega)) (hr _ _ (by unfold Rel; omega) (by unfold Fz; omega))
theorem q_teeth {D : Mm} (h : Iv D) {v : Int} (hv : Rg v) : EqMM (f_Main_teeth v D) (f_Model_teeth v) := by
  have h0 := h
  have hq := h.q
  obtain ⟨-, -, ⟨hs, -⟩, hfl, -⟩ := h
  unfold f_Main_teeth
  simp only [hq, if_true]
  have hb : 0 ≤ jshl 1 (D (D 1 7) 0) - 1 ∧ jshl 1 (D (D 1 7) 0) - 1 ≤ 63 := by
    rcases (show D (D 1 7) 0 = 1 ∨ D (D 1 7) 0 = 2 ∨ D (D 1 7) 0 = 3 ∨ D (D 1 7) 0 = 4 ∨ D (D 1 7) 0 = 5 ∨ D (D 1 7) 0 = 6 by omega) with e | e | e | e | e | e <;> rw [e] <;> decide +kernel
  have hR : Rg (jshl 1 (D (D 1 7) 0) - 1) := ⟨by omega, by omega⟩
  rw [e_within hv ⟨by decide, by decide⟩ hR, bnd_if]
  by_cases c : 0 ≤ v ∧ v ≤ jshl 1 (D (D 1 7) 0) - 1
  · rw [if_pos c]
    refine ⟨D 12 4, stm D 12 4 v, stm (stm D 12 4 v) 162 0 v, rfl, ?_, ?_⟩
    · unfold f_Model_teeth
      rw [stm_ne (by omega), hs.2.2, wI_id hv.1 hv.2, wI_id hR.1 hR.2, e_in hv ⟨by decide, by decide⟩ hR, bnd_if, if_pos c]
      show some (stm D 12 4 v 162 0, _) = _
      rw [stm_ne (by omega), hfl.2.2.2.2.2.1]
    · refine h0.setF (fun a i hr hn => ?_) ?_
      · unfold Fz at hn
        rw [stm_ne (by omega), stm_ne (by omega)]
      · obtain ⟨a1, a2, a3, a4, a5, a6⟩ := hfl
        refine ⟨fun f s x1 x2 x3 x4 => ?_, ?_, fun f x1 x2 => ?_, fun s t x1 x2 x3 x4 => ?_, ?_, ?_⟩
        · simp only [stm_ne (D := stm D 12 4 v) (a := 162) (i := 0) (x := v) (b := 159) (j := 6 * f + s) (by omega), stm_ne (D := stm D 12 4 v) (a := 162) (i := 0) (x := v) (b := 12 + 2 + f) (j := s) (by omega), stm_ne (D := D) (a := 12) (i := 4) (x := v) (b := 159) (j := 6 * f + s) (by omega), stm_ne (D := D) (a := 12) (i := 4) (x := v) (b := 12 + 2 + f) (j := s) (by omega)]
          exact a1 f s x1 x2 x3 x4
        · rw [stm_ne (by omega), stm_ne (by omega)]; exact a2
        · rw [stm_ne (by omega), stm_ne (by omega), stm_ne (by omega), stm_ne (by omega)]; exact a3 f x1 x2
        · have e1 : ∀ j, stm (stm D 12 4 v) 162 0 v (12 + 13 + s) j = D (12 + 13 + s) j := fun j => by rw [stm_ne (by omega), stm_ne (by omega)]
          have e2 : stm (stm D 12 4 v) 162 0 v 12 3 = D 12 3 := by rw [stm_ne (by omega), stm_ne (by omega)]
          rw [e1, e2, stm_ne (by omega), stm_ne (by omega)]; exact a4 s t x1 x2 x3 x4
        · rw [stm_ne (by omega), stm_ne (by omega), zsum_cong (g := fun k => D 161 k) 36 (fun k k0 k1 => by rw [stm_ne (by omega), stm_ne (by omega)])]; exact a5
        · rw [stm_eq (by omega), stm_ne (by omega), stm_eq (by omega)]; exact ⟨rfl, by omega, by omega⟩
  · rw [if_neg c]
    refine ⟨-1, D, D, rfl, ?_, h0⟩
    unfold f_Model_teeth
    rw [hs.2.2, wI_id hv.1 hv.2, wI_id hR.1 hR.2, e_in hv ⟨by decide, by decide⟩ hR, bnd_if, if_neg c]
theorem zsum_upd {f g : Int → Int} {k x : Int} : ∀ n : Nat, 0 ≤ k → k < n → (∀ j, j ≠ k → g j = f j) → g k = f k + x → zsum g n = zsum f n + x := by
  intro n
  induction n with
  | zero => intro h0 h1; omega
  | succ n ih =>
    intro h0 h1 h2 h3
    show zsum g n + g n = zsum f n + f n + x
    by_cases hk : k = n
    · subst hk
      rw [h3, zsum_cong n (fun j j0 j1 => h2 j (by omega))]
      omega
    · rw [ih h0 (by omega) h2 h3, h2 n (fun q => hk q.symm)]
      omega
theorem q_blind {D : Mm} (h : Iv D) {s t : Int} (hs0 : Rg s) (ht : Rg t) : EqMM (f_Main_blind s t D) (f_Model_blind s t) := by
  have h0 := h
  have hq := h.q
  obtain ⟨-, -, ⟨hs, -⟩, hfl, -⟩ := h
  unfold f_Main_blind
  simp only [hq, if_true]
  rw [e_hasSort hs0 ⟨by omega, by omega⟩, bnd_if, e_hasSort ht ⟨by omega, by omega⟩, bnd_if]
  have b4 := hfl.2.2.2.2.1
  by_cases c1 : 0 ≤ s ∧ s < D (D 1 7) 0
  · by_cases c2 : 0 ≤ t ∧ t < D (D 1 7) 0
    · rw [if_pos c1, if_pos c2]
      have gs : 0 ≤ s ∧ s < 6 := by omega
      have gt : 0 ≤ t ∧ t < 6 := by omega
      obtain ⟨b1, b2, b3⟩ := hfl.2.2.2.1 s t gs.1 gs.2 gt.1 gt.2
      have g1 : 0 ≤ 6 * s + t ∧ 6 * s + t < 108 := by omega
      by_cases c3 : D 12 3 < 200
      · rw [if_pos ((zI_lt (by omega) (by omega) (by omega) (by omega)).mpr c3)]
        refine ⟨D (12 + 13 + s) t + 1, stm (stm D (12 + 13 + s) t (D (12 + 13 + s) t + 1)) 12 3 (D 12 3 + 1), stm (stm (stm D (12 + 13 + s) t (D (12 + 13 + s) t + 1)) 12 3 (D 12 3 + 1)) 161 (6 * s + t) (D (12 + 13 + s) t + 1), ?_, ?_, ?_⟩
        · unfold f_Finds_tellBlind
          simp only [gs, gt, and_self, if_true]
          show some (stm (stm D (12 + 13 + s) t (D (12 + 13 + s) t + 1)) 12 3 (stm D (12 + 13 + s) t (D (12 + 13 + s) t + 1) 12 3 + 1) (12 + 13 + s) t, _) = _
          rw [stm_ne (D := D) (b := 12) (by omega), stm_ne (by omega), stm_eq (by omega)]
        · generalize hE : stm (stm D (12 + 13 + s) t (D (12 + 13 + s) t + 1)) 12 3 (D 12 3 + 1) = E
          have e146 : E 146 0 = D (D 1 7) 0 := by rw [← hE, stm_ne (by omega), stm_ne (by omega)]; exact hs.2.2
          have e161 : ∀ k, E 161 k = D 161 k := fun k => by rw [← hE, stm_ne (by omega), stm_ne (by omega)]
          unfold f_Model_blind
          rw [e_isSort hs0 e146 ⟨by omega, by omega⟩, bnd_if, e_isSort ht e146 ⟨by omega, by omega⟩, bnd_if, if_pos c1, if_pos c2, e_blindAll, zsum_cong (g := fun k => D 161 k) 36 (fun k _ _ => e161 k), b4.1]
          simp only [Option.bind_some]
          rw [if_neg (fun q => by have := (zI_eq (by omega) (by omega) (by omega) (by omega)).mp q; omega), if_pos g1, if_pos g1]
          simp only [zst, if_pos g1]
          rw [stm_eq (by omega), e161, b1]
        · refine h0.setF (fun a i hr hn => ?_) ?_
          · unfold Fz at hn
            rw [stm_ne (by omega), stm_ne (by omega), stm_ne (by omega)]
          · obtain ⟨a1, a2, a3, a4, a5, a6⟩ := hfl
            generalize hE : stm (stm (stm D (12 + 13 + s) t (D (12 + 13 + s) t + 1)) 12 3 (D 12 3 + 1)) 161 (6 * s + t) (D (12 + 13 + s) t + 1) = E
            have o1 : ∀ a i, (a ≠ 12 + 13 + s ∨ i ≠ t) → (a ≠ 12 ∨ i ≠ 3) → (a ≠ 161 ∨ i ≠ 6 * s + t) → E a i = D a i := fun a i x y z => by rw [← hE, stm_ne z, stm_ne y, stm_ne x]
            have o2 : E (12 + 13 + s) t = D (12 + 13 + s) t + 1 := by rw [← hE, stm_ne (by omega), stm_ne (by omega), stm_eq (by omega)]
            have o3 : E 12 3 = D 12 3 + 1 := by rw [← hE, stm_ne (by omega), stm_eq (by omega)]
            have o4 : E 161 (6 * s + t) = D (12 + 13 + s) t + 1 := by rw [← hE, stm_eq (by omega)]
            refine ⟨fun f s x1 x2 x3 x4 => ?_, ?_, fun f x1 x2 => ?_, fun s' t' x1 x2 x3 x4 => ?_, ?_, ?_⟩
            · rw [o1 159 _ (by omega) (by omega) (by omega), o1 (12 + 2 + f) _ (by omega) (by omega) (by omega)]; exact a1 f s x1 x2 x3 x4
            · rw [o1 12 2 (by omega) (by omega) (by omega)]; exact a2
            · rw [o1 160 _ (by omega) (by omega) (by omega), o1 12 2 (by omega) (by omega) (by omega)]; exact a3 f x1 x2
            · by_cases hc : s' = s ∧ t' = t
              · obtain ⟨rfl, rfl⟩ := hc
                rw [o2, o3, o4]
                omega
              · have := a4 s' t' x1 x2 x3 x4
                rw [o1 161 _ (by omega) (by omega) (by omega), o1 (12 + 13 + s') _ (by omega) (by omega) (by omega), o3]
                omega
            · rw [o3, zsum_upd (f := fun k => D 161 k) (k := 6 * s + t) (x := 1) 36 (by omega) (by omega) (fun j hj => o1 161 j (by omega) (by omega) (by omega)) (by rw [o4, b1])]
              omega
            · rw [o1 162 0 (by omega) (by omega) (by omega), o1 12 4 (by omega) (by omega) (by omega)]; exact a6
      · rw [if_neg (fun q => c3 ((zI_lt (by omega) (by omega) (by omega) (by omega)).mp q))]
        refine ⟨-3, D, D, rfl, ?_, h0⟩
        unfold f_Model_blind
        rw [e_isSort hs0 hs.2.2 ⟨by omega, by omega⟩, bnd_if, e_isSort ht hs.2.2 ⟨by omega, by omega⟩, bnd_if, if_pos c1, if_pos c2, e_blindAll, b4.1]
        simp only [Option.bind_some]
        rw [if_pos ((zI_eq (by omega) (by omega) (by omega) (by omega)).mpr (by omega))]
    · rw [if_pos c1, if_neg c2]
      refine ⟨-1, D, D, rfl, ?_, h0⟩
      unfold f_Model_blind
      rw [e_isSort hs0 hs.2.2 ⟨by omega, by omega⟩, bnd_if, e_isSort ht hs.2.2 ⟨by omega, by omega⟩, bnd_if, if_pos c1, if_neg c2]
  · rw [if_neg c1]
    refine ⟨-1, D, D, rfl, ?_, h0⟩
    unfold f_Model_blind
    rw [e_isSort hs0 hs.2.2 ⟨by omega, by omega⟩, bnd_if, if_neg c1]
theorem q_count {D : Mm} (h : Iv D) {f s v : Int} (hf : Rg f) (hs0 : Rg s) (hv : Rg v) : EqMM (f_Main_count f s v D) (f_Model_count f s v) := by
  have h0 := h
  have hq := h.q
  obtain ⟨-, -, ⟨hs, hp, -⟩, hfl, -⟩ := h
  unfold f_Main_count
  simp only [hq, if_true]
  rw [e_hasPatch hf ⟨by omega, by omega⟩, bnd_if, e_hasSort hs0 ⟨by omega, by omega⟩, bnd_if, e_within hv ⟨by decide, by decide⟩ ⟨by decide, by decide⟩, bnd_if]
  by_cases c1 : 0 ≤ f ∧ f < D (D 1 7) 1
  · by_cases c2 : 0 ≤ s ∧ s < D (D 1 7) 0
    · by_cases c3 : 0 ≤ v ∧ v ≤ 99
      · rw [if_pos c1, if_pos c2, if_pos c3]
        have gf : 0 ≤ f ∧ f < 10 := by omega
        have gs : 0 ≤ s ∧ s < 6 := by omega
        obtain ⟨b1, b2, b3⟩ := hfl.1 f s gf.1 gf.2 gs.1 gs.2
        have g1 : 0 ≤ 6 * f + s ∧ 6 * f + s < 180 := by omega
        have hx := hfl.2.1
        obtain ⟨j0, j1, j2⟩ := jor_bit (x := D 12 2) (f := f) (w := 10) hx.1 (by show _ < 1024; omega) (by decide) gf.1 (by omega)
        refine ⟨D (12 + 2 + f) s, stm (stm D (12 + 2 + f) s v) 12 2 (jor (D 12 2) (jshl 1 f)), stm (stm (stm (stm D (12 + 2 + f) s v) 12 2 (jor (D 12 2) (jshl 1 f))) 159 (6 * f + s) v) 160 f 1, ?_, ?_, ?_⟩
        · unfold f_Finds_tell
          simp only [gf, gs, and_self, if_true]
          show some (D (12 + 2 + f) s, stm (stm D (12 + 2 + f) s v) 12 2 (jor (stm D (12 + 2 + f) s v 12 2) (jshl 1 f))) = _
          rw [stm_ne (D := D) (b := 12) (by omega)]
        · generalize hE : stm (stm D (12 + 2 + f) s v) 12 2 (jor (D 12 2) (jshl 1 f)) = E
          have o1 : ∀ a i, 31 ≤ a → E a i = D a i := fun a i x => by rw [← hE, stm_ne (by omega), stm_ne (by omega)]
          unfold f_Model_count
          rw [e_isFace hf ((o1 _ _ (by omega)).trans hp.2.2) ⟨by omega, by omega⟩, bnd_if, e_isSort hs0 ((o1 _ _ (by omega)).trans hs.2.2) ⟨by omega, by omega⟩, bnd_if, wI_id hv.1 hv.2, e_in hv ⟨by decide, by decide⟩ ⟨by decide, by decide⟩, bnd_if, if_pos c1, if_pos c2, if_pos c3, if_pos g1, if_pos g1]
          have g3 : 0 ≤ f ∧ f < 30 := by omega
          simp only [zst, if_pos g3]
          rw [o1 159 _ (by omega), b1]
        · refine h0.setF (fun a i hr hn => ?_) ?_
          · unfold Fz at hn
            rw [stm_ne (by omega), stm_ne (by omega), stm_ne (by omega), stm_ne (by omega)]
          · obtain ⟨a1, a2, a3, a4, a5, a6⟩ := hfl
            generalize hE : stm (stm (stm (stm D (12 + 2 + f) s v) 12 2 (jor (D 12 2) (jshl 1 f))) 159 (6 * f + s) v) 160 f 1 = E
            have o1 : ∀ a i, (a ≠ 12 + 2 + f ∨ i ≠ s) → (a ≠ 12 ∨ i ≠ 2) → (a ≠ 159 ∨ i ≠ 6 * f + s) → (a ≠ 160 ∨ i ≠ f) → E a i = D a i := fun a i x y z w => by rw [← hE, stm_ne w, stm_ne z, stm_ne y, stm_ne x]
            have o2 : E (12 + 2 + f) s = v := by rw [← hE, stm_ne (by omega), stm_ne (by omega), stm_ne (by omega), stm_eq (by omega)]
            have o3 : E 12 2 = jor (D 12 2) (jshl 1 f) := by rw [← hE, stm_ne (by omega), stm_ne (by omega), stm_eq (by omega)]
            have o4 : E 159 (6 * f + s) = v := by rw [← hE, stm_ne (by omega), stm_eq (by omega)]
            have o5 : E 160 f = 1 := by rw [← hE, stm_eq (by omega)]
            refine ⟨fun f' s' x1 x2 x3 x4 => ?_, ?_, fun f' x1 x2 => ?_, fun s' t' x1 x2 x3 x4 => ?_, ?_, ?_⟩
            · by_cases hc : f' = f ∧ s' = s
              · obtain ⟨rfl, rfl⟩ := hc
                rw [o2, o4]
                exact ⟨rfl, c3.1, c3.2⟩
              · rw [o1 159 _ (by omega) (by omega) (by omega) (by omega), o1 (12 + 2 + f') _ (by omega) (by omega) (by omega) (by omega)]; exact a1 f' s' x1 x2 x3 x4
            · rw [o3]
              have : (jor (D 12 2) (jshl 1 f)).toNat < 1024 := j1
              omega
            · rw [o3, j2 f' x1 (by omega)]
              by_cases hc : f' = f
              · subst hc
                rw [if_pos rfl, o5]
                exact ⟨rfl, fun q => by omega⟩
              · rw [if_neg hc, o1 160 _ (by omega) (by omega) (by omega) (by omega)]
                exact a3 f' x1 x2
            · rw [o1 161 _ (by omega) (by omega) (by omega) (by omega), o1 (12 + 13 + s') _ (by omega) (by omega) (by omega) (by omega), o1 12 3 (by omega) (by omega) (by omega) (by omega)]; exact a4 s' t' x1 x2 x3 x4
            · rw [o1 12 3 (by omega) (by omega) (by omega) (by omega), zsum_cong (g := fun k => D 161 k) 36 (fun k _ _ => o1 161 k (by omega) (by omega) (by omega) (by omega))]; exact a5
            · rw [o1 162 0 (by omega) (by omega) (by omega) (by omega), o1 12 4 (by omega) (by omega) (by omega) (by omega)]; exact a6
      · rw [if_pos c1, if_pos c2, if_neg c3]
        refine ⟨-1, D, D, rfl, ?_, h0⟩
        unfold f_Model_count
        rw [e_isFace hf hp.2.2 ⟨by omega, by omega⟩, bnd_if, e_isSort hs0 hs.2.2 ⟨by omega, by omega⟩, bnd_if, wI_id hv.1 hv.2, e_in hv ⟨by decide, by decide⟩ ⟨by decide, by decide⟩, bnd_if, if_pos c1, if_pos c2, if_neg c3]
    · rw [if_pos c1, if_neg c2]
      refine ⟨-1, D, D, rfl, ?_, h0⟩
      unfold f_Model_count
      rw [e_isFace hf hp.2.2 ⟨by omega, by omega⟩, bnd_if, e_isSort hs0 hs.2.2 ⟨by omega, by omega⟩, bnd_if, if_pos c1, if_neg c2]
  · rw [if_neg c1]
    refine ⟨-1, D, D, rfl, ?_, h0⟩
    unfold f_Model_count
    rw [e_isFace hf hp.2.2 ⟨by omega, by omega⟩, bnd_if, if_neg c1]

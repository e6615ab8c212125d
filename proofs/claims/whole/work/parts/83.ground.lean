def Gst (P : Int → Prop) (y : Int → Int) (p i b : Int) : Prop := ((∀ n, 0 ≤ n → n < i → ¬ P n) ∧ b = -4) ∨ (0 ≤ b ∧ (∃ n, 0 ≤ n ∧ n < i ∧ P n ∧ y n = b) ∧ ∀ n, 0 ≤ n → n < i → P n → (p = 0 → b ≤ y n) ∧ (p ≠ 0 → y n ≤ b))
def grd (D : Mm) (q f s n : Int) : Int := zmax 0 (D (12 + 2 + f) s - dgs (D (q + 11) f) n * D (q + 10) f)
theorem e_gr {D : Mm} (h : Iv D) {f s e p : Int} (f0 : 0 ≤ f) (f1 : f < D (D 1 7) 1) (s0 : 0 ≤ s) (s1 : s < D (D 1 7) 0) (e0 : 0 ≤ e) (e1 : e ≤ 99) (hp : Rg p) : ∃ b, f_Model_groundOf f s e p D = some b ∧ Gst (Fn D (D 1 7) s e) (grd D (D 1 7) f s) p 10000 b := by
  have hh := h
  obtain ⟨-, -, hql, hfl, -⟩ := h
  have hs := hql.1
  have hpp := hql.2.1
  obtain ⟨-, -, ⟨r1, r2, r3⟩, ⟨t1, t2, t3⟩⟩ := hql.2.2.2.1 f f0 f1
  obtain ⟨c1, c2, c3⟩ := hfl.1 f s f0 (by omega) s0 (by omega)
  have gd : 0 ≤ 6 * f + s ∧ 6 * f + s < 180 := by omega
  unfold f_Model_groundOf
  refine zup (fun m n b => f_Model_groundOf_7 f s e p D m b n) 10000 (fun n b => 0 ≤ n ∧ (-4 ≤ b ∧ b ≤ 99) ∧ Gst (Fn D (D 1 7) s e) (grd D (D 1 7) f s) p n b) (fun o => ∃ b, o = some b ∧ Gst (Fn D (D 1 7) s e) (grd D (D 1 7) f s) p 10000 b) ?_ ?_ 10000 zF 0 (-4) rfl (by decide) (zF_pos (by decide)) ⟨by decide, by decide, Or.inl ⟨fun n n0 n1 => by omega, rfl⟩⟩
  · intro m b ⟨_, _, b2⟩
    refine ⟨b, ?_, b2⟩
    show f_Model_groundOf_7 f s e p D (m + 1) b 10000 = _
    rw [f_Model_groundOf_7, if_pos (Int32.le_refl _)]
  · intro m n b hn ⟨n0, b1, b4⟩
    have nc : ¬ zI 10000 ≤ zI n := fun q => by have := (zI_le (by omega) (by omega) (by omega) (by omega)).mp q; omega
    rcases e_fits hh n0 hn s0 s1 e0 e1 with ⟨y, hf⟩ | ⟨y, hf⟩
    · have sb := sg_36 (a := n / 1000) (b := n / 100 % 10) (c := n / 10 % 10) (d := n % 10) (m := D (D 1 7 + 11) f) (by omega) (by omega) (by omega) (by omega) (by omega) (by omega) (by omega) (by omega)
      have mb := mulb sb.1 (by omega) r2 r3
      have lay : f_Model_laidBy n f D = some (dgs (D (D 1 7 + 11) f) n * D (D 1 7 + 10) f) := by
        rw [e_laid f0 (by omega) n0 hn (by omega) (by omega), t1, r1]; rfl
      have mb : 0 ≤ dgs (D (D 1 7 + 11) f) n * D (D 1 7 + 10) f ∧ dgs (D (D 1 7 + 11) f) n * D (D 1 7 + 10) f ≤ 333 := mb
      have gx : 0 ≤ grd D (D 1 7) f s n ∧ grd D (D 1 7) f s n ≤ 99 := by
        unfold grd zmax
        split <;> omega
      have key : f_Model_groundOf_7 f s e p D (m + 1) b n = f_Model_groundOf_7 f s e p D m (if b < 0 then grd D (D 1 7) f s n else if p = 0 then (if b ≤ grd D (D 1 7) f s n then b else grd D (D 1 7) f s n) else (if grd D (D 1 7) f s n ≤ b then b else grd D (D 1 7) f s n)) (n + 1) := by
        have c58 : f_Model_groundOf_58 f s e p b n (grd D (D 1 7) f s n) (f_Model_groundOf_7 f s e p D m) D = f_Model_groundOf_7 f s e p D m (if b < 0 then grd D (D 1 7) f s n else if p = 0 then (if b ≤ grd D (D 1 7) f s n then b else grd D (D 1 7) f s n) else (if grd D (D 1 7) f s n ≤ b then b else grd D (D 1 7) f s n)) (n + 1) := by
          unfold f_Model_groundOf_58 f_Model_groundOf_87 f_Model_groundOf_92 f_Model_groundOf_94 f_Model_groundOf_96
          by_cases z : b < 0
          · rw [if_pos ((zI_lt0 (by omega) (by omega)).mpr z), if_pos z]
          · rw [if_neg (fun q => z ((zI_lt0 (by omega) (by omega)).mp q)), if_neg z]
            by_cases pz : p = 0
            · rw [if_pos ((zI_eq0 hp.1 hp.2).mpr pz), if_pos pz]
              by_cases u : b ≤ grd D (D 1 7) f s n
              · rw [if_pos ((zI_le (by omega) (by omega) (by omega) (by omega)).mpr u), if_pos u]
              · rw [if_neg (fun q => u ((zI_le (by omega) (by omega) (by omega) (by omega)).mp q)), if_neg u]
            · rw [if_neg (fun q => pz ((zI_eq0 hp.1 hp.2).mp q)), if_neg pz]
              by_cases u : grd D (D 1 7) f s n ≤ b
              · rw [if_pos ((zI_le (by omega) (by omega) (by omega) (by omega)).mpr u), if_pos u]
              · rw [if_neg (fun q => u ((zI_le (by omega) (by omega) (by omega) (by omega)).mp q)), if_neg u]
        rw [← c58, f_Model_groundOf_7, if_neg nc, hf]
        simp only [Option.bind_some]
        rw [if_neg n10, if_pos gd, lay]
        simp only [Option.bind_some]
        rw [c1]
        have eg : grd D (D 1 7) f s n = if 0 ≤ D (12 + 2 + f) s - dgs (D (D 1 7 + 11) f) n * D (D 1 7 + 10) f then D (12 + 2 + f) s - dgs (D (D 1 7 + 11) f) n * D (D 1 7 + 10) f else 0 := by
          unfold grd zmax
          split <;> split <;> omega
        rw [eg]
        by_cases z : 0 ≤ D (12 + 2 + f) s - dgs (D (D 1 7 + 11) f) n * D (D 1 7 + 10) f
        · rw [if_pos ((zI_0le (by omega) (by omega)).mpr z), if_pos z]
        · rw [if_neg (fun q => z ((zI_0le (by omega) (by omega)).mp q)), if_neg z]
      generalize hb : (if b < 0 then grd D (D 1 7) f s n else if p = 0 then (if b ≤ grd D (D 1 7) f s n then b else grd D (D 1 7) f s n) else (if grd D (D 1 7) f s n ≤ b then b else grd D (D 1 7) f s n)) = B at key
      have Bb : 0 ≤ B ∧ B ≤ 99 := by
        rw [← hb]
        split
        · omega
        · split <;> split <;> omega
      refine ⟨B, ⟨by omega, by omega, Or.inr ⟨Bb.1, ?_, ?_⟩⟩, key⟩
      · by_cases z : B = grd D (D 1 7) f s n
        · exact ⟨n, n0, by omega, y, z.symm⟩
        · rcases b4 with ⟨_, u⟩ | ⟨u, ⟨n', x1, x2, x3, x4⟩, _⟩
          · rw [if_pos (by omega)] at hb
            exact absurd hb.symm z
          · refine ⟨n', x1, by omega, x3, ?_⟩
            rw [if_neg (by omega)] at hb
            rw [x4]
            by_cases pz : p = 0
            · rw [if_pos pz] at hb
              by_cases uu : b ≤ grd D (D 1 7) f s n
              · rw [if_pos uu] at hb; exact hb
              · rw [if_neg uu] at hb; exact absurd hb.symm z
            · rw [if_neg pz] at hb
              by_cases uu : grd D (D 1 7) f s n ≤ b
              · rw [if_pos uu] at hb; exact hb
              · rw [if_neg uu] at hb; exact absurd hb.symm z
      · intro n' x1 x2 x3
        rcases b4 with ⟨u1, u2⟩ | ⟨u, _, u3⟩
        · have : n' = n := by
            by_cases q : n' = n
            · exact q
            · exact absurd x3 (u1 n' x1 (by omega))
          subst this
          rw [if_pos (by omega)] at hb
          exact ⟨fun _ => by omega, fun _ => by omega⟩
        · rw [if_neg (by omega)] at hb
          by_cases q : n' = n
          · subst q
            refine ⟨fun pz => ?_, fun pz => ?_⟩
            · rw [if_pos pz] at hb
              rw [← hb]; split <;> omega
            · rw [if_neg pz] at hb
              rw [← hb]; split <;> omega
          · have o := u3 n' x1 (by omega) x3
            refine ⟨fun pz => ?_, fun pz => ?_⟩
            · have := o.1 pz
              rw [if_pos pz] at hb
              rw [← hb]; split <;> omega
            · have := o.2 pz
              rw [if_neg pz] at hb
              rw [← hb]; split <;> omega
    · refine ⟨b, ⟨by omega, b1, ?_⟩, ?_⟩
      · have old : ∀ n', n' < n + 1 → Fn D (D 1 7) s e n' → n' < n := fun n' x1 x2 => by
          by_cases q : n' = n
          · subst q; exact absurd x2 y
          · omega
        rcases b4 with ⟨u1, u2⟩ | ⟨u1, ⟨n', x1, x2, x3⟩, u3⟩
        · exact Or.inl ⟨fun n' x1 x2 x3 => u1 n' x1 (old n' x2 x3) x3, u2⟩
        · exact Or.inr ⟨u1, ⟨n', x1, by omega, x3⟩, fun n' x1 x2 x3 => u3 n' x1 (old n' x2 x3) x3⟩
      · show f_Model_groundOf_7 f s e p D (m + 1) b n = _
        rw [f_Model_groundOf_7, if_neg nc, hf]
        rfl

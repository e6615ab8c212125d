def Fn (D : Mm) (q s e n : Int) : Prop := Ft D q s e (n / 1000) (n / 100 % 10) (n / 10 % 10) (n % 10)
def Bst (P : Int → Prop) (y : Int → Int) (p i c b : Int) : Prop := ((∀ n, 0 ≤ n → n < i → ¬ P n) ∧ c = 0 ∧ b = -4) ∨ (0 < c ∧ (∃ n, 0 ≤ n ∧ n < i ∧ P n ∧ y n = b) ∧ ∀ n, 0 ≤ n → n < i → P n → (p = 0 → b ≤ y n) ∧ (p ≠ 0 → y n ≤ b))
theorem e_bk {D : Mm} (h : Iv D) {s e v p : Int} {I : Int → Int} (s0 : 0 ≤ s) (s1 : s < D (D 1 7) 0) (e0 : 0 ≤ e) (e1 : e ≤ 99) (v0 : -1 ≤ v) (v1 : v ≤ 3) (hp : Rg p) (hI : ∀ n, 0 ≤ n → n < 10000 → (Fn D (D 1 7) s e n ∧ I n = 1) ∨ (¬ Fn D (D 1 7) s e n ∧ I n = 0)) : ∃ c b, f_Model_books_46 s e v p D zF 0 (-4) 0 = some (if 0 ≤ v then b else c) ∧ c = zsum I 10000 ∧ (0 ≤ c ∧ c ≤ 10000) ∧ Bst (Fn D (D 1 7) s e) (dgs (jshl 1 (if 0 ≤ v then v else 0))) p 10000 c b := by
  generalize hk : (if 0 ≤ v then v else 0) = i
  have i0 : 0 ≤ i ∧ i ≤ 3 := by rw [← hk]; split <;> omega
  refine zup (fun m n (b : Int × Int) => f_Model_books_46 s e v p D m b.1 b.2 n) 10000 (fun n b => 0 ≤ n ∧ b.1 = zsum I n.toNat ∧ (0 ≤ b.1 ∧ b.1 ≤ n) ∧ (-4 ≤ b.2 ∧ b.2 ≤ 36) ∧ Bst (Fn D (D 1 7) s e) (dgs (jshl 1 i)) p n b.1 b.2) (fun o => ∃ c b, o = some (if 0 ≤ v then b else c) ∧ c = zsum I 10000 ∧ (0 ≤ c ∧ c ≤ 10000) ∧ Bst (Fn D (D 1 7) s e) (dgs (jshl 1 i)) p 10000 c b) ?_ ?_ 10000 zF 0 (0, -4) rfl (by decide) (zF_pos (by decide)) ⟨by decide, rfl, by decide, by decide, Or.inl ⟨fun n n0 n1 => by omega, rfl, rfl⟩⟩
  · intro m b ⟨_, b1, b2, _, b4⟩
    refine ⟨b.1, b.2, ?_, b1, b2, b4⟩
    show f_Model_books_46 s e v p D (m + 1) b.1 b.2 10000 = _
    rw [f_Model_books_46, if_pos (Int32.le_refl _)]
    by_cases z : 0 ≤ v
    · rw [if_pos ((zI_0le (by omega) (by omega)).mpr z), if_pos z]
    · rw [if_neg (fun y => z ((zI_0le (by omega) (by omega)).mp y)), if_neg z]
  · intro m n b hn ⟨n0, b1, b2, b3, b4⟩
    have nc : ¬ zI 10000 ≤ zI n := fun q => by have := (zI_le (by omega) (by omega) (by omega) (by omega)).mp q; omega
    obtain ⟨f1, f2, f3, -⟩ := e_figure (D := D) n0 hn i0.1 i0.2
    rcases hI n n0 hn with ⟨y, w⟩ | ⟨y, w⟩
    · have hf : f_Model_fits n s e D = some 1 := by
        rcases e_fits h n0 hn s0 s1 e0 e1 with ⟨_, u⟩ | ⟨u, _⟩
        · exact u
        · exact absurd y u
      have key : f_Model_books_46 s e v p D (m + 1) b.1 b.2 n = f_Model_books_46 s e v p D m (b.1 + 1) (if b.1 = 0 then dgs (jshl 1 i) n else if p = 0 then (if b.2 ≤ dgs (jshl 1 i) n then b.2 else dgs (jshl 1 i) n) else (if dgs (jshl 1 i) n ≤ b.2 then b.2 else dgs (jshl 1 i) n)) (n + 1) := by
        have c76 : f_Model_books_76 s e v p b.1 b.2 n i n (f_Model_books_46 s e v p D m) D = f_Model_books_46 s e v p D m (b.1 + 1) (if b.1 = 0 then dgs (jshl 1 i) n else if p = 0 then (if b.2 ≤ dgs (jshl 1 i) n then b.2 else dgs (jshl 1 i) n) else (if dgs (jshl 1 i) n ≤ b.2 then b.2 else dgs (jshl 1 i) n)) (n + 1) := by
          unfold f_Model_books_76 f_Model_books_108 f_Model_books_113 f_Model_books_115 f_Model_books_120
          rw [f1]
          simp only [Option.bind_some]
          by_cases z : b.1 = 0
          · rw [if_pos ((zI_eq0 (by omega) (by omega)).mpr z), if_pos z]
          · rw [if_neg (fun q => z ((zI_eq0 (by omega) (by omega)).mp q)), if_neg z]
            by_cases pz : p = 0
            · rw [if_pos ((zI_eq0 hp.1 hp.2).mpr pz), if_pos pz]
              by_cases u : b.2 ≤ dgs (jshl 1 i) n
              · rw [if_pos ((zI_le (by omega) (by omega) (by omega) (by omega)).mpr u), if_pos u]
              · rw [if_neg (fun q => u ((zI_le (by omega) (by omega) (by omega) (by omega)).mp q)), if_neg u]
            · rw [if_neg (fun q => pz ((zI_eq0 hp.1 hp.2).mp q)), if_neg pz]
              by_cases u : dgs (jshl 1 i) n ≤ b.2
              · rw [if_pos ((zI_le (by omega) (by omega) (by omega) (by omega)).mpr u), if_pos u]
              · rw [if_neg (fun q => u ((zI_le (by omega) (by omega) (by omega) (by omega)).mp q)), if_neg u]
        rw [← c76, f_Model_books_46, if_neg nc, hf]
        simp only [Option.bind_some]
        rw [if_neg n10]
        by_cases z : 0 ≤ v
        · rw [if_pos ((zI_0le (by omega) (by omega)).mpr z)]
          rw [if_pos z] at hk
          rw [hk]
        · rw [if_neg (fun y => z ((zI_0le (by omega) (by omega)).mp y))]
          rw [if_neg z] at hk
          rw [hk]
      generalize hb : (if b.1 = 0 then dgs (jshl 1 i) n else if p = 0 then (if b.2 ≤ dgs (jshl 1 i) n then b.2 else dgs (jshl 1 i) n) else (if dgs (jshl 1 i) n ≤ b.2 then b.2 else dgs (jshl 1 i) n)) = B at key
      refine ⟨(b.1 + 1, B), ⟨by omega, ?_, ⟨?_, ?_⟩, ?_, Or.inr ⟨?_, ?_, ?_⟩⟩, key⟩
      · show b.1 + 1 = _
        rw [zsum_s _ n0, b1, w]
      · show 0 ≤ b.1 + 1; omega
      · show b.1 + 1 ≤ n + 1; omega
      · show -4 ≤ B ∧ B ≤ 36
        rw [← hb]
        split
        · omega
        · split <;> split <;> omega
      · show 0 < b.1 + 1; omega
      · show ∃ n', 0 ≤ n' ∧ n' < n + 1 ∧ Fn D (D 1 7) s e n' ∧ dgs (jshl 1 i) n' = B
        by_cases z : B = dgs (jshl 1 i) n
        · exact ⟨n, n0, by omega, y, z.symm⟩
        · rcases b4 with ⟨_, u, _⟩ | ⟨u, ⟨n', x1, x2, x3, x4⟩, _⟩
          · rw [if_pos u] at hb
            exact absurd hb.symm z
          · refine ⟨n', x1, by omega, x3, ?_⟩
            rw [if_neg (by omega)] at hb
            rw [x4]
            by_cases pz : p = 0
            · rw [if_pos pz] at hb
              by_cases uu : b.2 ≤ dgs (jshl 1 i) n
              · rw [if_pos uu] at hb; exact hb
              · rw [if_neg uu] at hb; exact absurd hb.symm z
            · rw [if_neg pz] at hb
              by_cases uu : dgs (jshl 1 i) n ≤ b.2
              · rw [if_pos uu] at hb; exact hb
              · rw [if_neg uu] at hb; exact absurd hb.symm z
      · show ∀ n', 0 ≤ n' → n' < n + 1 → Fn D (D 1 7) s e n' → (p = 0 → B ≤ dgs (jshl 1 i) n') ∧ (p ≠ 0 → dgs (jshl 1 i) n' ≤ B)
        intro n' x1 x2 x3
        rcases b4 with ⟨u1, u2, _⟩ | ⟨u, _, u3⟩
        · have : n' = n := by
            by_cases q : n' = n
            · exact q
            · exact absurd x3 (u1 n' x1 (by omega))
          subst this
          rw [if_pos u2] at hb
          exact ⟨fun _ => by omega, fun _ => by omega⟩
        · rw [if_neg (by omega)] at hb
          by_cases q : n' = n
          · subst q
            refine ⟨fun pz => ?_, fun pz => ?_⟩
            · rw [if_pos pz] at hb
              rw [← hb]; split <;> omega
            · rw [if_neg pz] at hb
              rw [← hb]; split <;> omega
          · have o := u3 n' x1 (by omega) x3
            refine ⟨fun pz => ?_, fun pz => ?_⟩
            · have := o.1 pz
              rw [if_pos pz] at hb
              rw [← hb]; split <;> omega
            · have := o.2 pz
              rw [if_neg pz] at hb
              rw [← hb]; split <;> omega
    · have hf : f_Model_fits n s e D = some 0 := by
        rcases e_fits h n0 hn s0 s1 e0 e1 with ⟨u, _⟩ | ⟨_, u⟩
        · exact absurd u y
        · exact u
      refine ⟨b, ⟨by omega, by rw [zsum_s _ n0, b1, w]; omega, by omega, b3, ?_⟩, ?_⟩
      · have old : ∀ n', n' < n + 1 → Fn D (D 1 7) s e n' → n' < n := fun n' x1 x2 => by
          by_cases q : n' = n
          · subst q; exact absurd x2 y
          · omega
        rcases b4 with ⟨u1, u2⟩ | ⟨u1, ⟨n', x1, x2, x3⟩, u3⟩
        · exact Or.inl ⟨fun n' x1 x2 x3 => u1 n' x1 (old n' x2 x3) x3, u2⟩
        · exact Or.inr ⟨u1, ⟨n', x1, by omega, x3⟩, fun n' x1 x2 x3 => u3 n' x1 (old n' x2 x3) x3⟩
      · show f_Model_books_46 s e v p D (m + 1) b.1 b.2 n = _
        rw [f_Model_books_46, if_neg nc, hf]
        rfl

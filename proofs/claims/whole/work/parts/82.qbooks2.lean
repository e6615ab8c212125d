theorem Ft_cong {D E : Mm} {q s e a b c d : Int} (hq : q = 32 ∨ q = 69) (ho : ∀ x j, ¬ (6 ≤ x ∧ x ≤ 9) → E x j = D x j) : Ft E q s e a b c d ↔ Ft D q s e a b c d := by
  unfold Ft dmd
  rw [ho q 1 (by omega)]
  constructor
  · intro y f f0 f1
    have := y f f0 f1
    rw [ho (q + 9) f (by omega), ho 12 2 (by omega), ho (12 + 2 + f) s (by omega), ho (q + 10) f (by omega), ho (q + 11) f (by omega)] at this
    exact this
  · intro y f f0 f1
    rw [ho (q + 9) f (by omega), ho 12 2 (by omega), ho (12 + 2 + f) s (by omega), ho (q + 10) f (by omega), ho (q + 11) f (by omega)]
    exact y f f0 f1
theorem Iv.c69 {D E : Mm} (h : Iv D) (ho : ∀ x j, ¬ (6 ≤ x ∧ x ≤ 9) → E x j = D x j) (h9 : E 9 0 = 0) : Iv E := by
  have h90 : D 9 0 = 0 := h.2.2.2.2.1.1.2
  have hq := h.q
  refine h.cong (fun a i hr => ?_)
  by_cases z : a = 9 ∧ i = 0
  · rw [z.1, z.2, h9, h90]
  · exact ho a i (by unfold Rel Bk0 at hr; omega)
theorem dg_n {a b c d : Int} (ok : Ok4 a b c d) : (1000 * a + 100 * b + 10 * c + d) / 1000 = a ∧ (1000 * a + 100 * b + 10 * c + d) / 100 % 10 = b ∧ (1000 * a + 100 * b + 10 * c + d) / 10 % 10 = c ∧ (1000 * a + 100 * b + 10 * c + d) % 10 = d ∧ 0 ≤ 1000 * a + 100 * b + 10 * c + d ∧ 1000 * a + 100 * b + 10 * c + d < 10000 := by
  unfold Ok4 at ok
  omega
theorem ok_n {n : Int} (n0 : 0 ≤ n) (n1 : n < 10000) : Ok4 (n / 1000) (n / 100 % 10) (n / 10 % 10) (n % 10) := by
  unfold Ok4
  omega
theorem q_books {D : Mm} (h : Iv D) {s e v p : Int} (hs0 : Rg s) (he : Rg e) (hv : Rg v) (hp : Rg p) : EqMP (f_Main_books s e v p D) (f_Model_books s e v p) := by
  have hh := h
  have hq := h.q
  obtain ⟨-, -, hql, -⟩ := h
  have hs := hql.1
  have mod : ∀ E : Mm, E 146 0 = D (D 1 7) 0 → f_Model_books s e v p E = if 0 ≤ s ∧ s < D (D 1 7) 0 then (if 0 ≤ e ∧ e ≤ 99 then (if -1 ≤ v ∧ v ≤ 3 then f_Model_books_46 s e v p E zF 0 (-4) 0 else some (-1)) else some (-1)) else some (-1) := fun E e146 => by
    unfold f_Model_books
    rw [e_isSort hs0 e146 ⟨by omega, by omega⟩, bnd_if, wI_id he.1 he.2, e_in he ⟨by decide, by decide⟩ ⟨by decide, by decide⟩, bnd_if, wI_id hv.1 hv.2, e_in hv ⟨by decide, by decide⟩ ⟨by decide, by decide⟩, bnd_if]
  unfold f_Main_books
  rw [if_pos hq, e_hasSort hs0 ⟨by omega, by omega⟩, bnd_if, e_isDoubt he, bnd_if, e_within hv ⟨by decide, by decide⟩ ⟨by decide, by decide⟩, bnd_if, if_pos hq]
  by_cases c1 : 0 ≤ s ∧ s < D (D 1 7) 0
  · by_cases c2 : 0 ≤ e ∧ e ≤ 99
    · by_cases c3 : -1 ≤ v ∧ v ≤ 3
      · rw [if_pos c1, if_pos c2, if_pos c3]
        generalize hk : (if 0 ≤ v then jshl 1 v else 0) = k
        have kb : 0 ≤ k ∧ k < 16 := by
          rw [← hk]
          by_cases z : 0 ≤ v
          · rw [if_pos z]; exact (e_figure (D := D) (n := 0) (by decide) (by decide) z c3.2).2.2.2
          · rw [if_neg z]; decide
        have cls : (if zI v = zI (-1) then f_Main_books_55 v p 0 e s (D 1 7) D else f_Main_books_55 v p (jshl 1 v) e s (D 1 7) D) = f_Main_books_55 v p k e s (D 1 7) D := by
          by_cases z : v = -1
          · rw [if_pos ((zI_eq hv.1 hv.2 (by decide) (by decide)).mpr z), ← hk, if_neg (by omega)]
          · rw [if_neg (fun y => z ((zI_eq hv.1 hv.2 (by decide) (by decide)).mp y)), ← hk, if_pos (by omega)]
        rw [cls]
        obtain ⟨E, E1, E2, E3, ⟨ind, E4, E5⟩, E6⟩ := e_search hh c1.1 c1.2 c2.1 c2.2 kb.1 kb.2
        have IE := hh.c69 E2 E3
        have e17 : E 1 7 = D 1 7 := E2 _ _ (by omega)
        have es : E (D 1 7) 0 = D (D 1 7) 0 := E2 _ _ (by omega)
        have FE : ∀ a b c d, Ft E (D 1 7) s e a b c d ↔ Ft D (D 1 7) s e a b c d := fun a b c d => Ft_cong hq E2
        obtain ⟨c, b, B1, B2, B3, B4⟩ := e_bk IE (s := s) (e := e) (v := v) (p := p) (I := fun n => ind (n / 1000) (n / 100 % 10) (n / 10 % 10) (n % 10)) c1.1 (by rw [e17, es]; exact c1.2) c2.1 c2.2 c3.1 c3.2 hp (fun n n0 n1 => by
          rw [e17]
          rcases E4 _ _ _ _ (ok_n n0 n1) with ⟨y, w⟩ | ⟨y, w⟩
          · exact Or.inl ⟨(FE _ _ _ _).mpr y, w⟩
          · exact Or.inr ⟨fun u => y ((FE _ _ _ _).mp u), w⟩)
        rw [zs_4 ind, ← E5] at B2
        rw [e17] at B4
        refine ⟨if 0 ≤ v then b else c, E, ?_, ?_, IE⟩
        · unfold f_Main_books_55
          rw [E1, zb_some]
          by_cases z : v = -1
          · rw [if_pos ((zI_eq hv.1 hv.2 (by decide) (by decide)).mpr z), if_neg (by omega), B2]
          · have zv : 0 ≤ v := by omega
            rw [if_neg (fun y => z ((zI_eq hv.1 hv.2 (by decide) (by decide)).mp y)), if_pos zv, ← B2]
            rw [if_pos zv] at hk B4
            rw [hk] at B4
            rcases B4 with ⟨u1, u2, u3⟩ | ⟨u1, ⟨n, n0, n1, n2, n3⟩, u3⟩
            · rw [if_pos ((zI_eq0 (by omega) (by omega)).mpr u2), u3]
            · rw [if_neg (fun y => by have := (zI_eq0 (by omega) (by omega)).mp y; omega)]
              have n2' := (FE _ _ _ _).mp n2
              obtain ⟨g1, ⟨a', b', c', d', ok, w1, w2⟩, a'', b'', c'', d'', ok2, x1, x2⟩ := E6 ⟨_, _, _, _, ok_n n0 n1, n2'⟩
              have gn := g1 _ _ _ _ (ok_n n0 n1) n2'
              have gn : E 6 5 ≤ dgs k n ∧ dgs k n ≤ E 6 6 := gn
              have back : ∀ a b c d, Ok4 a b c d → Ft D (D 1 7) s e a b c d → Fn E (D 1 7) s e (1000 * a + 100 * b + 10 * c + d) ∧ dgs k (1000 * a + 100 * b + 10 * c + d) = sg a b c d k := fun a b c d ok hf => by
                obtain ⟨q1, q2, q3, q4, -, -⟩ := dg_n ok
                unfold Fn dgs
                rw [q1, q2, q3, q4]
                exact ⟨(FE _ _ _ _).mpr hf, rfl⟩
              by_cases pz : p = 0
              · rw [if_pos ((zI_eq0 hp.1 hp.2).mpr pz)]
                have m := back a' b' c' d' ok w1
                have d := dg_n ok
                have o := (u3 _ d.2.2.2.2.1 d.2.2.2.2.2 m.1).1 pz
                rw [m.2] at o
                rw [show E 6 5 = b by omega]
              · rw [if_neg (fun y => pz ((zI_eq0 hp.1 hp.2).mp y))]
                have m := back a'' b'' c'' d'' ok2 x1
                have d := dg_n ok2
                have o := (u3 _ d.2.2.2.2.1 d.2.2.2.2.2 m.1).2 pz
                rw [m.2] at o
                rw [show E 6 6 = b by omega]
        · rw [mod E (by rw [E2 _ _ (by omega)]; exact hs.2.2), if_pos c1, if_pos c2, if_pos c3]
          exact B1
      · rw [if_pos c1, if_pos c2, if_neg c3]
        exact ⟨-1, D, rfl, by rw [mod D hs.2.2, if_pos c1, if_pos c2, if_neg c3], hh⟩
    · rw [if_pos c1, if_neg c2]
      exact ⟨-1, D, rfl, by rw [mod D hs.2.2, if_pos c1, if_neg c2], hh⟩
  · rw [if_neg c1]
    exact ⟨-1, D, rfl, by rw [mod D hs.2.2, if_neg c1], hh⟩

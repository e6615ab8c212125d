def Ok4 (a b c d : Int) : Prop := 0 ≤ a ∧ a ≤ 9 ∧ 0 ≤ b ∧ b ≤ 9 ∧ 0 ≤ c ∧ c ≤ 9 ∧ 0 ≤ d ∧ d ≤ 9
def Ft (D : Mm) (q s e a b c d : Int) : Prop := ∀ f, 0 ≤ f → f < D q 1 → dmd D q s e f (sg a b c d (D (q + 11) f))
theorem sg_0 {a b c d : Int} : sg a b c d 0 = 0 := by simp [sg]
theorem Ft_Fu {D B : Mm} {q s e a b c d : Int} (h : QL D q) (hB : Bnd D q s e (D q 1) B) (ok : Ok4 a b c d) : Ft D q s e a b c d ↔ B 7 0 ≤ 0 ∧ Fu B a b c d := by
  have ok2 := ok
  obtain ⟨a0, a1, b0, b1, c0, c1, d0, d1⟩ := ok2
  obtain ⟨-, -, b3, b4, -⟩ := hB
  constructor
  · intro hf
    refine ⟨((b4 0 0 (by decide) (by decide) (by decide) (by decide)).mpr (fun f f0 f1 hm => ?_)).1, ok, fun m m0 m1 => ?_⟩
    · have := hf f f0 f1
      rw [hm, sg_0] at this
      exact this
    · have x := sg_36 (m := m) a0 a1 b0 b1 c0 c1 d0 d1
      refine (b4 m _ (by omega) m1 x.1 x.2).mpr (fun f f0 f1 hm => ?_)
      have := hf f f0 f1
      rw [hm] at this
      exact this
  · intro ⟨h0, _, hf⟩ f f0 f1
    obtain ⟨-, -, -, ⟨-, t1, t2⟩⟩ := h.2.2.2.1 f f0 f1
    have x := sg_36 (m := D (q + 11) f) a0 a1 b0 b1 c0 c1 d0 d1
    refine (b4 (D (q + 11) f) _ t1 (by omega) x.1 x.2).mp ?_ f f0 f1 rfl
    by_cases z : D (q + 11) f = 0
    · rw [z, sg_0]
      exact ⟨h0, (b3 0 (by decide) (by decide)).2.2.1⟩
    · exact hf _ (by omega) (by omega)
def up9 (B : Mm) (t x : Int) : Int := if bitz (B 6 3) t = 1 then x else 9
theorem up_fr {B : Mm} {t x : Int} (h : ¬ bitz (B 6 3) t = 1 → x = 0) (x0 : 0 ≤ x) (x1 : x ≤ 9) : fr B t (up9 B t x) = x ∧ 0 ≤ up9 B t x ∧ up9 B t x ≤ 9 := by
  unfold fr up9
  by_cases z : bitz (B 6 3) t = 1
  · rw [if_pos z, if_pos z]; exact ⟨rfl, x0, x1⟩
  · rw [if_neg z, if_neg z]; exact ⟨(h z).symm, by decide, by decide⟩
theorem up_one {B : Mm} {t x k : Int} {p : Prop} [Decidable p] (e : bitz k t = 1 ↔ p) (h : ¬ bitz (B 6 3) t = 1 → x = 0) : (if p then up9 B t x else 0) = (if p then x else 0) + nf B k t := by
  unfold up9 nf
  by_cases z : bitz (B 6 3) t = 1
  · rw [if_pos z, if_pos z]; omega
  · rw [if_neg z, if_neg z, h z]
    by_cases y : p
    · rw [if_pos y, if_pos y, e.mpr y]; rfl
    · rw [if_neg y, if_neg y]
      rcases bitz_01 k t with u | u
      · rw [u]; rfl
      · exact absurd (e.mp u) y
theorem fr_one {B : Mm} {t x k : Int} {p : Prop} [Decidable p] (e : bitz k t = 1 ↔ p) (x0 : 0 ≤ x) (x1 : x ≤ 9) : (if p then fr B t x else 0) ≤ (if p then x else 0) ∧ (if p then x else 0) ≤ (if p then fr B t x else 0) + nf B k t := by
  unfold fr nf
  by_cases z : bitz (B 6 3) t = 1
  · rw [if_pos z, if_pos z]; omega
  · rw [if_neg z, if_neg z]
    by_cases y : p
    · rw [if_pos y, if_pos y, e.mpr y]; omega
    · rw [if_neg y, if_neg y]
      rcases bitz_01 k t with u | u
      · rw [u]; omega
      · exact absurd (e.mp u) y
theorem e_search {D : Mm} (h : Iv D) {s e k : Int} (s0 : 0 ≤ s) (s1 : s < D (D 1 7) 0) (e0 : 0 ≤ e) (e1 : e ≤ 99) (k0 : 0 ≤ k) (k1 : k < 16) : ∃ E, f_Books_search (D 1 7) 12 s e k D = some (0, E) ∧ (∀ x j, ¬ (6 ≤ x ∧ x ≤ 9) → E x j = D x j) ∧ E 9 0 = 0 ∧ (∃ ind : Int → Int → Int → Int → Int, (∀ a b c d, Ok4 a b c d → (Ft D (D 1 7) s e a b c d ∧ ind a b c d = 1) ∨ (¬ Ft D (D 1 7) s e a b c d ∧ ind a b c d = 0)) ∧ E 6 4 = zsum (fun a => zsum (fun b => zsum (fun c => zsum (fun d => ind a b c d) 10) 10) 10) 10) ∧ ((∃ a b c d, Ok4 a b c d ∧ Ft D (D 1 7) s e a b c d) → (∀ a b c d, Ok4 a b c d → Ft D (D 1 7) s e a b c d → E 6 5 ≤ sg a b c d k ∧ sg a b c d k ≤ E 6 6) ∧ (∃ a b c d, Ok4 a b c d ∧ Ft D (D 1 7) s e a b c d ∧ sg a b c d k = E 6 5) ∧ ∃ a b c d, Ok4 a b c d ∧ Ft D (D 1 7) s e a b c d ∧ sg a b c d k = E 6 6) := by
  have hq := h.q
  generalize hC : stm (stm (stm D 6 4 0) 6 5 37) 6 6 (-1) = C
  have Co : ∀ x j, x ≠ 6 → C x j = D x j := fun x j hx => by rw [← hC, stm_ne (by omega), stm_ne (by omega), stm_ne (by omega)]
  have C4 : C 6 4 = 0 := by rw [← hC, stm_ne (by omega), stm_ne (by omega), stm_eq ⟨rfl, rfl⟩]
  have C5 : C 6 5 = 37 := by rw [← hC, stm_ne (by omega), stm_eq ⟨rfl, rfl⟩]
  have C6 : C 6 6 = -1 := by rw [← hC, stm_eq ⟨rfl, rfl⟩]
  have hCI : Iv C := h.cong (fun a i hr => Co a i (by unfold Rel Bk0 at hr; omega))
  have c17 : C 1 7 = D 1 7 := Co _ _ (by decide)
  obtain ⟨-, -, cq, cf, c5, -⟩ := hCI
  rw [c17] at cq cf
  have FtE : ∀ a b c d, Ft C (D 1 7) s e a b c d ↔ Ft D (D 1 7) s e a b c d := fun a b c d => by
    unfold Ft dmd
    rw [Co (D 1 7) 1 (by omega)]
    constructor
    · intro y f f0 f1
      have := y f f0 f1
      rw [Co (D 1 7 + 9) f (by omega), Co 12 2 (by omega), Co (12 + 2 + f) s (by omega), Co (D 1 7 + 10) f (by omega), Co (D 1 7 + 11) f (by omega)] at this
      exact this
    · intro y f f0 f1
      rw [Co (D 1 7 + 9) f (by omega), Co 12 2 (by omega), Co (12 + 2 + f) s (by omega), Co (D 1 7 + 10) f (by omega), Co (D 1 7 + 11) f (by omega)]
      exact y f f0 f1
  obtain ⟨B, B1, B2⟩ := e_boundSums hq cq cf s0 (by rw [Co _ _ (by omega)]; exact s1) e0 e1
  have hFF : ∀ a b c d, Ok4 a b c d → (Ft D (D 1 7) s e a b c d ↔ B 7 0 ≤ 0 ∧ Fu B a b c d) := fun a b c d ok => (FtE a b c d).symm.trans (Ft_Fu cq B2 ok)
  have hHb : Hb B := ⟨B2.2.2.1, B2.2.2.2.2⟩
  have Bo := B2.1
  have B90 : B 9 0 = 0 := by rw [Bo 9 0 (by omega) (by omega) (by omega)]; exact c5.1.2
  have Bout : ∀ x j, ¬ (6 ≤ x ∧ x ≤ 9) → B x j = D x j := fun x j hx => by rw [Bo x j (by omega) (by omega) (by omega), Co x j (by omega)]
  have B4 : B 6 4 = 0 := by rw [Bo 6 4 (by omega) (by omega) (by omega), C4]
  have B5 : B 6 5 = 37 := by rw [Bo 6 5 (by omega) (by omega) (by omega), C5]
  have B6 : B 6 6 = -1 := by rw [Bo 6 6 (by omega) (by omega) (by omega), C6]
  obtain ⟨l70, l71, -, -⟩ := B2.2.2.1 0 (by decide) (by decide)
  unfold f_Books_search
  simp only [zst]
  rw [hC, B1, zb_some]
  by_cases z : B 7 0 ≤ 0
  · rw [if_pos ((zI_le0 (by omega) (by omega)).mpr z)]
    have ⟨ind, hi⟩ : ∃ ind, Ind B ind := ⟨fun a b c d => @ite Int (Pt B a b c d) (Classical.propDecidable _) 1 0, fun a b c d => by
      by_cases y : Pt B a b c d
      · exact Or.inl ⟨y, if_pos y⟩
      · exact Or.inr ⟨y, if_neg y⟩⟩
    have h90 : ∀ m, 0 ≤ m → m < 1 → B 9 m = sg 0 0 0 0 m := fun m m0 m1 => by
      have hm : m = 0 := by omega
      subst hm
      rw [B90, sg_0]
    obtain ⟨l, g, d1, d2, d3, d4⟩ := e_dig (t := 0) (w := 1) (a := 0) (b := 0) (c := 0) hHb (fun x j _ _ => rfl : Ss B B) (by omega) h90 (by decide) (by decide) (by decide) (by decide) (by decide) (by decide)
    obtain ⟨E, E1, E2, E3, E4, E5⟩ := e_c49 (k := k) hHb hi k0 k1 (fun x j _ _ => rfl : Ss B B) B90 d3 d4 ⟨by rw [B5]; decide, by rw [B6]; decide, fun a b c d y => y.elim, Or.inl ⟨B5, B6⟩⟩
    obtain ⟨G, G1, G2, G3, G4⟩ := e_nfs (B := B) (E := E) (k := k) (E2 6 3 (by decide) (by omega))
    have G5 : G 6 5 = E 6 5 := G4 _ _ (by omega)
    obtain ⟨p0, p1, p2, p3⟩ := bit_mod (m := k) k0 k1
    refine ⟨G, ?_, fun x j hx => by rw [G4 x j (by omega), E2 x j (by omega) (by omega)]; exact Bout x j hx, by rw [G4 9 0 (by omega)]; exact E3, ⟨fun a b c d => ind (fr B 0 a) (fr B 1 b) (fr B 2 c) (fr B 3 d), fun a b c d ok => ?_, ?_⟩, fun ⟨a, b, c, d, ok, hf⟩ => ?_⟩
    · rw [d2, d1]
      simp only [Option.bind_some]
      rw [E1, G1]
      rfl
    · have ok2 := ok
      obtain ⟨a0, a1, b0, b1, c0, c1, d0, d1⟩ := ok2
      have q := Fu_fr hHb a0 a1 b0 b1 c0 c1 d0 d1
      rcases hi (fr B 0 a) (fr B 1 b) (fr B 2 c) (fr B 3 d) with ⟨y, w⟩ | ⟨y, w⟩
      · exact Or.inl ⟨(hFF a b c d ok).mpr ⟨z, q.mpr y⟩, w⟩
      · exact Or.inr ⟨fun u => y (q.mp ((hFF a b c d ok).mp u).2), w⟩
    · rw [G2, E4, B4, Int.zero_add]
      exact (sum4 hi).symm
    · obtain ⟨r1, r2, r3, r4⟩ := E5
      have all : ∀ a b c d, Ok4 a b c d → Ft D (D 1 7) s e a b c d → G 6 5 ≤ sg a b c d k ∧ sg a b c d k ≤ G 6 6 ∧ Pt B (fr B 0 a) (fr B 1 b) (fr B 2 c) (fr B 3 d) := fun a b c d ok hf => by
        have ok2 := ok
        obtain ⟨a0, a1, b0, b1, c0, c1, d0, d1⟩ := ok2
        have y := (Fu_fr hHb a0 a1 b0 b1 c0 c1 d0 d1).mp ((hFF a b c d ok).mp hf).2
        have w := r3 _ _ _ _ y
        have o0 := fr_one (B := B) p0 a0 a1
        have o1 := fr_one (B := B) p1 b0 b1
        have o2 := fr_one (B := B) p2 c0 c1
        have o3 := fr_one (B := B) p3 d0 d1
        rw [G5, G3]
        have sl : sg (fr B 0 a) (fr B 1 b) (fr B 2 c) (fr B 3 d) k ≤ sg a b c d k := by unfold sg; omega
        have sr : sg a b c d k ≤ sg (fr B 0 a) (fr B 1 b) (fr B 2 c) (fr B 3 d) k + nf B k 0 + nf B k 1 + nf B k 2 + nf B k 3 := by unfold sg; omega
        exact ⟨by omega, by omega, y⟩
      refine ⟨fun a b c d ok hf => ⟨(all a b c d ok hf).1, (all a b c d ok hf).2.1⟩, ?_⟩
      have some1 := r3 _ _ _ _ (all a b c d ok hf).2.2
      rcases r4 with y | ⟨⟨a', b', c', d', y1, y2⟩, a'', b'', c'', d'', z1, z2⟩
      · omega
      · refine ⟨⟨a', b', c', d', (Pt_Fu.mp y1).1.1, (hFF _ _ _ _ (Pt_Fu.mp y1).1.1).mpr ⟨z, (Pt_Fu.mp y1).1⟩, by rw [y2, G5]⟩, ?_⟩
        obtain ⟨⟨⟨a0, a1, b0, b1, c0, c1, d0, d1⟩, -⟩, f0, f1, f2, f3⟩ := Pt_Fu.mp z1
        have u0 := up_fr f0 a0 a1
        have u1 := up_fr f1 b0 b1
        have u2 := up_fr f2 c0 c1
        have u3 := up_fr f3 d0 d1
        have okk : Ok4 (up9 B 0 a'') (up9 B 1 b'') (up9 B 2 c'') (up9 B 3 d'') := ⟨u0.2.1, u0.2.2, u1.2.1, u1.2.2, u2.2.1, u2.2.2, u3.2.1, u3.2.2⟩
        refine ⟨up9 B 0 a'', up9 B 1 b'', up9 B 2 c'', up9 B 3 d'', okk, (hFF _ _ _ _ okk).mpr ⟨z, (Fu_fr hHb u0.2.1 u0.2.2 u1.2.1 u1.2.2 u2.2.1 u2.2.2 u3.2.1 u3.2.2).mpr (by rw [u0.1, u1.1, u2.1, u3.1]; exact z1)⟩, ?_⟩
        rw [G3, ← z2]
        unfold sg
        rw [up_one p0 f0, up_one p1 f1, up_one p2 f2, up_one p3 f3]
        omega
  · rw [if_neg (fun y => z ((zI_le0 (by omega) (by omega)).mp y))]
    refine ⟨B, rfl, Bout, B90, ⟨fun _ _ _ _ => 0, fun a b c d ok => Or.inr ⟨fun y => z ((hFF a b c d ok).mp y).1, rfl⟩, ?_⟩, fun ⟨a, b, c, d, ok, hf⟩ => absurd ((hFF a b c d ok).mp hf).1 z⟩
    rw [B4]
    rfl

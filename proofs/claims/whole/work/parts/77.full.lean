def pf (B : Mm) (t : Int) : Int := if bitz (B 6 3) t = 1 then 1 else 10
def nf (B : Mm) (k t : Int) : Int := if bitz (B 6 3) t = 1 then 0 else bitz k t * 9
theorem e_nf1 {B E : Mm} {k t : Int} (n : Nat) (t0 : 0 ≤ t) (t1 : t < 4) (h : E 6 3 = B 6 3) : ∃ G, f_Books_noteFreeSteps_2 k (n + 1) t E = f_Books_noteFreeSteps_2 k n (t + 1) G ∧ G 6 4 = E 6 4 * pf B t ∧ G 6 6 = E 6 6 + nf B k t ∧ ∀ x j, ¬ (x = 6 ∧ (j = 4 ∨ j = 6)) → G x j = E x j := by
  have nc : ¬ zI 4 ≤ zI t := fun q => by have := (zI_le (by omega) (by omega) (by omega) (by omega)).mp q; omega
  rw [f_Books_noteFreeSteps_2, if_neg nc, e_free, h]
  unfold pf nf
  by_cases z : bitz (B 6 3) t = 1
  · rw [if_pos z, if_pos z, if_pos z]
    exact ⟨E, rfl, by omega, by omega, fun x j _ => rfl⟩
  · rw [if_neg z, if_neg z, if_neg z]
    refine ⟨stm (stm E 6 4 (E 6 4 * 10)) 6 6 (stm E 6 4 (E 6 4 * 10) 6 6 + bitz k t * 9), rfl, ?_, ?_, fun x j hn => ?_⟩
    · rw [stm_ne (by omega), stm_eq ⟨rfl, rfl⟩]
    · rw [stm_eq ⟨rfl, rfl⟩, stm_ne (by omega)]
    · rw [stm_ne (by omega), stm_ne (by omega)]
theorem e_nfs {B E : Mm} {k : Int} (h : E 6 3 = B 6 3) : ∃ G, f_Books_noteFreeSteps k E = some (0, G) ∧ G 6 4 = E 6 4 * pf B 0 * pf B 1 * pf B 2 * pf B 3 ∧ G 6 6 = E 6 6 + nf B k 0 + nf B k 1 + nf B k 2 + nf B k 3 ∧ ∀ x j, ¬ (x = 6 ∧ (j = 4 ∨ j = 6)) → G x j = E x j := by
  obtain ⟨G0, a1, a2, a3, a4⟩ := e_nf1 (k := k) 999999 (t := 0) (by decide) (by decide) h
  obtain ⟨G1, b1, b2, b3, b4⟩ := e_nf1 (B := B) (k := k) 999998 (t := 0 + 1) (E := G0) (by decide) (by decide) (by rw [a4 _ _ (by omega), h])
  obtain ⟨G2, c1, c2, c3, c4⟩ := e_nf1 (B := B) (k := k) 999997 (t := 0 + 1 + 1) (E := G1) (by decide) (by decide) (by rw [b4 _ _ (by omega), a4 _ _ (by omega), h])
  obtain ⟨G3, d1, d2, d3, d4⟩ := e_nf1 (B := B) (k := k) 999996 (t := 0 + 1 + 1 + 1) (E := G2) (by decide) (by decide) (by rw [c4 _ _ (by omega), b4 _ _ (by omega), a4 _ _ (by omega), h])
  refine ⟨G3, ?_, ?_, ?_, fun x j hn => by rw [d4 x j hn, c4 x j hn, b4 x j hn, a4 x j hn]⟩
  · unfold f_Books_noteFreeSteps
    rw [show zF = 999999 + 1 from rfl, a1, show (999999 : Nat) = 999998 + 1 from rfl, b1, show (999998 : Nat) = 999997 + 1 from rfl, c1, show (999997 : Nat) = 999996 + 1 from rfl, d1, show (999996 : Nat) = 999995 + 1 from rfl, f_Books_noteFreeSteps_2, if_pos (by decide +kernel)]
  · rw [d2, c2, b2, a2]; rfl
  · rw [d3, c3, b3, a3]; rfl
theorem zsum_mul {f : Int → Int} {p : Int} : ∀ n : Nat, zsum (fun x => p * f x) n = p * zsum f n := by
  intro n
  induction n with
  | zero => show (0 : Int) = p * 0; rw [Int.mul_zero]
  | succ n ih =>
    show zsum (fun x => p * f x) n + p * f n = p * (zsum f n + f n)
    rw [ih, Int.mul_add]
theorem sum1 {B : Mm} {t : Int} {f : Int → Int} (h : ¬ bitz (B 6 3) t = 1 → ∀ x, x ≠ 0 → f x = 0) : zsum (fun x => f (fr B t x)) 10 = pf B t * zsum f 10 := by
  unfold fr pf
  by_cases z : bitz (B 6 3) t = 1
  · rw [if_pos z, Int.one_mul]
    exact zsum_cong 10 (fun x _ _ => by rw [if_pos z])
  · rw [if_neg z]
    have e1 : zsum (fun x => f (if bitz (B 6 3) t = 1 then x else 0)) 10 = zsum (fun _ => f 0) 10 := zsum_cong 10 (fun x _ _ => by rw [if_neg z])
    have e2 : zsum (fun _ => f 0) 10 = 10 * f 0 := by
      show 0 + f 0 + f 0 + f 0 + f 0 + f 0 + f 0 + f 0 + f 0 + f 0 + f 0 = _
      omega
    have e3 : zsum f 10 = f 0 := by
      show 0 + f 0 + f 1 + f 2 + f 3 + f 4 + f 5 + f 6 + f 7 + f 8 + f 9 = _
      rw [h z 1 (by decide), h z 2 (by decide), h z 3 (by decide), h z 4 (by decide), h z 5 (by decide), h z 6 (by decide), h z 7 (by decide), h z 8 (by decide), h z 9 (by decide)]
      omega
    rw [e1, e2, e3]
theorem sum4 {B : Mm} {ind : Int → Int → Int → Int → Int} (hi : Ind B ind) : zsum (fun a => zsum (fun b => zsum (fun c => zsum (fun d => ind (fr B 0 a) (fr B 1 b) (fr B 2 c) (fr B 3 d)) 10) 10) 10) 10 = zsum (fun a => zsum (fun b => zsum (fun c => zsum (ind a b c) 10) 10) 10) 10 * pf B 0 * pf B 1 * pf B 2 * pf B 3 := by
  have no : ∀ a b c d, ((¬ bitz (B 6 3) 0 = 1 ∧ a ≠ 0) ∨ (¬ bitz (B 6 3) 1 = 1 ∧ b ≠ 0) ∨ (¬ bitz (B 6 3) 2 = 1 ∧ c ≠ 0) ∨ (¬ bitz (B 6 3) 3 = 1 ∧ d ≠ 0)) → ind a b c d = 0 := by
    intro a b c d h
    rcases hi a b c d with ⟨y, _⟩ | ⟨_, y⟩
    · obtain ⟨_, u0, u1, u2, u3⟩ := Pt_Fu.mp y
      rcases h with ⟨h1, h2⟩ | ⟨h1, h2⟩ | ⟨h1, h2⟩ | ⟨h1, h2⟩
      · exact absurd (u0 h1) h2
      · exact absurd (u1 h1) h2
      · exact absurd (u2 h1) h2
      · exact absurd (u3 h1) h2
    · exact y
  have s3 : ∀ a b c, zsum (fun d => ind a b c (fr B 3 d)) 10 = pf B 3 * zsum (ind a b c) 10 := fun a b c => sum1 (f := ind a b c) (fun y x hx => no a b c x (Or.inr (Or.inr (Or.inr ⟨y, hx⟩))))
  have s2 : ∀ a b, zsum (fun c => zsum (fun d => ind a b (fr B 2 c) (fr B 3 d)) 10) 10 = pf B 3 * (pf B 2 * zsum (fun c => zsum (ind a b c) 10) 10) := fun a b => by
    rw [zsum_cong (g := fun c => pf B 3 * (fun C => zsum (ind a b C) 10) (fr B 2 c)) 10 (fun c _ _ => s3 a b (fr B 2 c)), zsum_mul, sum1 (f := fun C => zsum (ind a b C) 10) (fun y x hx => zsum_0 10 (fun d _ _ => no a b x d (Or.inr (Or.inr (Or.inl ⟨y, hx⟩)))))]
  have s1 : ∀ a, zsum (fun b => zsum (fun c => zsum (fun d => ind a (fr B 1 b) (fr B 2 c) (fr B 3 d)) 10) 10) 10 = pf B 3 * (pf B 2 * (pf B 1 * zsum (fun b => zsum (fun c => zsum (ind a b c) 10) 10) 10)) := fun a => by
    rw [zsum_cong (g := fun b => pf B 3 * (fun x => pf B 2 * (fun C => zsum (fun c => zsum (ind a C c) 10) 10) (fr B 1 x)) b) 10 (fun b _ _ => s2 a (fr B 1 b)), zsum_mul, zsum_mul, sum1 (f := fun C => zsum (fun c => zsum (ind a C c) 10) 10) (fun y x hx => zsum_0 10 (fun c _ _ => zsum_0 10 (fun d _ _ => no a x c d (Or.inr (Or.inl ⟨y, hx⟩)))))]
  rw [zsum_cong (g := fun a => pf B 3 * (fun x => pf B 2 * (fun y => pf B 1 * (fun C => zsum (fun b => zsum (fun c => zsum (ind C b c) 10) 10) 10) (fr B 0 y)) x) a) 10 (fun a _ _ => s1 (fr B 0 a)), zsum_mul, zsum_mul, zsum_mul, sum1 (f := fun C => zsum (fun b => zsum (fun c => zsum (ind C b c) 10) 10) 10) (fun y x hx => zsum_0 10 (fun b _ _ => zsum_0 10 (fun c _ _ => zsum_0 10 (fun d _ _ => no x b c d (Or.inl ⟨y, hx⟩)))))]
  generalize zsum (fun a => zsum (fun b => zsum (fun c => zsum (ind a b c) 10) 10) 10) 10 = S
  generalize pf B 0 = p0
  generalize pf B 1 = p1
  generalize pf B 2 = p2
  generalize pf B 3 = p3
  rw [Int.mul_comm p3, Int.mul_comm p2, Int.mul_comm p1, Int.mul_comm p0]

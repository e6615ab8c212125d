theorem zs_split {h : Int → Int → Int} : ∀ m : Nat, zsum (fun n => h (n / 10) (n % 10)) (10 * m) = zsum (fun j => zsum (h j) 10) m := by
  intro m
  induction m with
  | zero => rfl
  | succ m ih =>
    have e : ∀ c : Nat, c < 10 → (fun n : Int => h (n / 10) (n % 10)) ((10 * m + c : Nat) : Int) = h (m : Int) (c : Int) := fun c hc => by
      show h (((10 * m + c : Nat) : Int) / 10) (((10 * m + c : Nat) : Int) % 10) = _
      rw [show ((10 * m + c : Nat) : Int) / 10 = (m : Int) by omega, show ((10 * m + c : Nat) : Int) % 10 = (c : Int) by omega]
    have s : ∀ j : Nat, j ≤ 10 → zsum (fun n : Int => h (n / 10) (n % 10)) (10 * m + j) = zsum (fun n : Int => h (n / 10) (n % 10)) (10 * m) + zsum (h (m : Int)) j := by
      intro j
      induction j with
      | zero => intro _; show _ = _ + (0 : Int); rw [Int.add_zero]; rfl
      | succ j jh =>
        intro hj
        show zsum (fun n : Int => h (n / 10) (n % 10)) (10 * m + j) + (fun n : Int => h (n / 10) (n % 10)) ((10 * m + j : Nat) : Int) = _ + (zsum (h (m : Int)) j + h (m : Int) (j : Int))
        rw [jh (by omega), e j (by omega)]
        omega
    rw [show 10 * (m + 1) = 10 * m + 10 by omega, s 10 (by decide), ih]
    rfl
theorem zs_4 (ind : Int → Int → Int → Int → Int) : zsum (fun n => ind (n / 1000) (n / 100 % 10) (n / 10 % 10) (n % 10)) 10000 = zsum (fun a => zsum (fun b => zsum (fun c => zsum (fun d => ind a b c d) 10) 10) 10) 10 := by
  have a1 : zsum (fun n => ind (n / 1000) (n / 100 % 10) (n / 10 % 10) (n % 10)) 10000 = zsum (fun j => zsum (fun d => ind (j / 100) (j / 10 % 10) (j % 10) d) 10) 1000 := by
    rw [← zs_split (h := fun j d => ind (j / 100) (j / 10 % 10) (j % 10) d) 1000]
    exact zsum_cong 10000 (fun k k0 k1 => by
      show ind (k / 1000) (k / 100 % 10) (k / 10 % 10) (k % 10) = ind (k / 10 / 100) (k / 10 / 10 % 10) (k / 10 % 10) (k % 10)
      rw [show k / 10 / 100 = k / 1000 by omega, show k / 10 / 10 = k / 100 by omega])
  have a2 : zsum (fun j => zsum (fun d => ind (j / 100) (j / 10 % 10) (j % 10) d) 10) 1000 = zsum (fun j => zsum (fun c => zsum (fun d => ind (j / 10) (j % 10) c d) 10) 10) 100 := by
    rw [← zs_split (h := fun j c => zsum (fun d => ind (j / 10) (j % 10) c d) 10) 100]
    exact zsum_cong 1000 (fun k k0 k1 => by
      show zsum (fun d => ind (k / 100) (k / 10 % 10) (k % 10) d) 10 = zsum (fun d => ind (k / 10 / 10) (k / 10 % 10) (k % 10) d) 10
      rw [show k / 10 / 10 = k / 100 by omega])
  have a3 : zsum (fun j => zsum (fun c => zsum (fun d => ind (j / 10) (j % 10) c d) 10) 10) 100 = zsum (fun a => zsum (fun b => zsum (fun c => zsum (fun d => ind a b c d) 10) 10) 10) 10 := zs_split (h := fun a b => zsum (fun c => zsum (fun d => ind a b c d) 10) 10) 10
  rw [a1, a2, a3]
def dgs (k n : Int) : Int := sg (n / 1000) (n / 100 % 10) (n / 10 % 10) (n % 10) k
theorem e_figure {D : Mm} {n i : Int} (n0 : 0 ≤ n) (n1 : n < 10000) (i0 : 0 ≤ i) (i1 : i ≤ 3) : f_Model_figure n i D = some (dgs (jshl 1 i) n) ∧ 0 ≤ dgs (jshl 1 i) n ∧ dgs (jshl 1 i) n ≤ 36 ∧ 0 ≤ jshl 1 i ∧ jshl 1 i < 16 := by
  have st : ∀ (m : Nat) (v t : Int), 0 ≤ v → v < 10000 → i < t → t ≤ 3 → f_Model_figure_4 i D (m + 1) v t = f_Model_figure_4 i D m (v / 10) (t + (-1)) := fun m v t v0 v1 t0 t1 => by
    rw [f_Model_figure_4, if_neg (fun q => by have := (zI_le (by omega) (by omega) (by omega) (by omega)).mp q; omega), jdiv_nn v0 (by omega) (by decide) (by decide)]
  have en : ∀ (m : Nat) (v : Int), 0 ≤ v → v < 10000 → f_Model_figure_4 i D (m + 1) v i = some (v % 10) := fun m v v0 v1 => by
    rw [f_Model_figure_4, if_pos (Int32.le_refl _), jrem_nn v0 (by omega) (by decide) (by decide)]
  have sb : ∀ k, 0 ≤ dgs k n ∧ dgs k n ≤ 36 := fun k => sg_36 (by omega) (by omega) (by omega) (by omega) (by omega) (by omega) (by omega) (by omega)
  refine ⟨?_, (sb _).1, (sb _).2, ?_⟩
  · unfold f_Model_figure
    rw [show zF = 999996 + 1 + 1 + 1 + 1 from rfl]
    rcases (show i = 0 ∨ i = 1 ∨ i = 2 ∨ i = 3 by omega) with h | h | h | h <;> subst h
    · rw [st _ n 3 n0 n1 (by decide) (by decide), st _ _ _ (by omega) (by omega) (by decide) (by decide), st _ _ _ (by omega) (by omega) (by decide) (by decide)]
      refine (en _ _ (by omega) (by omega)).trans ?_
      rw [show jshl 1 0 = 1 by decide +kernel]
      congr 1
      unfold dgs
      simp [sg]
      omega
    · rw [st _ n 3 n0 n1 (by decide) (by decide), st _ _ _ (by omega) (by omega) (by decide) (by decide)]
      refine (en _ _ (by omega) (by omega)).trans ?_
      rw [show jshl 1 1 = 2 by decide +kernel]
      congr 1
      unfold dgs
      simp [sg]
      omega
    · rw [st _ n 3 n0 n1 (by decide) (by decide)]
      refine (en _ _ (by omega) (by omega)).trans ?_
      rw [show jshl 1 2 = 4 by decide +kernel]
      congr 1
      unfold dgs
      simp [sg]
    · refine (en _ _ (by omega) (by omega)).trans ?_
      rw [show jshl 1 3 = 8 by decide +kernel]
      congr 1
      unfold dgs
      simp [sg]
  · rcases (show i = 0 ∨ i = 1 ∨ i = 2 ∨ i = 3 by omega) with h | h | h | h <;> subst h <;> decide +kernel

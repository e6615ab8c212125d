/-! PURE PART. numbers -/
theorem zI_lt {a b : Int} (h1 : -2147483648 ≤ a) (h2 : a < 2147483648) (h3 : -2147483648 ≤ b) (h4 : b < 2147483648) : (zI a < zI b) ↔ a < b := by
  rw [Int32.lt_iff_toInt_lt, zI_toInt h1 h2, zI_toInt h3 h4]
theorem zI_le {a b : Int} (h1 : -2147483648 ≤ a) (h2 : a < 2147483648) (h3 : -2147483648 ≤ b) (h4 : b < 2147483648) : (zI a ≤ zI b) ↔ a ≤ b := by
  rw [Int32.le_iff_toInt_le, zI_toInt h1 h2, zI_toInt h3 h4]
theorem zI_eq {a b : Int} (h1 : -2147483648 ≤ a) (h2 : a < 2147483648) (h3 : -2147483648 ≤ b) (h4 : b < 2147483648) : (zI a = zI b) ↔ a = b := by
  rw [← Int32.toInt_inj, zI_toInt h1 h2, zI_toInt h3 h4]
theorem zI_0 : (0 : Int32) = zI 0 := by decide +kernel
theorem zL_0 : (0 : Int64) = zL 0 := by decide +kernel
theorem zI_eq0 {a : Int} (h1 : -2147483648 ≤ a) (h2 : a < 2147483648) : (zI a = 0) ↔ a = 0 := by
  rw [zI_0, zI_eq h1 h2 (by decide) (by decide)]
theorem zI_lt0 {a : Int} (h1 : -2147483648 ≤ a) (h2 : a < 2147483648) : (zI a < 0) ↔ a < 0 := by
  rw [zI_0, zI_lt h1 h2 (by decide) (by decide)]
theorem zI_le0 {a : Int} (h1 : -2147483648 ≤ a) (h2 : a < 2147483648) : (zI a ≤ 0) ↔ a ≤ 0 := by
  rw [zI_0, zI_le h1 h2 (by decide) (by decide)]
theorem zI_0lt {a : Int} (h1 : -2147483648 ≤ a) (h2 : a < 2147483648) : (0 < zI a) ↔ 0 < a := by
  rw [zI_0, zI_lt (by decide) (by decide) h1 h2]
theorem zI_0le {a : Int} (h1 : -2147483648 ≤ a) (h2 : a < 2147483648) : (0 ≤ zI a) ↔ 0 ≤ a := by
  rw [zI_0, zI_le (by decide) (by decide) h1 h2]
theorem zL_lt {a b : Int} (h1 : -9223372036854775808 ≤ a) (h2 : a < 9223372036854775808) (h3 : -9223372036854775808 ≤ b) (h4 : b < 9223372036854775808) : (zL a < zL b) ↔ a < b := by
  rw [Int64.lt_iff_toInt_lt, zL_toInt h1 h2, zL_toInt h3 h4]
theorem zL_le {a b : Int} (h1 : -9223372036854775808 ≤ a) (h2 : a < 9223372036854775808) (h3 : -9223372036854775808 ≤ b) (h4 : b < 9223372036854775808) : (zL a ≤ zL b) ↔ a ≤ b := by
  rw [Int64.le_iff_toInt_le, zL_toInt h1 h2, zL_toInt h3 h4]
theorem zL_eq {a b : Int} (h1 : -9223372036854775808 ≤ a) (h2 : a < 9223372036854775808) (h3 : -9223372036854775808 ≤ b) (h4 : b < 9223372036854775808) : (zL a = zL b) ↔ a = b := by
  rw [← Int64.toInt_inj, zL_toInt h1 h2, zL_toInt h3 h4]
theorem zL_eq0 {a : Int} (h1 : -9223372036854775808 ≤ a) (h2 : a < 9223372036854775808) : (zL a = 0) ↔ a = 0 := by
  rw [zL_0, zL_eq h1 h2 (by decide) (by decide)]
theorem wI_id {a : Int} (h1 : -2147483648 ≤ a) (h2 : a < 2147483648) : wI a = a := zI_toInt h1 h2
theorem wI_rng (a : Int) : -2147483648 ≤ wI a ∧ wI a < 2147483648 := by
  have h1 := (zI a).le_toInt
  have h2 := (zI a).toInt_lt
  exact ⟨h1, h2⟩
theorem jdiv_nn {x y : Int} (h1 : 0 ≤ x) (h2 : x < 2147483648) (h3 : 0 < y) (h4 : y < 2147483648) : jdiv x y = x / y := by
  unfold jdiv
  have ex : zI x = nI x.toNat := by
    show Int32.ofInt x = Int32.ofNat x.toNat
    rw [← Int32.ofInt_eq_ofNat]; congr 1; omega
  have ey : zI y = nI y.toNat := by
    show Int32.ofInt y = Int32.ofNat y.toNat
    rw [← Int32.ofInt_eq_ofNat]; congr 1; omega
  rw [ex, ey, pk_div (by omega) (by omega) (by omega)]
  have hle : x.toNat / y.toNat ≤ x.toNat := Nat.div_le_self _ _
  rw [nI_toInt (by omega), Int.natCast_ediv, Int.toNat_of_nonneg h1, Int.toNat_of_nonneg (Int.le_of_lt h3)]
theorem jrem_nn {x y : Int} (h1 : 0 ≤ x) (h2 : x < 2147483648) (h3 : 0 < y) (h4 : y < 2147483648) : jrem x y = x % y := by
  unfold jrem
  have ex : zI x = nI x.toNat := by
    show Int32.ofInt x = Int32.ofNat x.toNat
    rw [← Int32.ofInt_eq_ofNat]; congr 1; omega
  have ey : zI y = nI y.toNat := by
    show Int32.ofInt y = Int32.ofNat y.toNat
    rw [← Int32.ofInt_eq_ofNat]; congr 1; omega
  rw [ex, ey, pk_rem (by omega) (by omega) (by omega)]
  have hle : x.toNat % y.toNat ≤ x.toNat := Nat.mod_le _ _
  rw [nI_toInt (by omega), Int.natCast_emod, Int.toNat_of_nonneg h1, Int.toNat_of_nonneg (Int.le_of_lt h3)]
theorem zL_nat {x : Int} (h : 0 ≤ x) : zL x = lN x.toNat := by
  show Int64.ofInt x = Int64.ofNat x.toNat
  rw [← Int64.ofInt_eq_ofNat]; congr 1; omega
theorem zI_nat {x : Int} (h : 0 ≤ x) : zI x = nI x.toNat := by
  show Int32.ofInt x = Int32.ofNat x.toNat
  rw [← Int32.ofInt_eq_ofNat]; congr 1; omega
theorem jldiv_nn {x y : Int} (h1 : 0 ≤ x) (h2 : x < 9223372036854775808) (h3 : 0 < y) (h4 : y < 9223372036854775808) : jldiv x y = x / y := by
  unfold jldiv
  rw [zL_nat h1, zL_nat (Int.le_of_lt h3), pk_lDiv (by omega) (by omega) (by omega)]
  have hle : x.toNat / y.toNat ≤ x.toNat := Nat.div_le_self _ _
  rw [pk_lT (by omega), Int.natCast_ediv, Int.toNat_of_nonneg h1, Int.toNat_of_nonneg (Int.le_of_lt h3)]
theorem jlrem_nn {x y : Int} (h1 : 0 ≤ x) (h2 : x < 9223372036854775808) (h3 : 0 < y) (h4 : y < 9223372036854775808) : jlrem x y = x % y := by
  unfold jlrem
  rw [zL_nat h1, zL_nat (Int.le_of_lt h3), pk_lRem (by omega) (by omega) (by omega)]
  have hle : x.toNat % y.toNat ≤ x.toNat := Nat.mod_le _ _
  rw [pk_lT (by omega), Int.natCast_emod, Int.toNat_of_nonneg h1, Int.toNat_of_nonneg (Int.le_of_lt h3)]
-- the bit t of x, as both sides ask for it
def bitz (x t : Int) : Int := jand (jshr x t) 1
theorem jand1 (x : Int) : jand x 1 = 0 ∨ jand x 1 = 1 := by
  have e1 : zI 1 = nI 1 := by decide +kernel
  obtain ⟨j, hj, e⟩ := pk_andE (zI x) (m := zI 1) 1 (by decide +kernel)
  unfold jand
  rw [e, nI_toInt (by omega)]
  omega
theorem bitz_01 (x t : Int) : bitz x t = 0 ∨ bitz x t = 1 := jand1 _
theorem zI_bit0 {x : Int} (h : x = 0 ∨ x = 1) : (zI x = 0) ↔ x = 0 := zI_eq0 (by omega) (by omega)
theorem zI_bit1 {x : Int} (h : x = 0 ∨ x = 1) : (zI x = zI 1) ↔ x = 1 := zI_eq (by omega) (by omega) (by omega) (by omega)
-- both answers alike
def Eq2 {α : Type} (x y : Option α) : Prop := ∃ r, x = some r ∧ y = some r
theorem Eq2.mk2 {α : Type} {a b : α} (h : a = b) : Eq2 (some a) (some b) := ⟨a, rfl, by rw [h]⟩
theorem Eq2.rf {α : Type} {a : α} : Eq2 (some a) (some a) := ⟨a, rfl, rfl⟩
theorem zF_pos {k : Nat} (h : k < 1000000) : k < zF := h
theorem zup {β γ : Type} (F : Nat → Int → β → Option γ) (e : Int) (P : Int → β → Prop) (Rr : Option γ → Prop) (hend : ∀ n b, P e b → Rr (F (n + 1) e b)) (hstep : ∀ n i b, i < e → P i b → ∃ b', P (i + 1) b' ∧ F (n + 1) i b = F n (i + 1) b') : ∀ (k n : Nat) (i : Int) (b : β), (e - i).toNat = k → i ≤ e → k < n → P i b → Rr (F n i b) := by
  intro k
  induction k with
  | zero =>
    intro n i b hk hi hn hp
    have : i = e := by omega
    subst this
    obtain ⟨m, rfl⟩ : ∃ m, n = m + 1 := ⟨n - 1, by omega⟩
    exact hend m b hp
  | succ k ih =>
    intro n i b hk hi hn hp
    obtain ⟨m, rfl⟩ : ∃ m, n = m + 1 := ⟨n - 1, by omega⟩
    obtain ⟨b', hp', he⟩ := hstep m i b (by omega) hp
    rw [he]
    exact ih m (i + 1) b' (by omega) (by omega) (by omega) hp'
-- a sum
def zsum (f : Int → Int) : Nat → Int
  | 0 => 0
  | n + 1 => zsum f n + f n

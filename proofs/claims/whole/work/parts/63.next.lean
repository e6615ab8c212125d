def raf (D : Mm) (q st f : Int) : Int := if D (q + 8) f = st ∧ ¬ D (q + 9) f = 0 ∧ bitz (D 12 2) f = 1 then D (q + 10) f else 0
theorem e_ra {D : Mm} {st : Int} (hq : D 1 7 = 32 ∨ D 1 7 = 69) (h : QL D (D 1 7)) (hst : 0 ≤ st ∧ st ≤ 7) : f_Main_readAreaOf st D = some (zsum (raf D (D 1 7) st) (D (D 1 7) 1).toNat) := by
  obtain ⟨a1, a2, a3, a4, -⟩ := h
  unfold f_Main_readAreaOf
  refine zup (fun n i b => f_Main_readAreaOf_4 st D n b i) (D (D 1 7) 1) (fun i b => 0 ≤ i ∧ b = zsum (raf D (D 1 7) st) i.toNat) (fun x => x = some (zsum (raf D (D 1 7) st) (D (D 1 7) 1).toNat)) ?_ ?_ (D (D 1 7) 1 - 0).toNat zF 0 0 rfl (by omega) (zF_pos (by omega)) ⟨by decide, rfl⟩
  · intro n b ⟨_, hb⟩
    show f_Main_readAreaOf_4 st D (n + 1) b _ = _
    rw [f_Main_readAreaOf_4, if_pos hq, if_pos (Int32.le_refl _), hb]
  · intro n i b hi ⟨h2, hb⟩
    obtain ⟨x1, x2, x3, x4⟩ := a4 i h2 hi
    have gi : 0 ≤ i ∧ i < 10 := by omega
    refine ⟨b + raf D (D 1 7) st i, ⟨by omega, by rw [hb, zsum_s _ h2]⟩, ?_⟩
    show f_Main_readAreaOf_4 st D (n + 1) b i = _
    rw [f_Main_readAreaOf_4, if_pos hq, if_neg (fun q => by have := (zI_le (by omega) (by omega) (by omega) (by omega)).mp q; omega)]
    simp only [if_pos hq, if_pos gi]
    unfold f_Main_readAreaOf_63 raf
    by_cases c1 : D (D 1 7 + 8) i = st
    · rw [if_pos ((zI_eq (by omega) (by omega) (by omega) (by omega)).mpr c1)]
      by_cases c2 : D (D 1 7 + 9) i = 0
      · rw [if_pos ((zI_eq0 (by omega) (by omega)).mpr c2), if_neg (fun x => x.2.1 c2), Int.add_zero]
      · rw [if_neg (fun x => c2 ((zI_eq0 (by omega) (by omega)).mp x)), e_isRead]
        simp only [Option.bind_some]
        rcases bitz_01 (D 12 2) i with e | e
        · rw [e, if_pos (by decide +kernel), if_neg (fun x => by have := x.2.2; omega), Int.add_zero]
        · rw [e, if_neg (by decide +kernel), if_pos ⟨c1, c2, rfl⟩]
    · rw [if_neg (fun x => c1 ((zI_eq (by omega) (by omega) (by omega) (by omega)).mp x)), if_neg (fun x => c1 x.1), Int.add_zero]
theorem e_raM {D : Mm} {q st : Int} (h : QL D q) (hf : FL D (D q 1)) (hst : 0 ≤ st ∧ st ≤ 7) : f_Model_readArea st D = some (zsum (raf D q st) (D q 1).toNat) := by
  obtain ⟨a1, a2, a3, a4, -⟩ := h
  unfold f_Model_readArea
  refine zup (fun n i b => f_Model_readArea_4 st D n b i) (D q 1) (fun i b => 0 ≤ i ∧ b = zsum (raf D q st) i.toNat) (fun x => x = some (zsum (raf D q st) (D q 1).toNat)) ?_ ?_ (D q 1 - 0).toNat zF 0 0 rfl (by omega) (zF_pos (by omega)) ⟨by decide, rfl⟩
  · intro n b ⟨_, hb⟩
    show f_Model_readArea_4 st D (n + 1) b _ = _
    rw [f_Model_readArea_4, a2.2.2, if_pos (Int32.le_refl _), hb]
  · intro n i b hi ⟨h2, hb⟩
    obtain ⟨x1, x2, x3, x4⟩ := a4 i h2 hi
    have gi : 0 ≤ i ∧ i < 20 := by omega
    have gi3 : 0 ≤ i ∧ i < 30 := by omega
    have rd := (hf.2.2.1 i h2 (by omega)).1
    refine ⟨b + raf D q st i, ⟨by omega, by rw [hb, zsum_s _ h2]⟩, ?_⟩
    show f_Model_readArea_4 st D (n + 1) b i = _
    rw [f_Model_readArea_4, a2.2.2, if_neg (fun q => by have := (zI_le (by omega) (by omega) (by omega) (by omega)).mp q; omega)]
    simp only [if_pos gi, if_pos gi3]
    rw [x1.1, x2.1, x3.1, rd]
    unfold f_Model_readArea_53 f_Model_readArea_54 raf
    by_cases c2 : D (q + 9) i = 0
    · rw [if_pos ((zI_eq0 (by omega) (by omega)).mpr c2), if_neg (fun x => x.2.1 c2)]
    · rw [if_neg (fun x => c2 ((zI_eq0 (by omega) (by omega)).mp x))]
      by_cases c1 : D (q + 8) i = st
      · rw [if_pos ((zI_eq (by omega) (by omega) (by omega) (by omega)).mpr c1)]
        rcases bitz_01 (D 12 2) i with e | e
        · rw [e, if_neg (by decide +kernel), if_neg (fun x => by have := x.2.2; omega)]
        · rw [e, if_pos rfl, if_pos ⟨c1, c2, rfl⟩]
      · rw [if_neg (fun x => c1 ((zI_eq (by omega) (by omega) (by omega) (by omega)).mp x)), if_neg (fun x => c1 x.1)]
theorem ra_b {D : Mm} {q st : Int} (h : QL D q) : 0 ≤ zsum (raf D q st) (D q 1).toNat ∧ zsum (raf D q st) (D q 1).toNat ≤ 90 := by
  obtain ⟨a1, a2, a3, a4, -⟩ := h
  have := zsum_b (f := raf D q st) (M := 9) (by decide) (D q 1).toNat (fun k k0 k1 => by
    obtain ⟨x1, x2, x3, x4⟩ := a4 k k0 (by omega)
    unfold raf
    split <;> omega)
  refine ⟨this.1, ?_⟩
  have h2 := this.2
  omega
theorem q_next {D : Mm} (h : Iv D) : Eq2 (f_Main_next D) (f_Model_next D) := by
  have hq := h.q
  obtain ⟨-, -, hql, hfl, -⟩ := h
  have hql' := hql
  obtain ⟨a1, a2, a3, a4, -⟩ := hql
  have L : ∀ (k n : Nat) (v1 v2 i : Int), (D (D 1 7) 1 - i).toNat = k → 0 ≤ i → i ≤ D (D 1 7) 1 → ((v1 = -4 ∧ v2 = -1) ∨ (0 ≤ v1 ∧ v1 < D (D 1 7) 1 ∧ v2 = zsum (raf D (D 1 7) (D (D 1 7 + 8) v1)) (D (D 1 7) 1).toNat)) → k < n → Eq2 (f_Main_next_7 D n v1 v2 i) (f_Model_next_5 D n v1 i) := by
    intro k
    induction k with
    | zero =>
      intro n v1 v2 i hk i0 i1 hv hn
      obtain ⟨m, rfl⟩ : ∃ m, n = m + 1 := ⟨n - 1, by omega⟩
      have : i = D (D 1 7) 1 := by omega
      subst this
      rw [f_Main_next_7, f_Model_next_5, if_pos hq, a2.2.2, if_pos (Int32.le_refl _), if_pos (Int32.le_refl _)]
      exact Eq2.rf
    | succ k ih =>
      intro n v1 v2 i hk i0 i1 hv hn
      obtain ⟨m, rfl⟩ : ∃ m, n = m + 1 := ⟨n - 1, by omega⟩
      have hc : ¬ zI (D (D 1 7) 1) ≤ zI i := fun q => by have := (zI_le (by omega) (by omega) (by omega) (by omega)).mp q; omega
      obtain ⟨x1, x2, x3, x4⟩ := a4 i i0 (by omega)
      have gi : 0 ≤ i ∧ i < 10 := by omega
      have gi2 : 0 ≤ i ∧ i < 20 := by omega
      have gi3 : 0 ≤ i ∧ i < 30 := by omega
      have rd := (hfl.2.2.1 i i0 (by omega)).1
      have keepv := ih m v1 v2 (i + 1) (by omega) (by omega) (by omega) hv (by omega)
      obtain ⟨rb0, rb1⟩ := ra_b (st := D (D 1 7 + 8) i) hql'
      have takev := ih m i (zsum (raf D (D 1 7) (D (D 1 7 + 8) i)) (D (D 1 7) 1).toNat) (i + 1) (by omega) (by omega) (by omega) (Or.inr ⟨i0, by omega, rfl⟩) (by omega)
      rw [f_Main_next_7, f_Model_next_5, if_pos hq, a2.2.2, if_neg hc, if_neg hc]
      simp only [if_pos hq, if_pos gi, if_pos gi2, if_pos gi3]
      rw [x2.1, rd, e_isRead]
      simp only [Option.bind_some]
      unfold f_Model_next_37 f_Model_next_38 f_Model_next_74 f_Model_next_70 f_Model_next_75 f_Main_next_70
      by_cases c1 : D (D 1 7 + 9) i = 0
      · have c1' := (zI_eq0 (a := D (D 1 7 + 9) i) (by omega) (by omega)).mpr c1
        rw [if_pos c1', if_pos c1']
        rcases bitz_01 (D 12 2) i with e | e
        · rw [e, if_pos (show zI 0 = 0 by decide +kernel), if_pos (show zI 0 = 0 by decide +kernel), if_neg (show ¬ zI 1 = 0 by decide +kernel), e_ra hq hql' ⟨x1.2.1, x1.2.2⟩]
          simp only [Option.bind_some]
          rcases hv with ⟨rfl, rfl⟩ | ⟨u0, u1, u2⟩
          · rw [if_pos (show zI (-4) < 0 by decide +kernel), if_neg (fun q => by have := (zI_le (by omega) (by omega) (by omega) (by omega)).mp q; omega)]
            exact takev
          · obtain ⟨w1, -⟩ := a4 v1 u0 u1
            obtain ⟨wb0, wb1⟩ := ra_b (st := D (D 1 7 + 8) v1) hql'
            have nv : ¬ zI v1 < 0 := fun q => by have := (zI_lt0 (by omega) (by omega)).mp q; omega
            rw [if_neg nv, x1.1, e_raM hql' hfl ⟨x1.2.1, x1.2.2⟩, w1.1, e_raM hql' hfl ⟨w1.2.1, w1.2.2⟩]
            simp only [Option.bind_some, if_pos gi2]
            have gv : 0 ≤ v1 ∧ v1 < 20 := by omega
            rw [if_pos gv, u2]
            rw [u2] at keepv
            by_cases z : zI (zsum (raf D (D 1 7) (D (D 1 7 + 8) i)) (D (D 1 7) 1).toNat) ≤ zI (zsum (raf D (D 1 7) (D (D 1 7 + 8) v1)) (D (D 1 7) 1).toNat)
            · rw [if_pos z, if_pos z]; exact keepv
            · rw [if_neg z, if_neg z]; exact takev
        · rw [e, if_neg (show ¬ zI 1 = 0 by decide +kernel), if_neg (show ¬ zI 1 = 0 by decide +kernel), if_pos (show zI 0 = 0 by decide +kernel)]
          exact keepv
      · have c1' : ¬ zI (D (D 1 7 + 9) i) = 0 := fun q => c1 ((zI_eq0 (by omega) (by omega)).mp q)
        rw [if_neg c1', if_neg c1', if_pos (show zI 0 = 0 by decide +kernel)]
        exact keepv
  exact L (D (D 1 7) 1 - 0).toNat zF (-4) (-1) 0 rfl (by decide) (by omega) (Or.inl ⟨rfl, rfl⟩) (zF_pos (by omega))
-- LEAVE
def hsv (D : Mm) (q set t : Int) : Int := if bitz set t = 0 then 0 else D (q + 29) t
def gwt (D : Mm) (q set t : Int) : Int := if bitz set t = 0 then zsum (fun s => D (q + 24 + t) s) (D q 0).toNat else 0
def mayf (set mb : Int) : Nat → Int
  | 0 => 1
  | i + 1 => if mayf set mb i = 0 then 0 else if bitz set i = 0 then 1 else if bitz mb i = 1 then 0 else 1
theorem may_all : (List.range 16).all (fun a => (List.range 16).all (fun b => decide ((mayf a b 4 = 0 ↔ ¬ zI (jand a b) = 0) ∧ (mayf a b 4 = 0 ∨ mayf a b 4 = 1)))) = true := by decide +kernel
theorem may_eq {a b : Int} (a0 : 0 ≤ a) (a1 : a < 16) (b0 : 0 ≤ b) (b1 : b ≤ 15) : (mayf a b 4 = 0 ↔ ¬ zI (jand a b) = 0) ∧ (mayf a b 4 = 0 ∨ mayf a b 4 = 1) := by
  have h := of_decide_eq_true (List.all_eq_true.mp (List.all_eq_true.mp may_all a.toNat (List.mem_range.mpr (by omega))) b.toNat (List.mem_range.mpr (by omega)))
  have e1 : ((a.toNat : Nat) : Int) = a := by omega
  have e2 : ((b.toNat : Nat) : Int) = b := by omega
  rw [e1, e2] at h
  exact h
theorem mayf_s {a b i : Int} (h : 0 ≤ i) : mayf a b (i + 1).toNat = if mayf a b i.toNat = 0 then 0 else if bitz a i = 0 then 1 else if bitz b i = 1 then 0 else 1 := by
  have e : (i + 1).toNat = i.toNat + 1 := by omega
  have e2 : ((i.toNat : Nat) : Int) = i := by omega
  rw [e]
  show (if mayf a b i.toNat = 0 then 0 else if bitz a ((i.toNat : Nat) : Int) = 0 then 1 else if bitz b ((i.toNat : Nat) : Int) = 1 then (0 : Int) else 1) = _
  rw [e2]
theorem mayf_01 (a b : Int) (n : Nat) : mayf a b n = 0 ∨ mayf a b n = 1 := by
  cases n with
  | zero => exact Or.inr rfl
  | succ n =>
    show (if mayf a b n = 0 then (0 : Int) else if bitz a n = 0 then 1 else if bitz b n = 1 then 0 else 1) = 0 ∨ (if mayf a b n = 0 then (0 : Int) else if bitz a n = 0 then 1 else if bitz b n = 1 then 0 else 1) = 1
    split
    · exact Or.inl rfl
    · split
      · exact Or.inr rfl
      · split
        · exact Or.inl rfl
        · exact Or.inr rfl
theorem e_hours {D : Mm} {q set : Int} : f_Quern_hoursSaved q set D = some (zsum (hsv D q set) 4) := by
  unfold f_Quern_hoursSaved
  refine zup (fun n i b => f_Quern_hoursSaved_4 q set D n b i) 4 (fun i b => 0 ≤ i ∧ b = zsum (hsv D q set) i.toNat) (fun x => x = some (zsum (hsv D q set) 4)) ?_ ?_ 4 zF 0 0 rfl (by decide) (zF_pos (by decide)) ⟨by decide, rfl⟩
  · intro n b ⟨_, hb⟩
    show f_Quern_hoursSaved_4 q set D (n + 1) b 4 = _
    rw [f_Quern_hoursSaved_4, if_pos (by decide +kernel), hb]
    rfl
  · intro n i b hi ⟨h2, hb⟩
    refine ⟨b + hsv D q set i, ⟨by omega, by rw [hb, zsum_s _ h2]⟩, ?_⟩
    show f_Quern_hoursSaved_4 q set D (n + 1) b i = _
    rw [f_Quern_hoursSaved_4, if_neg (fun q => by have := (zI_le (by omega) (by omega) (by omega) (by omega)).mp q; omega)]
    rw [show jand (jshr set i) 1 = bitz set i from rfl]
    unfold f_Quern_hoursSaved_26 hsv
    rcases bitz_01 set i with e | e
    · rw [e, if_pos (by decide +kernel), if_pos rfl, Int.add_zero]
    · rw [e, if_neg (show ¬ zI 1 = 0 by decide +kernel), if_pos (show 0 ≤ i ∧ i < 4 from ⟨h2, hi⟩), if_neg (show ¬ (1 : Int) = 0 by decide)]
theorem e_gwIn {D : Mm} {q set t : Int} (h : QL D q) (t0 : 0 ≤ t) (t1 : t < 4) (K : Int → Int → Option Int) (v : Int) : f_Quern_grainsWithout_23 q set t K D zF v 0 = K (v + zsum (fun s => D (q + 24 + t) s) (D q 0).toNat) (t + 1) := by
  have hs := h.1
  refine zup (fun n i b => f_Quern_grainsWithout_23 q set t K D n b i) (D q 0) (fun i b => 0 ≤ i ∧ b = v + zsum (fun s => D (q + 24 + t) s) i.toNat) (fun x => x = K (v + zsum (fun s => D (q + 24 + t) s) (D q 0).toNat) (t + 1)) ?_ ?_ (D q 0 - 0).toNat zF 0 v rfl (by omega) (zF_pos (by omega)) ⟨by decide, by simp [zsum]⟩
  · intro n b ⟨_, hb⟩
    show f_Quern_grainsWithout_23 q set t K D (n + 1) b _ = _
    rw [f_Quern_grainsWithout_23, if_pos (Int32.le_refl _), hb]
    rfl
  · intro n i b hi ⟨h2, hb⟩
    refine ⟨b + D (q + 24 + t) i, ⟨by omega, by rw [hb, zsum_s _ h2]; omega⟩, ?_⟩
    show f_Quern_grainsWithout_23 q set t K D (n + 1) b i = _
    have gt : 0 ≤ t ∧ t < 4 := ⟨t0, t1⟩
    have gi : 0 ≤ i ∧ i < 6 := by omega
    rw [f_Quern_grainsWithout_23, if_neg (fun q => by have := (zI_le (by omega) (by omega) (by omega) (by omega)).mp q; omega), if_pos gt, if_pos gi]
theorem e_gw {D : Mm} {q set : Int} (h : QL D q) : f_Quern_grainsWithout q set D = some (zsum (gwt D q set) 4) := by
  unfold f_Quern_grainsWithout
  refine zup (fun n i b => f_Quern_grainsWithout_4 q set D n b i) 4 (fun i b => 0 ≤ i ∧ b = zsum (gwt D q set) i.toNat) (fun x => x = some (zsum (gwt D q set) 4)) ?_ ?_ 4 zF 0 0 rfl (by decide) (zF_pos (by decide)) ⟨by decide, rfl⟩
  · intro n b ⟨_, hb⟩
    show f_Quern_grainsWithout_4 q set D (n + 1) b 4 = _
    rw [f_Quern_grainsWithout_4, if_pos (by decide +kernel), hb]
    rfl
  · intro n i b hi ⟨h2, hb⟩
    refine ⟨b + gwt D q set i, ⟨by omega, by rw [hb, zsum_s _ h2]⟩, ?_⟩
    show f_Quern_grainsWithout_4 q set D (n + 1) b i = _
    rw [f_Quern_grainsWithout_4, if_neg (fun q => by have := (zI_le (by omega) (by omega) (by omega) (by omega)).mp q; omega)]
    rw [show jand (jshr set i) 1 = bitz set i from rfl]
    unfold gwt
    rcases bitz_01 set i with e | e
    · rw [e, if_pos (by decide +kernel), if_pos rfl, e_gwIn h h2 hi]
    · rw [e, if_neg (by decide +kernel), if_neg (by decide), Int.add_zero]
      rfl
theorem gw_b {D : Mm} {q set : Int} (h : QL D q) : 0 ≤ zsum (gwt D q set) 4 ∧ zsum (gwt D q set) 4 ≤ 216 := by
  have hs := h.1
  have := zsum_b (f := gwt D q set) (M := 54) (by decide) 4 (fun k k0 k1 => by
    unfold gwt
    split
    · have := zsum_b (f := fun s => D (q + 24 + k) s) (M := 9) (by decide) (D q 0).toNat (fun s x0 x1 => (h.2.2.2.2.2.1 k s k0 (by omega) x0 (by omega)).2)
      exact ⟨this.1, by have := this.2; omega⟩
    · omega)
  exact ⟨this.1, by have := this.2; omega⟩
theorem hs_b {D : Mm} {q set : Int} (h : QL D q) : 0 ≤ zsum (hsv D q set) 4 ∧ zsum (hsv D q set) 4 ≤ 396 := by
  have := zsum_b (f := hsv D q set) (M := 99) (by decide) 4 (fun k k0 k1 => by
    obtain ⟨-, x, -⟩ := h.2.2.2.2.2.2.1 k k0 (by omega)
    unfold hsv
    split <;> omega)
  exact ⟨this.1, by have := this.2; omega⟩
theorem e_lvIn {D : Mm} {q v1 v2 v3 v4 set v6 v8 t : Int} (h : QL D q) (t0 : 0 ≤ t) (t1 : t < 4) (K : Int → Int → Int → Int → Option Int) (v : Int) : f_Model_leave_120 v1 v2 v3 v4 set v6 v8 t K D zF v 0 = K v6 (v + gwt D q set t) v8 (t + 1) := by
  have hs := h.1
  refine zup (fun n i b => f_Model_leave_120 v1 v2 v3 v4 set v6 v8 t K D n b i) (D q 0) (fun i b => 0 ≤ i ∧ b = v + if bitz set t = 0 then zsum (fun s => D (q + 24 + t) s) i.toNat else 0) (fun x => x = K v6 (v + gwt D q set t) v8 (t + 1)) ?_ ?_ (D q 0 - 0).toNat zF 0 v rfl (by omega) (zF_pos (by omega)) ⟨by decide, by simp [zsum]⟩
  · intro n b ⟨_, hb⟩
    show f_Model_leave_120 v1 v2 v3 v4 set v6 v8 t K D (n + 1) b _ = _
    rw [f_Model_leave_120, hs.2.2, if_pos (Int32.le_refl _), hb]
    rfl
  · intro n i b hi ⟨h2, hb⟩
    obtain ⟨y0, -⟩ := h.2.2.2.2.2.1 t i t0 t1 h2 (by omega)
    have gi : 0 ≤ 6 * t + i ∧ 6 * t + i < 48 := by omega
    refine ⟨b + if bitz set t = 0 then D (q + 24 + t) i else 0, ⟨by omega, ?_⟩, ?_⟩
    · rw [hb]
      by_cases c : bitz set t = 0
      · simp only [if_pos c]
        rw [zsum_s _ h2]
        omega
      · simp only [if_neg c]
        omega
    · show f_Model_leave_120 v1 v2 v3 v4 set v6 v8 t K D (n + 1) b i = _
      rw [f_Model_leave_120, hs.2.2, if_neg (fun q => by have := (zI_le (by omega) (by omega) (by omega) (by omega)).mp q; omega), e_has]
      simp only [Option.bind_some]
      unfold f_Model_leave_160
      rcases bitz_01 set t with e | e
      · rw [e, if_pos (by decide +kernel), if_pos rfl, if_pos gi, y0]
      · rw [e, if_neg (by decide +kernel), if_neg (by decide)]
theorem e_lvMid {D : Mm} {q h what best few set : Int} (hq : QL D q) (K : Int → Int → Int → Option Int) : f_Model_leave_52 h what best few set K D zF 0 0 1 0 = (if zI (mayf set (D q 11) 4) = 0 then K best few (set + 1) else if zI (zsum (hsv D q set) 4) < zI h then K best few (set + 1) else if zI best < 0 then K set (zsum (gwt D q set) 4) (set + 1) else if zI few ≤ zI (zsum (gwt D q set) 4) then K best few (set + 1) else K set (zsum (gwt D q set) 4) (set + 1)) := by
  refine zup (fun n i (b : Int × Int × Int) => f_Model_leave_52 h what best few set K D n b.1 b.2.1 b.2.2 i) 4 (fun i b => 0 ≤ i ∧ b.1 = zsum (hsv D q set) i.toNat ∧ b.2.1 = zsum (gwt D q set) i.toNat ∧ b.2.2 = mayf set (D q 11) i.toNat) (fun x => x = (if zI (mayf set (D q 11) 4) = 0 then K best few (set + 1) else if zI (zsum (hsv D q set) 4) < zI h then K best few (set + 1) else if zI best < 0 then K set (zsum (gwt D q set) 4) (set + 1) else if zI few ≤ zI (zsum (gwt D q set) 4) then K best few (set + 1) else K set (zsum (gwt D q set) 4) (set + 1))) ?_ ?_ 4 zF 0 (0, 0, 1) rfl (by decide) (zF_pos (by decide)) ⟨by decide, rfl, rfl, rfl⟩
  · intro n b ⟨_, b1, b2, b3⟩
    show f_Model_leave_52 h what best few set K D (n + 1) b.1 b.2.1 b.2.2 4 = _
    rw [f_Model_leave_52, if_pos (by decide +kernel), b1, b2, b3]
    rfl
  · intro n i b hi ⟨i0, b1, b2, b3⟩
    obtain ⟨-, x1, x2⟩ := hq.2.2.2.2.2.2.1 i i0 hi
    have g8 : 0 ≤ i ∧ i < 8 := by omega
    refine ⟨(zsum (hsv D q set) (i + 1).toNat, zsum (gwt D q set) (i + 1).toNat, mayf set (D q 11) (i + 1).toNat), ⟨by omega, rfl, rfl, rfl⟩, ?_⟩
    show f_Model_leave_52 h what best few set K D (n + 1) b.1 b.2.1 b.2.2 i = f_Model_leave_52 h what best few set K D n _ _ _ (i + 1)
    rw [f_Model_leave_52, if_neg (fun q => by have := (zI_le (by omega) (by omega) (by omega) (by omega)).mp q; omega), e_has, zsum_s _ i0, zsum_s _ i0, mayf_s i0, ← b1, ← b2, ← b3]
    simp only [Option.bind_some]
    have h01 := mayf_01 set (D q 11) i.toNat
    rw [← b3] at h01
    unfold f_Model_leave_81 f_Model_leave_114 f_Model_leave_110 f_Model_leave_115
    rw [e_has]
    simp only [Option.bind_some, e_lvIn hq i0 hi]
    rcases bitz_01 set i with e | e
    · have e1 : hsv D q set i = 0 := by unfold hsv; rw [if_pos e]
      rw [e, if_pos (show zI 0 = 0 by decide +kernel), e1]
      rcases h01 with z | z
      · rw [z, if_pos (show zI 0 = 0 by decide +kernel), if_pos rfl]
      · rw [z, if_neg (show ¬ zI 1 = 0 by decide +kernel), if_neg (show ¬ (1 : Int) = 0 by decide), if_pos rfl, if_pos (show zI 0 = 0 by decide +kernel)]
    · have e1 : hsv D q set i = D (q + 29) i := by unfold hsv; rw [if_neg (by omega)]
      rw [e, if_neg (show ¬ zI 1 = 0 by decide +kernel), e1, if_pos g8, x1.1]
      rcases h01 with z | z
      · rw [z, if_pos (show zI 0 = 0 by decide +kernel), if_pos rfl]
      · rw [z, if_neg (show ¬ zI 1 = 0 by decide +kernel), if_neg (show ¬ (1 : Int) = 0 by decide), if_neg (show ¬ (1 : Int) = 0 by decide), if_neg (show ¬ zI 1 = 0 by decide +kernel), if_pos g8, x2]
        rcases bitz_01 (D q 11) i with f | f
        · rw [f, if_neg (show ¬ zI 0 = zI 1 by decide +kernel), if_neg (show ¬ (0 : Int) = 1 by decide)]
        · rw [f, if_pos rfl, if_pos rfl]
theorem q_leave {D : Mm} (hI : Iv D) {h w : Int} (hh : Rg h) (hw : Rg w) : Eq2 (f_Main_leave h w D) (f_Model_leave h w D) := by
  have hq := hI.q
  obtain ⟨-, -, hql, -⟩ := hI
  have mb := hql.2.2.2.2.2.2.2.1
  have L : ∀ (k n : Nat) (b f i : Int), (16 - i).toNat = k → 0 ≤ i → i ≤ 16 → ((b = -4 ∧ f = 0) ∨ (0 ≤ b ∧ b < 16 ∧ f = zsum (gwt D (D 1 7) b) 4)) → k < n → ∃ r, f_Quern_bestLeftOut_8 (D 1 7) h D n b f i = some r ∧ f_Model_leave_33 h w D n b f i = some (if r = -4 then -4 else if zI w = 0 then r else zsum (gwt D (D 1 7) r) 4) ∧ (r = -4 ∨ (0 ≤ r ∧ r < 16)) := by
    intro k
    induction k with
    | zero =>
      intro n b f i hk i0 i1 hb hn
      obtain ⟨m, rfl⟩ : ∃ m, n = m + 1 := ⟨n - 1, by omega⟩
      have : i = 16 := by omega
      subst this
      rw [f_Quern_bestLeftOut_8, f_Model_leave_33, if_pos (by decide +kernel), if_pos (by decide +kernel)]
      refine ⟨b, rfl, ?_, by omega⟩
      rcases hb with ⟨rfl, rfl⟩ | ⟨u0, u1, u2⟩
      · rw [if_neg (by decide +kernel), if_pos rfl]
      · have nb : ¬ b = -4 := by omega
        rw [if_pos ((zI_0le (by omega) (by omega)).mpr u0), if_neg nb, u2]
        by_cases x : zI w = 0
        · rw [if_pos x, if_pos x]
        · rw [if_neg x, if_neg x]
    | succ k ih =>
      intro n b f i hk i0 i1 hb hn
      obtain ⟨m, rfl⟩ : ∃ m, n = m + 1 := ⟨n - 1, by omega⟩
      have hc : ¬ zI 16 ≤ zI i := fun q => by have := (zI_le (by omega) (by omega) (by omega) (by omega)).mp q; omega
      have keepv := ih m b f (i + 1) (by omega) (by omega) (by omega) hb (by omega)
      have takev := ih m i (zsum (gwt D (D 1 7) i) 4) (i + 1) (by omega) (by omega) (by omega) (Or.inr ⟨i0, by omega, rfl⟩) (by omega)
      obtain ⟨my, m01⟩ := may_eq i0 (show i < 16 by omega) mb.1 mb.2
      obtain ⟨h0, h1⟩ := hs_b (set := i) hql
      unfold Rg at hh
      rw [f_Quern_bestLeftOut_8, f_Model_leave_33, if_neg hc, if_neg hc, e_lvMid hql, e_hours]
      simp only [Option.bind_some]
      unfold f_Quern_bestLeftOut_64 f_Quern_bestLeftOut_58 f_Quern_bestLeftOut_64
      rw [e_gw hql]
      simp only [Option.bind_some]
      rcases m01 with z | z
      · rw [if_neg (my.mp z), z, if_pos (show zI 0 = 0 by decide +kernel)]
        exact keepv
      · have nz : zI (jand i (D (D 1 7) 11)) = 0 := by
          by_cases y : zI (jand i (D (D 1 7) 11)) = 0
          · exact y
          · have := my.mpr y; omega
        rw [if_pos nz, z, if_neg (show ¬ zI 1 = 0 by decide +kernel)]
        by_cases y : h ≤ zsum (hsv D (D 1 7) i) 4
        · have y1 : zI h ≤ zI (zsum (hsv D (D 1 7) i) 4) := (zI_le (by omega) (by omega) (by omega) (by omega)).mpr y
          have y2 : ¬ zI (zsum (hsv D (D 1 7) i) 4) < zI h := fun q => by have := (zI_lt (by omega) (by omega) (by omega) (by omega)).mp q; omega
          rw [if_pos y1, if_neg y2]
          rcases hb with ⟨rfl, rfl⟩ | ⟨u0, u1, u2⟩
          · rw [if_pos rfl, if_pos (show zI (-4) < 0 by decide +kernel)]
            exact takev
          · have n1 : ¬ zI b = zI (-4) := fun q => by have := (zI_eq (by omega) (by omega) (by omega) (by omega)).mp q; omega
            have n2 : ¬ zI b < 0 := fun q => by have := (zI_lt0 (by omega) (by omega)).mp q; omega
            rw [if_neg n1, if_neg n2]
            by_cases x : zI f ≤ zI (zsum (gwt D (D 1 7) i) 4)
            · rw [if_pos x, if_pos x]; exact keepv
            · rw [if_neg x, if_neg x]; exact takev
        · have y1 : ¬ zI h ≤ zI (zsum (hsv D (D 1 7) i) 4) := fun q => y ((zI_le (by omega) (by omega) (by omega) (by omega)).mp q)
          have y2 : zI (zsum (hsv D (D 1 7) i) 4) < zI h := (zI_lt (by omega) (by omega) (by omega) (by omega)).mpr (by omega)
          rw [if_neg y1, if_pos y2]
          exact keepv
  unfold f_Main_leave f_Model_leave
  rw [e_within hh ⟨by decide, by decide⟩ ⟨by decide, by decide⟩, bnd_if, e_within hw ⟨by decide, by decide⟩ ⟨by decide, by decide⟩, bnd_if, wI_id hh.1 hh.2, e_in hh ⟨by decide, by decide⟩ ⟨by decide, by decide⟩, bnd_if, wI_id hw.1 hw.2, e_in hw ⟨by decide, by decide⟩ ⟨by decide, by decide⟩, bnd_if]
  split
  · split
    · obtain ⟨r, r1, r2, r3⟩ := L 16 zF (-4) 0 0 rfl (by decide) (by decide) (Or.inl ⟨rfl, rfl⟩) (zF_pos (by decide))
      unfold f_Quern_bestLeftOut
      rw [r1, r2]
      simp only [Option.bind_some]
      by_cases c : r = -4
      · subst c
        rw [if_pos rfl, if_pos rfl]; exact Eq2.rf
      · have n1 : ¬ zI r = zI (-4) := fun q => c ((zI_eq (by omega) (by omega) (by omega) (by omega)).mp q)
        rw [if_neg n1, if_neg c, e_gw hql]
        by_cases x : zI w = 0
        · rw [if_pos x, if_pos x]; exact Eq2.rf
        · rw [if_neg x, if_neg x]; exact Eq2.rf
    · exact Eq2.rf
  · exact Eq2.rf

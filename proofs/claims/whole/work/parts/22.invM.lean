/-! the reference's invariants -/
def b01 (x : Int32) : Prop := x = 0 ∨ x = 1
def IM (μ : St) : Prop := (0 ≤ (gF μ 0 1).toInt ∧ (gF μ 0 1).toInt ≤ 50) ∧ (0 ≤ (gF μ 0 3).toInt ∧ (gF μ 0 3).toInt ≤ 12) ∧ (0 ≤ (gF μ 0 10).toInt ∧ (gF μ 0 10).toInt ≤ 10) ∧ (0 ≤ (gF μ 0 23).toInt ∧ (gF μ 0 23).toInt ≤ 10) ∧
  (∀ j, j < 12 → 0 ≤ (gA μ 2 j).toInt ∧ (gA μ 2 j).toInt ≤ 10) ∧ (∀ o, o < 10 → (0 ≤ (gA μ 8 o).toInt ∧ (gA μ 8 o).toInt ≤ 8) ∧ 0 ≤ (gA μ 10 o).toInt ∧ (gA μ 10 o).toInt ≤ 30) ∧ (∀ k, b01 (gA μ 6 k)) ∧ (∀ k, b01 (gA μ 22 k))
theorem IM.many {μ : St} (h : IM μ) {j : Nat} (hj : j < 12) : 0 ≤ (gA μ 2 j).toInt ∧ (gA μ 2 j).toInt ≤ (10 : Nat) := h.2.2.2.2.1 j hj
theorem IM.parts {μ : St} (h : IM μ) {j : Nat} (hj : j < 10) : 0 ≤ (gA μ 8 j).toInt ∧ (gA μ 8 j).toInt ≤ (8 : Nat) := (h.2.2.2.2.2.1 j hj).1
theorem IM.rows {μ : St} (h : IM μ) {j : Nat} (hj : j < 10) : 0 ≤ (gA μ 10 j).toInt ∧ (gA μ 10 j).toInt ≤ (30 : Nat) := (h.2.2.2.2.2.1 j hj).2
theorem lp_lt2 {a i N : Nat} {x : Int32} (hx : 0 ≤ x.toInt ∧ x.toInt ≤ N) (ha : a + N < 2 ^ 31) (hi : i ≤ a + N) (c : ¬ nI a + x ≤ nI i) : i < a + N := by
  have h := nle_toInt c
  rw [nI_toInt (by omega), Int32.toInt_add, nI_toInt (by omega)] at h
  have e : ((a : Int) + x.toInt).bmod (2 ^ 32) = (a : Int) + x.toInt := by apply Int.bmod_eq_of_le <;> omega
  rw [e] at h
  omega
theorem m_below01 (a b : Int32) : M_m_below a b = 0 ∨ M_m_below a b = 1 := by
  unfold M_m_below vb; (repeat' split) <;> first | exact Or.inl rfl | exact Or.inr rfl
theorem m_isLetter01 (a : Int32) : M_m_isLetter a = 0 ∨ M_m_isLetter a = 1 := by
  unfold M_m_isLetter vb; (repeat' split) <;> first | exact Or.inl rfl | exact Or.inr rfl
theorem m_isHour01 (a : Int32) : M_m_isHour a = 0 ∨ M_m_isHour a = 1 := by
  unfold M_m_isHour vb; (repeat' split) <;> first | exact Or.inl rfl | exact Or.inr rfl
theorem m_isMethod01 (μ : St) (a : Int32) : M_m_isMethod μ a = 0 ∨ M_m_isMethod μ a = 1 := m_below01 _ _
theorem m_isObject01 (μ : St) (a : Int32) : M_m_isObject μ a = 0 ∨ M_m_isObject μ a = 1 := m_below01 _ _
theorem IM.steps {μ : St} (h : IM μ) : (gF μ 0 23).toInt ≤ (10 : Nat) := h.2.2.2.1.2
theorem IM.objects {μ : St} (h : IM μ) : (gF μ 0 10).toInt ≤ (10 : Nat) := h.2.2.1.2
theorem IM.kA {μ : St} {p j : Nat} {v : Int32} (h : IM μ) (h2 : p ≠ 2) (h8 : p ≠ 8) (h10 : p ≠ 10) (h6 : p ≠ 6) (h22 : p ≠ 22) : IM (sA μ p j v) := by
  unfold IM at h ⊢
  simp only [gF_sA, gA_sA]
  simp only [show ¬ (2 = p) from fun q => h2 q.symm, show ¬ (8 = p) from fun q => h8 q.symm, show ¬ (10 = p) from fun q => h10 q.symm, show ¬ (6 = p) from fun q => h6 q.symm, show ¬ (22 = p) from fun q => h22 q.symm, false_and, if_false]
  exact h
theorem IM.k15 {μ : St} {j : Nat} {v : Int32} (h : IM μ) : IM (sA μ 15 j v) := h.kA (by decide) (by decide) (by decide) (by decide) (by decide)
theorem IM.kL {μ : St} {p j : Nat} {v : Int64} (h : IM μ) : IM (sL μ p j v) := h
theorem IM.k0 {μ : St} {v : Int32} (h : IM μ) : IM (sF μ 0 0 v) := by
  unfold IM at h ⊢
  simp only [gF_sF, gA_sF]
  exact h
theorem goes_st {σ σ1 : St} {r a b c : Int32} (hw : (r, σ1) = M_m_goes σ a b c) : ∃ t, σ1 = sF σ 0 0 t := by
  unfold M_m_goes vb at hw
  exact ⟨_, congrArg Prod.snd hw⟩
theorem goes_ok {σ σ1 : St} {r a b c : Int32} (hw : (r, σ1) = M_m_goes σ a b c) (h : ¬ r = 0) : ¬ a = 0 ∧ ¬ b = 0 ∧ ¬ c = 0 := by
  have hr := congrArg Prod.fst hw
  simp only [M_m_goes, vb, gF_sF, and_self, if_true] at hr
  refine ⟨fun e => ?_, fun e => ?_, fun e => ?_⟩
  · rw [if_pos e] at hr; exact h hr
  · by_cases e1 : a = 0
    · rw [if_pos e1] at hr; exact h hr
    · rw [if_neg e1, if_pos e] at hr; exact h hr
  · by_cases e1 : a = 0
    · rw [if_pos e1] at hr; exact h hr
    · by_cases e2 : b = 0
      · rw [if_neg e1, if_pos e2] at hr; exact h hr
      · rw [if_neg e1, if_neg e2, if_pos e] at hr; exact h hr
theorem IM.goes {σ σ1 : St} {r a b c : Int32} (h : IM σ) (hw : (r, σ1) = M_m_goes σ a b c) : IM σ1 := by
  obtain ⟨t, rfl⟩ := goes_st hw
  exact h.k0
theorem below_in {a b : Int32} {N : Nat} (h : ¬ M_m_below a b = 0) (hb : b.toInt ≤ N) : vp_in a N := by
  unfold M_m_below vb at h
  by_cases h1 : a < 0
  · rw [if_pos h1] at h; exact absurd rfl h
  · rw [if_neg h1] at h
    by_cases h2 : b ≤ a
    · rw [if_pos h2] at h; exact absurd rfl h
    · have e1 := nlt_toInt h1
      have e2 := nle_toInt h2
      exact vin_of (by simpa using e1) (by omega)
theorem isM_in {μ : St} {a : Int32} (hI : IM μ) (h : ¬ M_m_isMethod μ a = 0) : vp_in a 12 := below_in h hI.2.1.2
theorem isO_in {μ : St} {a : Int32} (hI : IM μ) (h : ¬ M_m_isObject μ a = 0) : vp_in a 10 := below_in h hI.2.2.1.2
theorem and1 {a y z : Int32} (h : y = if a = 0 then 0 else z) (hy : ¬ y = 0) : ¬ a = 0 := fun e => hy (by rw [h, if_pos e])
theorem and1b {a y z : Int32} (h : y = if a = 0 then 0 else z) (hy : ¬ y = 0) : ¬ z = 0 := fun e => hy (by rw [h, if_neg (and1 h hy)]; exact e)
theorem and2 {a b y : Int32} (h : y = if a = 0 then 0 else if b = 0 then 0 else 1) (hy : ¬ y = 0) : ¬ a = 0 ∧ ¬ b = 0 := ⟨and1 h hy, and1 rfl (and1b h hy)⟩
theorem and3 {a b c y : Int32} (h : y = if a = 0 then 0 else if b = 0 then 0 else if c = 0 then 0 else 1) (hy : ¬ y = 0) : ¬ a = 0 ∧ ¬ b = 0 ∧ ¬ c = 0 := ⟨and1 h hy, and2 rfl (and1b h hy)⟩
theorem and4 {a b c d y : Int32} (h : y = if a = 0 then 0 else if b = 0 then 0 else if c = 0 then 0 else if d = 0 then 0 else 1) (hy : ¬ y = 0) : ¬ a = 0 ∧ ¬ b = 0 ∧ ¬ c = 0 ∧ ¬ d = 0 := ⟨and1 h hy, and3 rfl (and1b h hy)⟩
theorem lin_toInt {k x y : Int32} {K : Nat} (hk : k.toInt = K) (hK : K ≤ 1000) (hx0 : 0 ≤ x.toInt) (hx : x.toInt ≤ 1000) (hy0 : -1000 ≤ y.toInt) (hy : y.toInt ≤ 1000) : (k * x + y).toInt = K * x.toInt + y.toInt := by
  have b0 : 0 ≤ (K : Int) * x.toInt := Int.mul_nonneg (by omega) hx0
  have b1 : (K : Int) * x.toInt ≤ 1000 * 1000 := Int.mul_le_mul (by omega) hx hx0 (by decide)
  rw [Int32.toInt_add, Int32.toInt_mul, hk]
  have e1 : ((K : Int) * x.toInt).bmod (2 ^ 32) = (K : Int) * x.toInt := by apply Int.bmod_eq_of_le <;> omega
  rw [e1]
  apply Int.bmod_eq_of_le <;> omega
theorem ix_in {k x y : Int32} {A B N : Nat} (hx : vp_in x A) (hy : vp_in y B) (hk : k.toInt = B) (hB : B ≤ 1000 ∧ A ≤ 1000) (hN : A * B ≤ N) : vp_in (k * x + y) N := by
  obtain ⟨x0, x1⟩ := vp_in_iff.mp hx
  obtain ⟨y0, y1⟩ := vp_in_iff.mp hy
  have e := lin_toInt (K := B) hk hB.1 x0 (by omega) (by omega) (by omega : y.toInt ≤ 1000)
  have b0 : 0 ≤ (B : Int) * x.toInt := Int.mul_nonneg (by omega) x0
  have b1 : (B : Int) * x.toInt ≤ (B : Int) * ((A : Int) - 1) := Int.mul_le_mul_of_nonneg_left (by omega) (by omega)
  have b2 : (B : Int) * ((A : Int) - 1) = (A * B : Nat) - (B : Int) := by rw [Int.mul_sub, Int.mul_one, Int.natCast_mul, Int.mul_comm]
  refine vin_of (by omega) (by omega)
theorem unit_in {σ σ1 : St} {r y b c : Int32} (hI : IM σ) (hg : (r, σ1) = M_m_goes σ y b c) (h1 : y = if (50 : Int32) ≤ gF σ 0 1 then 0 else 1) (hy : ¬ y = 0) : vp_in (gF σ1 0 1) 50 := by
  obtain ⟨t, rfl⟩ := goes_st hg
  by_cases h : (50 : Int32) ≤ gF σ 0 1
  · rw [if_pos h] at h1; exact absurd h1 hy
  · have e := nle_toInt h
    rw [gF_sF, if_neg (by decide)]
    exact vin_of hI.1.1 (by simpa using e)
theorem vin_nI {x : Int32} {N : Nat} (h : vp_in x N) (hN : N < 2 ^ 31) : ∃ j, j < N ∧ x = nI j ∧ x.toNatClampNeg = j := by
  obtain ⟨j, hj, rfl⟩ := vp_in_of h hN
  exact ⟨j, hj, rfl, nI_clamp (by omega)⟩
theorem part_in {σ σ1 : St} {r y y2 c x : Int32} (hI : IM σ) (hg : (r, σ1) = M_m_goes σ y y2 c) (hx : ¬ M_m_isObject σ x = 0) (h2 : y2 = if y = 0 then 0 else if (8 : Int32) ≤ gA σ 8 x.toNatClampNeg then 0 else 1) (hy : ¬ y2 = 0) : vp_in (8 * x + gA σ1 8 x.toNatClampNeg) 80 := by
  obtain ⟨t, rfl⟩ := goes_st hg
  have hx2 := isO_in hI hx
  obtain ⟨j, hj, e, ec⟩ := vin_nI hx2 (by decide)
  have h3 := and1b h2 hy
  by_cases h : (8 : Int32) ≤ gA σ 8 x.toNatClampNeg
  · rw [if_pos h] at h3; exact absurd rfl h3
  · have e1 := nle_toInt h
    have e2 := (hI.parts hj).1
    rw [← ec] at e2
    exact ix_in (A := 10) (B := 8) (k := 8) hx2 (vin_of e2 (by rw [gA_sF]; simpa using e1)) (by decide) (by decide) (by decide)
theorem rowk {a x z y : Int32} (h : y = if a = 0 then 0 else if x < (-1) then 0 else if z < 0 then 0 else if (3 : Int32) < z then 0 else 1) (hy : ¬ y = 0) : ¬ a = 0 ∧ ¬ x < (-1) ∧ ¬ z < 0 ∧ ¬ (3 : Int32) < z := by
  have h1 := and1 h hy
  have h2 := and1b h hy
  refine ⟨h1, fun e => h2 (by rw [if_pos e]), fun e => h2 ?_, fun e => h2 ?_⟩
  · by_cases e1 : x < (-1)
    · rw [if_pos e1]
    · rw [if_neg e1, if_pos e]
  · by_cases e1 : x < (-1)
    · rw [if_pos e1]
    · by_cases e2 : z < 0
      · rw [if_neg e1, if_pos e2]
      · rw [if_neg e1, if_neg e2, if_pos e]
theorem rowv {σ : St} {a x z y y2 q : Int32} (h : y = if a = 0 then 0 else if x < (-1) then 0 else if z < 0 then 0 else if (3 : Int32) < z then 0 else 1) (h2 : y2 = if y = 0 then 0 else if gA σ 10 q.toNatClampNeg ≤ x then 0 else 1) (hy : ¬ y2 = 0) : ¬ a = 0 ∧ ¬ x < (-1) ∧ ¬ gA σ 10 q.toNatClampNeg ≤ x := by
  have h3 := rowk h (and1 h2 hy)
  have h4 := and1b h2 hy
  exact ⟨h3.1, h3.2.1, fun e => h4 (by rw [if_pos e])⟩
theorem rowm_in {σ : St} {x q : Int32} (hI : IM σ) (hv : ¬ M_m_isObject σ q = 0 ∧ ¬ x < (-1) ∧ ¬ gA σ 10 q.toNatClampNeg ≤ x) (hne : ¬ x = (-1)) : vp_in (30 * q + x) 300 := by
  have hq := isO_in hI hv.1
  obtain ⟨j, hj, e, ec⟩ := vin_nI hq (by decide)
  have e1 := nlt_toInt hv.2.1
  have e2 := nle_toInt hv.2.2
  have e3 := (hI.rows hj).2
  rw [← ec] at e3
  rw [show (-1 : Int32).toInt = -1 by decide] at e1
  have e4 : x.toInt ≠ -1 := fun h => hne (Int32.toInt_inj.mp (h.trans (by decide)))
  exact ix_in (A := 10) (B := 30) (k := 30) hq (vin_of (by omega) (by omega)) (by decide) (by decide) (by decide)
theorem late_in {σ : St} {x y y2 : Int32} (hI : IM σ) (hx : ¬ M_m_isObject σ x = 0) (h2 : y2 = if y = 0 then 0 else gA σ 10 x.toNatClampNeg) (hy : ¬ y = 0) (hn : ¬ y2 = 0) : vp_in (30 * x + y2 - 1) 300 := by
  have hq := isO_in hI hx
  obtain ⟨j, hj, e, ec⟩ := vin_nI hq (by decide)
  rw [if_neg hy] at h2
  have e3 := hI.rows hj
  rw [← ec, ← h2] at e3
  obtain ⟨x0, x1⟩ := vp_in_iff.mp hq
  have e4 : y2.toInt ≠ 0 := fun h => hn (Int32.toInt_inj.mp (h.trans (by decide)))
  have e5 := lin_toInt (k := 30) (x := x) (y := y2) (K := 30) (by decide) (by decide) x0 (by omega) (by omega) (by omega)
  have e6 : (30 * x + y2 - 1).toInt = 30 * x.toInt + y2.toInt - 1 := by
    rw [Int32.toInt_sub, e5, show (1 : Int32).toInt = 1 by decide]
    apply Int.bmod_eq_of_le <;> omega
  exact vin_of (by omega) (by omega)
theorem done_in {σ : St} {x y y2 y3 : Int32} (hI : IM σ) (hx : ¬ M_m_isObject σ x = 0) (h2 : y2 = if y = 0 then 0 else gA σ 10 x.toNatClampNeg) (hy : ¬ y = 0) (h3 : y3 = if (30 : Int32) ≤ y2 then 0 else 1) (hy3 : ¬ y3 = 0) : vp_in (30 * x + y2) 300 := by
  have hq := isO_in hI hx
  obtain ⟨j, hj, e, ec⟩ := vin_nI hq (by decide)
  rw [if_neg hy] at h2
  have e3 := hI.rows hj
  rw [← ec, ← h2] at e3
  by_cases h : (30 : Int32) ≤ y2
  · rw [if_pos h] at h3; exact absurd h3 hy3
  · have e1 := nle_toInt h
    exact ix_in (A := 10) (B := 30) (k := 30) hq (vin_of e3.1 (by simpa using e1)) (by decide) (by decide) (by decide)
theorem IM.padded {μ : St} (h : IM μ) : (gF μ 0 1).toInt ≤ (50 : Nat) := h.1.2
theorem IM.k3 {μ : St} {j : Nat} {v : Int32} (h : IM μ) : IM (sA μ 3 j v) := h.kA (by decide) (by decide) (by decide) (by decide) (by decide)
theorem IM.k4 {μ : St} {j : Nat} {v : Int32} (h : IM μ) : IM (sA μ 4 j v) := h.kA (by decide) (by decide) (by decide) (by decide) (by decide)
theorem IM.k5 {μ : St} {j : Nat} {v : Int32} (h : IM μ) : IM (sA μ 5 j v) := h.kA (by decide) (by decide) (by decide) (by decide) (by decide)
theorem c_in {m n : Int32} (hm : vp_in m 12) (hn : vp_in n 10) : vp_in (10 * m + n) 120 := ix_in (A := 12) (B := 10) (k := 10) hm hn (by decide) (by decide) (by decide)
theorem n_in {n y w s : Int32} (h : y = if w = 0 then 0 else if s = 44 then (if (9 : Int32) ≤ n then 0 else 1) else 0) (hy : ¬ y = 0) (hn : vp_in n 10) : vp_in (n + 1) 10 := by
  have h1 := and1b h hy
  by_cases e1 : s = 44
  · rw [if_pos e1] at h1
    by_cases e2 : (9 : Int32) ≤ n
    · rw [if_pos e2] at h1; exact absurd rfl h1
    · have e3 := nle_toInt e2
      rw [show (9 : Int32).toInt = 9 by decide] at e3
      obtain ⟨a, b⟩ := vp_in_iff.mp hn
      have e4 : (n + 1).toInt = n.toInt + 1 := by
        rw [Int32.toInt_add, show (1 : Int32).toInt = 1 by decide]
        apply Int.bmod_eq_of_le <;> omega
      exact vin_of (by omega) (by omega)
  · rw [if_neg e1] at h1; exact absurd rfl h1
theorem read_in {σ σ1 : St} {r y b c : Int32} (hI : IM σ) (hg : (r, σ1) = M_m_goes σ y b c) (h1 : y = if (12 : Int32) ≤ gF σ 0 3 then 0 else 1) (hy : ¬ y = 0) : vp_in (gF σ1 0 3) 12 := by
  obtain ⟨t, rfl⟩ := goes_st hg
  by_cases h : (12 : Int32) ≤ gF σ 0 3
  · rw [if_pos h] at h1; exact absurd h1 hy
  · have e := nle_toInt h
    rw [gF_sF, if_neg (by decide)]
    exact vin_of hI.2.1.1 (by simpa using e)
theorem pw_1 : ∀ j, j < 12 → (1 : Int32) <<< (nI j &&& 31) = nI (2 ^ j) := by decide
theorem pw_pos (j : Nat) : 2 ^ j = (2 ^ j - 1) + 1 := by
  have := Nat.one_le_two_pow (n := j)
  omega
theorem pw_sub (j : Nat) : nI (2 ^ j) - 1 = nI (2 ^ j - 1) := by
  have h := nI_pred (2 ^ j - 1)
  rw [← pw_pos] at h
  exact h
theorem pw_sI {j : Nat} : sI (2 ^ j) = nI (2 ^ j - 1) := pw_sub j
theorem pw_le {j : Nat} (h : j < 11) : 2 ^ j ≤ 1024 := by
  have := Nat.pow_le_pow_right (n := 2) (by decide) (show j ≤ 10 by omega)
  exact this
theorem nI_or (a b : Nat) : nI a ||| nI b = nI (a ||| b) := by
  apply Int32.toBitVec_inj.mp
  rw [Int32.toBitVec_or]
  show BitVec.ofNat 32 a ||| BitVec.ofNat 32 b = BitVec.ofNat 32 (a ||| b)
  rw [BitVec.ofNat_or]
theorem or_nI {a i : Nat} (hi : i < 12) : nI a ||| ((1 : Int32) <<< (nI i &&& 31)) = nI (a ||| 2 ^ i) := by
  rw [pw_1 i hi, nI_or]
theorem or_lt {a i : Nat} (ha : a < 1024) (hi : i < 10) : a ||| 2 ^ i < 1024 := by
  have h2 : 2 ^ i < 2 ^ 10 := Nat.pow_lt_pow_right (by decide) hi
  exact Nat.or_lt_two_pow (n := 10) ha h2
theorem nI_ngt {j i : Nat} (c : ¬ nI j ≤ nI i) (hj : j < 2 ^ 31) (hi : i < 2 ^ 31) : i < j := by
  have h := nle_toInt c
  rw [nI_toInt hj, nI_toInt hi] at h
  omega
theorem IM.k22 {μ : St} {j : Nat} {v : Int32} (h : IM μ) (hv : v = 0 ∨ v = 1) : IM (sA μ 22 j v) := by
  unfold IM at h ⊢
  simp only [gF_sA, gA_sA]
  refine ⟨h.1, h.2.1, h.2.2.1, h.2.2.2.1, h.2.2.2.2.1, h.2.2.2.2.2.1, h.2.2.2.2.2.2.1, fun k => ?_⟩
  split
  · exact hv
  · exact h.2.2.2.2.2.2.2 k
theorem ord_keep0 {j2 z j1 : Nat} : ∀ (n i : Nat) (τ : St), IM τ → IM (M_m_orders_h33 n i τ j2 z j1) ∧ ∀ p k, p ≠ 22 → gA (M_m_orders_h33 n i τ j2 z j1) p k = gA τ p k := by
  intro n
  induction n with
  | zero => intro i τ h; exact ⟨h, fun _ _ _ => rfl⟩
  | succ n ih =>
    intro i τ h
    rw [M_m_orders_h33]
    split
    · exact ⟨h, fun _ _ _ => rfl⟩
    · rw [vb_eq, vb_eq]
      generalize hy : (if gA τ 22 z = 0 then _ else (1 : Int32)) = y
      have hb : y = 0 ∨ y = 1 := by
        rw [← hy]; (repeat' split) <;> first | exact Or.inl rfl | exact Or.inr rfl
      obtain ⟨h1, h2⟩ := ih (i + 1) (sA τ 22 z y) (h.k22 hb)
      refine ⟨h1, fun p k hp => ?_⟩
      rw [h2 p k hp, gA_sA, if_neg (fun q => hp q.1)]
theorem ord_keep {σ1 τ : St} {n i j2 z j1 : Nat} (h : σ1 = M_m_orders_h33 n i τ j2 z j1) (hI : IM τ) : IM σ1 ∧ ∀ k, gA σ1 21 k = gA τ 21 k := by
  obtain ⟨h1, h2⟩ := ord_keep0 (j2 := j2) (z := z) (j1 := j1) n i τ hI
  rw [h]; exact ⟨h1, fun k => h2 21 k (by decide)⟩

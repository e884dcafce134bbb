/-! the reference's invariants -/
def b01 (x : Int32) : Prop := x = 0 ∨ x = 1
def IM (μ : St) : Prop := (0 ≤ (gF μ 0 1).toInt ∧ (gF μ 0 1).toInt ≤ 50) ∧ (0 ≤ (gF μ 0 3).toInt ∧ (gF μ 0 3).toInt ≤ 12) ∧ (0 ≤ (gF μ 0 10).toInt ∧ (gF μ 0 10).toInt ≤ 10) ∧ (0 ≤ (gF μ 0 23).toInt ∧ (gF μ 0 23).toInt ≤ 10) ∧
  (∀ j, j < 12 → 0 ≤ (gA μ 2 j).toInt ∧ (gA μ 2 j).toInt ≤ 10) ∧ (∀ o, o < 10 → (0 ≤ (gA μ 8 o).toInt ∧ (gA μ 8 o).toInt ≤ 8) ∧ 0 ≤ (gA μ 10 o).toInt ∧ (gA μ 10 o).toInt ≤ 30) ∧ (∀ k, b01 (gA μ 6 k)) ∧ (∀ k, b01 (gA μ 22 k))
theorem IM.many {μ : St} (h : IM μ) {j : Nat} (hj : j < 12) : 0 ≤ (gA μ 2 j).toInt ∧ (gA μ 2 j).toInt ≤ (10 : Nat) := h.2.2.2.2.1 j hj
theorem IM.parts {μ : St} (h : IM μ) {j : Nat} (hj : j < 10) : 0 ≤ (gA μ 8 j).toInt ∧ (gA μ 8 j).toInt ≤ (8 : Nat) := (h.2.2.2.2.2.1 j hj).1
theorem IM.rows {μ : St} (h : IM μ) {j : Nat} (hj : j < 10) : 0 ≤ (gA μ 10 j).toInt ∧ (gA μ 10 j).toInt ≤ (30 : Nat) := (h.2.2.2.2.2.1 j hj).2
theorem lp_lt2 {a i N : Nat} {x : Int32} (hx : 0 ≤ x.toInt ∧ x.toInt ≤ N) (ha : a + N < 2 ^ 31) (hi : i ≤ a + N) (c : ¬ nI a + x ≤ nI i) : i < a + N := by
  have h := nle_toInt c
  rw [nI_toInt (by omega), Int32.toInt_add, nI_toInt (by omega)] at h
  have e : ((a : Int) + x.toInt).bmod (2 ^ 32) = (a : Int) + x.toInt := by apply Int.bmod_eq_of_le <;> omega
  rw [e] at h
  omega
theorem m_below01 (a b : Int32) : M_m_below a b = 0 ∨ M_m_below a b = 1 := by
  unfold M_m_below vb; (repeat' split) <;> first | exact Or.inl rfl | exact Or.inr rfl
theorem m_isLetter01 (a : Int32) : M_m_isLetter a = 0 ∨ M_m_isLetter a = 1 := by
  unfold M_m_isLetter vb; (repeat' split) <;> first | exact Or.inl rfl | exact Or.inr rfl
theorem m_isHour01 (a : Int32) : M_m_isHour a = 0 ∨ M_m_isHour a = 1 := by
  unfold M_m_isHour vb; (repeat' split) <;> first | exact Or.inl rfl | exact Or.inr rfl
theorem m_isMethod01 (μ : St) (a : Int32) : M_m_isMethod μ a = 0 ∨ M_m_isMethod μ a = 1 := m_below01 _ _
theorem m_isObject01 (μ : St) (a : Int32) : M_m_isObject μ a = 0 ∨ M_m_isObject μ a = 1 := m_below01 _ _

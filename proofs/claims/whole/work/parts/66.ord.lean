/-! orders: what may be done one after the other -/
theorem or_tb {S k j : Nat} : (S ||| 2 ^ k).testBit j = (S.testBit j || decide (k = j)) := by
  rw [Nat.testBit_or, Nat.testBit_two_pow]
theorem or_f {S k j : Nat} (h : (S ||| 2 ^ k).testBit j = false) : S.testBit j = false ∧ k ≠ j := by
  rw [or_tb] at h
  cases h1 : S.testBit j
  · rw [h1] at h
    exact ⟨rfl, fun e => by simp [e] at h⟩
  · rw [h1] at h; simp at h
theorem or_i {S k j : Nat} (h : S.testBit j = false) (hk : k ≠ j) : (S ||| 2 ^ k).testBit j = false := by
  rw [or_tb, h]; simp [hk]
theorem or_t {S k j : Nat} (h : S.testBit j = true) : (S ||| 2 ^ k).testBit j = true := by
  rw [or_tb, h]; rfl
theorem or_gt {S k : Nat} (h : S.testBit k = false) : S < S ||| 2 ^ k := by
  have h1 : S ≤ S ||| 2 ^ k := Nat.left_le_or
  have h2 : S ≠ S ||| 2 ^ k := fun e => by
    have : (S ||| 2 ^ k).testBit k = true := by rw [or_tb]; simp
    rw [← e, h] at this; cases this
  omega
theorem or_ltn {S k n : Nat} (h : S < 2 ^ n) (hk : k < n) : S ||| 2 ^ k < 2 ^ n := Nat.or_lt_two_pow h (Nat.pow_lt_pow_right (by decide) hk)
theorem full_t {n j : Nat} (h : j < n) : (2 ^ n - 1).testBit j = true := by
  rw [Nat.testBit_two_pow_sub_one]; simp [h]
def May (n : Nat) (a b : Nat → Nat → Prop) (cl : Nat → Prop) (S k : Nat) : Prop := (∀ j, j < n → a k j → S.testBit j = true) ∧ (∀ j, j < n → b k j → S.testBit j = false) ∧ cl k
def Nx (n : Nat) (a b : Nat → Nat → Prop) (cl E : Nat → Prop) (S k : Nat) : Prop := k < n ∧ S.testBit k = false ∧ E (S ||| 2 ^ k) ∧ May n a b cl S k
def EE (n : Nat) (a b : Nat → Nat → Prop) (cl E : Nat → Prop) : Prop := ∀ S, S < 2 ^ n → (E S ↔ S = 2 ^ n - 1 ∨ ∃ k, Nx n a b cl E S k)
def El (n : Nat) (a b : Nat → Nat → Prop) (S k : Nat) : Prop := k < n ∧ S.testBit k = false ∧ (∀ j, j < n → a k j → S.testBit j = true) ∧ ∀ j, j < n → j ≠ k → S.testBit j = false → ¬ b j k
theorem e_later {n : Nat} {a b : Nat → Nat → Prop} {cl E : Nat → Prop} (hE : EE n a b cl E) : ∀ (d S : Nat), S < 2 ^ n → 2 ^ n - S ≤ d → E S → ∀ k, k < n → S.testBit k = false → (∀ j, j < n → b k j → S.testBit j = false) ∧ cl k := by
  intro d
  induction d with
  | zero => intro S h1 h2; omega
  | succ d ih =>
    intro S h1 h2 h3 k hk hb
    rcases (hE S h1).mp h3 with h | ⟨k', q1, q2, q3, q4, q5, q6⟩
    · rw [h, full_t hk] at hb; cases hb
    · by_cases e : k' = k
      · subst e; exact ⟨q5, q6⟩
      · have g := or_gt q2
        obtain ⟨r1, r2⟩ := ih (S ||| 2 ^ k') (or_ltn h1 q1) (by omega) q3 k hk (or_i hb e)
        exact ⟨fun j hj hbj => (or_f (r1 j hj hbj)).1, r2⟩
theorem e_swap {n : Nat} {a b : Nat → Nat → Prop} {cl E : Nat → Prop} (hE : EE n a b cl E) : ∀ (d S : Nat), S < 2 ^ n → 2 ^ n - S ≤ d → E S → ∀ k, El n a b S k → E (S ||| 2 ^ k) := by
  intro d
  induction d with
  | zero => intro S h1 h2; omega
  | succ d ih =>
    intro S h1 h2 h3 k hk
    obtain ⟨k1, k2, k3, k4⟩ := hk
    rcases (hE S h1).mp h3 with h | ⟨j, q1, q2, q3, q4, q5, q6⟩
    · rw [h, full_t k1] at k2; cases k2
    · by_cases e : j = k
      · subst e; exact q3
      · have g := or_gt q2
        have r := ih (S ||| 2 ^ j) (or_ltn h1 q1) (by omega) q3 k ⟨k1, or_i k2 e, fun i hi ha => or_t (k3 i hi ha), fun i hi hik hib => k4 i hi hik (or_f hib).1⟩
        refine (hE (S ||| 2 ^ k) (or_ltn h1 k1)).mpr (Or.inr ⟨j, q1, or_i q2 (fun z => e z.symm), ?_, fun i hi ha => or_t (q4 i hi ha), fun i hi hb => or_i (q5 i hi hb) (fun z => ?_), q6⟩)
        · rw [Nat.or_assoc, Nat.or_comm (2 ^ k), ← Nat.or_assoc]; exact r
        · subst z; exact k4 j q1 e q2 hb
theorem nx_iff {n : Nat} {a b : Nat → Nat → Prop} {cl E : Nat → Prop} (hE : EE n a b cl E) {S k : Nat} (h1 : S < 2 ^ n) (h3 : E S) : Nx n a b cl E S k ↔ El n a b S k := by
  constructor
  · rintro ⟨q1, q2, q3, q4, q5, q6⟩
    refine ⟨q1, q2, q4, fun j hj hjk hjb hb => ?_⟩
    have := (e_later hE (2 ^ n - (S ||| 2 ^ k)) (S ||| 2 ^ k) (or_ltn h1 q1) (Nat.le_refl _) q3 j hj (or_i hjb (fun z => hjk z.symm))).1 k q1 hb
    rw [or_tb] at this
    simp at this
  · intro hk
    have r := e_swap hE (2 ^ n - S) S h1 (Nat.le_refl _) h3 k hk
    obtain ⟨r1, r2⟩ := e_later hE (2 ^ n - S) S h1 (Nat.le_refl _) h3 k hk.1 hk.2.1
    exact ⟨hk.1, hk.2.1, r, hk.2.2.1, r1, r2⟩
/-! the table of ends: what it says, both ways -/
theorem dp_in2 {j1 j2 z : Nat} (hz : z < 1024) (hj : j2 ≤ 10) : ∀ (n i : Nat) (τ : St), i + n ≤ 100 → j2 ≤ i + n → (gA τ 22 z ≠ 0 ∨ ∃ k, i ≤ k ∧ k < j2 ∧ nxt τ j1 j2 z k) → gA (M_m_orders_h33 n i τ j2 z j1) 22 z ≠ 0 := by
  intro n
  induction n with
  | zero =>
    intro i τ _ h h2
    rcases h2 with h2 | ⟨k, a, b, _⟩
    · exact h2
    · omega
  | succ n ih =>
    intro i τ h100 h h2
    rw [M_m_orders_h33]
    by_cases c : nI j2 ≤ nI i
    · rw [if_pos c]
      rcases h2 with h2 | ⟨k, a, b, _⟩
      · exact h2
      · have := nI_le' c (by omega) (by omega); omega
    rw [if_neg c, vb_eq, vb_eq]
    generalize hy : (if gA τ 22 z = 0 then _ else (1 : Int32)) = y
    refine ih (i + 1) (sA τ 22 z y) (by omega) (by omega) ?_
    rw [gA_s]
    by_cases h0 : gA τ 22 z = 0
    · rcases h2 with h2 | ⟨k, a, b, d⟩
      · exact absurd h0 h2
      · by_cases e : k = i
        · subst e
          left
          rw [← hy, if_pos h0, if_pos d.1, if_neg d.2.1, if_neg d.2.2, if_neg (show ¬ (1 : Int32) = 0 by decide)]
          decide
        · right
          refine ⟨k, by omega, b, (nxt_eq (eq22.set τ z y).x ?_).mpr d⟩
          rw [gA_sA, if_neg (fun q => or_ne (by omega) (by omega) d.1 q.2)]
    · left
      rw [← hy, if_neg h0]
      decide
theorem dp_out2 {j1 j2 : Nat} (hj : j2 ≤ 10) : ∀ (i : Nat) (τ : St), i ≤ 2 ^ j2 → (∀ S, i ≤ S → S < 2 ^ j2 → (S = 2 ^ j2 - 1 ∨ ∃ k, k < j2 ∧ nxt τ j1 j2 S k) → gA τ 22 S ≠ 0) → ∀ S, S < 2 ^ j2 → (S = 2 ^ j2 - 1 ∨ ∃ k, k < j2 ∧ nxt (M_m_orders_h6 i τ j2 j1).2 j1 j2 S k) → gA (M_m_orders_h6 i τ j2 j1).2 22 S ≠ 0 := by
  have hpw : 2 ^ j2 ≤ 1024 := pw_le (by omega)
  intro i
  induction i with
  | zero => intro τ _ h S h1 h2; rw [M_m_orders_h6] at h2 ⊢; exact h S (Nat.zero_le _) h1 h2
  | succ i ih =>
    intro τ hi h
    rw [M_m_orders_h6, vb_eq, vb_eq]
    generalize hy : (if nI i = nI (2 ^ j2 - 1) then (1 : Int32) else 0) = y
    obtain ⟨d1, d2, d3⟩ := dp_in (j1 := j1) (j2 := j2) (z := i) (by omega) hj 11 0 (sA τ 22 i y) (by decide)
    have d4 := dp_in2 (j1 := j1) (j2 := j2) (z := i) (by omega) hj 11 0 (sA τ 22 i y) (by decide) (by omega)
    generalize M_m_orders_h33 11 0 (sA τ 22 i y) j2 i j1 = τ2 at d1 d2 d3 d4
    have e2 := (eq22.set τ i y).trans d1
    refine ih τ2 (by omega) (fun S hS h1 h2 => ?_)
    by_cases e : S = i
    · subst e
      refine d4 ?_
      rcases h2 with h2 | ⟨k, hk, h4⟩
      · left
        rw [gA_s, ← hy, h2, if_pos rfl]
        decide
      · exact Or.inr ⟨k, Nat.zero_le _, hk, (nxt_eq d1.x (d2 _ (or_ne (by omega) (by omega) h4.1))).mp h4⟩
    · rw [d2 S e, gA_sA, if_neg (fun q => e q.2)]
      refine h S (by omega) h1 (h2.imp id (fun ⟨k, hk, h4⟩ => ?_))
      have hge : S ≤ S ||| 2 ^ k := Nat.left_le_or
      refine ⟨k, hk, (nxt_eq e2.x ?_).mp h4⟩
      rw [d2 _ (by omega), gA_sA, if_neg (fun q => by omega)]
theorem dp_iff {j1 j2 : Nat} (hj : j2 ≤ 10) (τ : St) : eq22 τ (N_m_orders τ j1 j2).2 ∧ (N_m_orders τ j1 j2).1 = gA (N_m_orders τ j1 j2).2 22 0 ∧ ∀ S, S < 2 ^ j2 → (gA (N_m_orders τ j1 j2).2 22 S ≠ 0 ↔ (S = 2 ^ j2 - 1 ∨ ∃ k, k < j2 ∧ nxt (N_m_orders τ j1 j2).2 j1 j2 S k)) := by
  unfold N_m_orders
  obtain ⟨a, b, c⟩ := dp_out (j1 := j1) (j2 := j2) hj (2 ^ j2) τ (Nat.le_refl _) (fun S q1 q2 => by omega)
  refine ⟨a, b, fun S hS => ⟨fun h => ?_, dp_out2 hj (2 ^ j2) τ (Nat.le_refl _) (fun S q1 q2 => by omega) S hS⟩⟩
  by_cases e : S = 2 ^ j2 - 1
  · exact Or.inl e
  · exact Or.inr (c S hS e h)

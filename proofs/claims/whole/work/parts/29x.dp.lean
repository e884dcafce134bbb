/-! Plans of the reference: the table of ends says from which sets an order can be completed. -/
def eq22 (τ τ' : St) : Prop := (∀ p k, p ≠ 22 → gA τ' p k = gA τ p k) ∧ ∀ i j, gF τ' i j = gF τ i j
theorem eq22.rf (τ : St) : eq22 τ τ := ⟨fun _ _ _ => rfl, fun _ _ => rfl⟩
theorem eq22.trans {a b c : St} (h : eq22 a b) (g : eq22 b c) : eq22 a c := ⟨fun p k hp => (g.1 p k hp).trans (h.1 p k hp), fun i j => (g.2 i j).trans (h.2 i j)⟩
theorem eq22.set (τ : St) (j : Nat) (v : Int32) : eq22 τ (sA τ 22 j v) := ⟨fun p k hp => by rw [gA_sA, if_neg (fun q => hp q.1)], fun _ _ => rfl⟩
theorem has_eq {τ τ' : St} (h : eq22 τ τ') : ∀ (n i : Nat) (x : Int32) (j : Nat) (a b : Int32), M_m_has_h9 n i x j τ' a b = M_m_has_h9 n i x j τ a b := by
  intro n
  induction n with
  | zero => intro i x j a b; rfl
  | succ n ih =>
    intro i x j a b
    rw [M_m_has_h9, M_m_has_h9, h.1 2 _ (by decide), h.1 3 _ (by decide), h.1 4 _ (by decide)]
    simp only [vb_eq, ih]
theorem latest_eq {τ τ' : St} (h : eq22 τ τ') : ∀ (n i : Nat) (x : Int32) (j : Nat) (a : Int32), M_m_latest_h8 n i x j τ' a = M_m_latest_h8 n i x j τ a := by
  intro n
  induction n with
  | zero => intro i x j a; rfl
  | succ n ih =>
    intro i x j a
    rw [M_m_latest_h8, M_m_latest_h8, h.1 10 _ (by decide), h.1 11 _ (by decide), h.1 12 _ (by decide)]
    simp only [vb_eq, ih]
theorem hasM_eq {τ τ' : St} (h : eq22 τ τ') (a b c : Int32) : M_m_has τ' a b c = M_m_has τ a b c := has_eq h _ _ _ _ _ _
theorem latM_eq {τ τ' : St} (h : eq22 τ τ') (a b : Int32) : M_m_latest τ' a b = M_m_latest τ a b := latest_eq h _ _ _ _ _
theorem may_eq0 {τ τ' : St} (h : eq22 τ τ') (j1 j2 : Nat) (a : Int32) : ∀ (n i : Nat) (x : Int32), M_m_mayCome_h6 n i x a τ' j1 j2 = M_m_mayCome_h6 n i x a τ j1 j2 := by
  intro n
  induction n with
  | zero => intro i x; rfl
  | succ n ih =>
    intro i x
    rw [M_m_mayCome_h6, M_m_mayCome_h6]
    simp only [latM_eq h, hasM_eq h, vb_eq, ih]
theorem may_eq {τ τ' : St} (h : eq22 τ τ') (a b c : Int32) : M_m_mayCome τ' a b c = M_m_mayCome τ a b c := may_eq0 h _ _ _ _ _ _
theorem mOf_eq0 {τ τ' : St} (h : eq22 τ τ') (a b : Int32) : ∀ (n i : Nat) (x : Int32), M_m_methodsOf_h5 n i x b a τ' = M_m_methodsOf_h5 n i x b a τ := by
  intro n
  induction n with
  | zero => intro i x; rfl
  | succ n ih =>
    intro i x
    rw [M_m_methodsOf_h5, M_m_methodsOf_h5, h.1 21 _ (by decide)]
    simp only [vb_eq, ih]
theorem mOf_eq {τ τ' : St} (h : eq22 τ τ') (a b : Int32) : M_m_methodsOf τ' a b = M_m_methodsOf τ a b := mOf_eq0 h _ _ _ _ _
/-- one step more may be done from set z by the k-th chosen -/
def nxt (τ : St) (j1 j2 z k : Nat) : Prop := ((nI z) >>> ((nI k) &&& 31)) &&& 1 = 0 ∧ gA τ 22 (z ||| 2 ^ k) ≠ 0 ∧ M_m_mayCome τ (nI j1) (gA τ 21 k) (M_m_methodsOf τ (nI z) (nI j2)) ≠ 0
theorem bit_nI {z k : Nat} (hz : z < 2 ^ 31) (hk : k < 32) : (((nI z) >>> ((nI k) &&& 31)) &&& 1) = nI (z / 2 ^ k % 2) := by
  have h31 : nI k &&& 31 = nI k := by
    have := pk_andN (n := k) (by omega) (m := 31) 5 (by decide)
    rw [this, Nat.mod_eq_of_lt hk]
  rw [h31, pk_shrN hz (nI k) k (by
    have : ∀ q, q < 32 → ((nI q).toBitVec.smod 32).toNat = q := by decide
    exact this k hk)]
  have h2 := pk_andN (n := z / 2 ^ k) (Nat.lt_of_le_of_lt (Nat.div_le_self _ _) (by omega)) (m := 1) 1 (by decide)
  rw [h2]
theorem or_ne {z k : Nat} (hz : z < 2 ^ 31) (hk : k < 32) (h : ((nI z) >>> ((nI k) &&& 31)) &&& 1 = 0) : z ||| 2 ^ k ≠ z := by
  rw [bit_nI hz hk] at h
  intro e
  have h1 : z / 2 ^ k % 2 = 0 := by
    have h3 : z / 2 ^ k % 2 < 2 := Nat.mod_lt _ (by decide)
    rcases Nat.lt_or_ge 0 (z / 2 ^ k % 2) with h4 | h4
    · exact absurd h (nI_ne0 h4 (by omega))
    · omega
  have h5 : z.testBit k = false := by
    rw [Nat.testBit_eq_decide_div_mod_eq]
    simp [h1]
  have h6 : (z ||| 2 ^ k).testBit k = true := by
    rw [Nat.testBit_or, Nat.testBit_two_pow_self]; simp
  rw [e, h5] at h6
  cases h6
theorem nxt_eq {τ τ' : St} {j1 j2 z k : Nat} (h : eq22 τ τ') (he : gA τ' 22 (z ||| 2 ^ k) = gA τ 22 (z ||| 2 ^ k)) : nxt τ' j1 j2 z k ↔ nxt τ j1 j2 z k := by
  unfold nxt
  rw [he, may_eq h, mOf_eq h, h.1 21 _ (by decide)]
theorem dp_in {j1 j2 z : Nat} (hz : z < 1024) (hj : j2 ≤ 10) : ∀ (n i : Nat) (τ : St), i + n ≤ 100 → eq22 τ (M_m_orders_h33 n i τ j2 z j1) ∧ (∀ S, S ≠ z → gA (M_m_orders_h33 n i τ j2 z j1) 22 S = gA τ 22 S) ∧ (gA (M_m_orders_h33 n i τ j2 z j1) 22 z ≠ 0 → gA τ 22 z ≠ 0 ∨ ∃ k, k < j2 ∧ nxt τ j1 j2 z k) := by
  intro n
  induction n with
  | zero => intro i τ _; exact ⟨eq22.rf τ, fun _ _ => rfl, Or.inl⟩
  | succ n ih =>
    intro i τ hin
    rw [M_m_orders_h33]
    by_cases c : nI j2 ≤ nI i
    · rw [if_pos c]; exact ⟨eq22.rf τ, fun _ _ => rfl, Or.inl⟩
    rw [if_neg c, vb_eq, vb_eq]
    generalize hy : (if gA τ 22 z = 0 then _ else (1 : Int32)) = y
    obtain ⟨h1, h2, h3⟩ := ih (i + 1) (sA τ 22 z y) (by omega)
    have hs := eq22.set τ z y
    refine ⟨hs.trans h1, fun S hS => ?_, fun hne => ?_⟩
    · rw [h2 S hS, gA_sA, if_neg (fun q => hS q.2)]
    · rcases h3 hne with h | ⟨k, hk, h⟩
      · rw [gA_sA, if_pos ⟨rfl, rfl⟩] at h
        by_cases h0 : gA τ 22 z = 0
        · rw [if_pos h0] at hy
          by_cases b1 : (((nI z) >>> ((nI i) &&& 31)) &&& 1) = 0
          · by_cases b2 : gA τ 22 (z ||| 2 ^ i) = 0
            · rw [if_pos b1, if_pos b2, if_pos rfl] at hy; exact absurd hy.symm h
            · by_cases b3 : M_m_mayCome τ (nI j1) (gA τ 21 i) (M_m_methodsOf τ (nI z) (nI j2)) = 0
              · rw [if_pos b1, if_neg b2, if_pos b3, if_pos rfl] at hy; exact absurd hy.symm h
              · refine Or.inr ⟨i, ?_, b1, b2, b3⟩
                rcases Nat.lt_or_ge i j2 with q | q
                · exact q
                · exact absurd (nI_le q (by omega)) c
          · rw [if_neg b1, if_pos rfl] at hy; exact absurd hy.symm h
        · exact Or.inl h0
      · refine Or.inr ⟨k, hk, (nxt_eq hs ?_).mp h⟩
        rw [gA_sA, if_neg (fun q => or_ne (by omega) (by omega) h.1 q.2)]
theorem dp_out {j1 j2 : Nat} (hj : j2 ≤ 10) : ∀ (i : Nat) (τ : St), i ≤ 2 ^ j2 → (∀ S, i ≤ S → S < 2 ^ j2 → S ≠ 2 ^ j2 - 1 → gA τ 22 S ≠ 0 → ∃ k, k < j2 ∧ nxt τ j1 j2 S k) → eq22 τ (M_m_orders_h6 i τ j2 j1).2 ∧ (M_m_orders_h6 i τ j2 j1).1 = gA (M_m_orders_h6 i τ j2 j1).2 22 0 ∧ ∀ S, S < 2 ^ j2 → S ≠ 2 ^ j2 - 1 → gA (M_m_orders_h6 i τ j2 j1).2 22 S ≠ 0 → ∃ k, k < j2 ∧ nxt (M_m_orders_h6 i τ j2 j1).2 j1 j2 S k := by
  have hpw : 2 ^ j2 ≤ 1024 := pw_le (by omega)
  intro i
  induction i with
  | zero => intro τ _ h; rw [M_m_orders_h6]; exact ⟨eq22.rf τ, rfl, fun S h1 h2 h3 => h S (Nat.zero_le _) h1 h2 h3⟩
  | succ i ih =>
    intro τ hi h
    rw [M_m_orders_h6, vb_eq, vb_eq]
    generalize hy : (if nI i = nI (2 ^ j2 - 1) then (1 : Int32) else 0) = y
    obtain ⟨d1, d2, d3⟩ := dp_in (j1 := j1) (j2 := j2) (z := i) (by omega) hj 11 0 (sA τ 22 i y) (by decide)
    generalize M_m_orders_h33 11 0 (sA τ 22 i y) j2 i j1 = τ2 at d1 d2 d3
    have e2 := (eq22.set τ i y).trans d1
    obtain ⟨r1, r2, r3⟩ := ih τ2 (by omega) (fun S hS h1 h2 h3 => by
      by_cases e : S = i
      · subst e
        rcases d3 h3 with h4 | ⟨k, hk, h4⟩
        · rw [gA_sA, if_pos ⟨rfl, rfl⟩, ← hy, if_neg (fun q => h2 ((nI_eq (by omega) (by omega)).mp q))] at h4
          exact absurd rfl h4
        · exact ⟨k, hk, (nxt_eq d1 (d2 _ (or_ne (by omega) (by omega) h4.1))).mpr h4⟩
      · rw [d2 S e, gA_sA, if_neg (fun q => e q.2)] at h3
        obtain ⟨k, hk, h4⟩ := h S (by omega) h1 h2 h3
        have hge : S ≤ S ||| 2 ^ k := Nat.left_le_or
        refine ⟨k, hk, (nxt_eq e2 ?_).mpr h4⟩
        rw [d2 _ (by omega), gA_sA, if_neg (fun q => by omega)])
    exact ⟨e2.trans r1, r2, r3⟩
def cnt (c : Nat) : Nat := c % 2 + c / 2 % 2 + c / 4 % 2 + c / 8 % 2 + c / 16 % 2 + c / 32 % 2 + c / 64 % 2 + c / 128 % 2 + c / 256 % 2 + c / 512 % 2
theorem cnt_up : ∀ c, c < 1024 → ∀ k, k < 10 → c / 2 ^ k % 2 = 0 → cnt (c ||| 2 ^ k) = cnt c + 1 := by decide +kernel
theorem cnt_all : ∀ j, j < 11 → cnt (2 ^ j - 1) = j := by decide +kernel

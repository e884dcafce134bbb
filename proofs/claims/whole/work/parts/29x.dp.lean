/-! Plans of the reference: the table of ends says from which sets an order can be completed. -/
def eq22 (τ τ' : St) : Prop := (∀ p k, p ≠ 22 → gA τ' p k = gA τ p k) ∧ ∀ i j, gF τ' i j = gF τ i j
theorem eq22.rf (τ : St) : eq22 τ τ := ⟨fun _ _ _ => rfl, fun _ _ => rfl⟩
theorem eq22.trans {a b c : St} (h : eq22 a b) (g : eq22 b c) : eq22 a c := ⟨fun p k hp => (g.1 p k hp).trans (h.1 p k hp), fun i j => (g.2 i j).trans (h.2 i j)⟩
theorem eq22.set (τ : St) (j : Nat) (v : Int32) : eq22 τ (sA τ 22 j v) := ⟨fun p k hp => by rw [gA_sA, if_neg (fun q => hp q.1)], fun _ _ => rfl⟩
/-- all but the table and the plan is the same -/
def eqX (τ τ' : St) : Prop := ∀ p k, p ≠ 22 → p ≠ 20 → gA τ' p k = gA τ p k
theorem eq22.x {τ τ' : St} (h : eq22 τ τ') : eqX τ τ' := fun p k hp _ => h.1 p k hp
theorem eqX.set (τ : St) (j : Nat) (v : Int32) : eqX τ (sA τ 20 j v) := fun p k _ hp => by rw [gA_sA, if_neg (fun q => hp q.1)]
theorem has_eq {τ τ' : St} (h : eqX τ τ') : ∀ (n i : Nat) (x : Int32) (j : Nat) (a b : Int32), M_m_has_h9 n i x j τ' a b = M_m_has_h9 n i x j τ a b := by
  intro n
  induction n with
  | zero => intro i x j a b; rfl
  | succ n ih =>
    intro i x j a b
    rw [M_m_has_h9, M_m_has_h9, h 2 _ (by decide) (by decide), h 3 _ (by decide) (by decide), h 4 _ (by decide) (by decide)]
    simp only [vb_eq, ih]
theorem latest_eq {τ τ' : St} (h : eqX τ τ') : ∀ (n i : Nat) (x : Int32) (j : Nat) (a : Int32), M_m_latest_h8 n i x j τ' a = M_m_latest_h8 n i x j τ a := by
  intro n
  induction n with
  | zero => intro i x j a; rfl
  | succ n ih =>
    intro i x j a
    rw [M_m_latest_h8, M_m_latest_h8, h 10 _ (by decide) (by decide), h 11 _ (by decide) (by decide), h 12 _ (by decide) (by decide)]
    simp only [vb_eq, ih]
theorem hasM_eq {τ τ' : St} (h : eqX τ τ') (a b c : Int32) : M_m_has τ' a b c = M_m_has τ a b c := has_eq h _ _ _ _ _ _
theorem latM_eq {τ τ' : St} (h : eqX τ τ') (a b : Int32) : M_m_latest τ' a b = M_m_latest τ a b := latest_eq h _ _ _ _ _
theorem may_eq0 {τ τ' : St} (h : eqX τ τ') (j1 j2 : Nat) (a : Int32) : ∀ (n i : Nat) (x : Int32), M_m_mayCome_h6 n i x a τ' j1 j2 = M_m_mayCome_h6 n i x a τ j1 j2 := by
  intro n
  induction n with
  | zero => intro i x; rfl
  | succ n ih =>
    intro i x
    rw [M_m_mayCome_h6, M_m_mayCome_h6]
    simp only [latM_eq h, hasM_eq h, vb_eq, ih]
theorem may_eq {τ τ' : St} (h : eqX τ τ') (a b c : Int32) : M_m_mayCome τ' a b c = M_m_mayCome τ a b c := may_eq0 h _ _ _ _ _ _
theorem mOf_eq0 {τ τ' : St} (h : eqX τ τ') (a b : Int32) : ∀ (n i : Nat) (x : Int32), M_m_methodsOf_h5 n i x b a τ' = M_m_methodsOf_h5 n i x b a τ := by
  intro n
  induction n with
  | zero => intro i x; rfl
  | succ n ih =>
    intro i x
    rw [M_m_methodsOf_h5, M_m_methodsOf_h5, h 21 _ (by decide) (by decide)]
    simp only [vb_eq, ih]
theorem mOf_eq {τ τ' : St} (h : eqX τ τ') (a b : Int32) : M_m_methodsOf τ' a b = M_m_methodsOf τ a b := mOf_eq0 h _ _ _ _ _
/-- one step more may be done from set z by the k-th chosen -/
def nxt (τ : St) (j1 j2 z k : Nat) : Prop := ((nI z) >>> ((nI k) &&& 31)) &&& 1 = 0 ∧ gA τ 22 (z ||| 2 ^ k) ≠ 0 ∧ M_m_mayCome τ (nI j1) (gA τ 21 k) (M_m_methodsOf τ (nI z) (nI j2)) ≠ 0
theorem bit_nI {z k : Nat} (hz : z < 2 ^ 31) (hk : k < 32) : (((nI z) >>> ((nI k) &&& 31)) &&& 1) = nI (z / 2 ^ k % 2) := by
  have h31 : nI k &&& 31 = nI k := by
    have := pk_andN (n := k) (by omega) (m := 31) 5 (by decide)
    rw [this, Nat.mod_eq_of_lt hk]
  rw [h31, pk_shrN hz (nI k) k (by
    have : ∀ q, q < 32 → ((nI q).toBitVec.smod 32).toNat = q := by decide
    exact this k hk)]
  have h2 := pk_andN (n := z / 2 ^ k) (Nat.lt_of_le_of_lt (Nat.div_le_self _ _) (by omega)) (m := 1) 1 (by decide)
  rw [h2]
theorem or_ne {z k : Nat} (hz : z < 2 ^ 31) (hk : k < 32) (h : ((nI z) >>> ((nI k) &&& 31)) &&& 1 = 0) : z ||| 2 ^ k ≠ z := by
  rw [bit_nI hz hk] at h
  intro e
  have h1 : z / 2 ^ k % 2 = 0 := by
    have h3 : z / 2 ^ k % 2 < 2 := Nat.mod_lt _ (by decide)
    rcases Nat.lt_or_ge 0 (z / 2 ^ k % 2) with h4 | h4
    · exact absurd h (nI_ne0 h4 (by omega))
    · omega
  have h5 : z.testBit k = false := by
    rw [Nat.testBit_eq_decide_div_mod_eq]
    simp [h1]
  have h6 : (z ||| 2 ^ k).testBit k = true := by
    rw [Nat.testBit_or, Nat.testBit_two_pow_self]; simp
  rw [e, h5] at h6
  cases h6
theorem nxt_eq {τ τ' : St} {j1 j2 z k : Nat} (h : eqX τ τ') (he : gA τ' 22 (z ||| 2 ^ k) = gA τ 22 (z ||| 2 ^ k)) : nxt τ' j1 j2 z k ↔ nxt τ j1 j2 z k := by
  unfold nxt
  rw [he, may_eq h, mOf_eq h, h 21 _ (by decide) (by decide)]
theorem dp_in {j1 j2 z : Nat} (hz : z < 1024) (hj : j2 ≤ 10) : ∀ (n i : Nat) (τ : St), i + n ≤ 100 → eq22 τ (M_m_orders_h33 n i τ j2 z j1) ∧ (∀ S, S ≠ z → gA (M_m_orders_h33 n i τ j2 z j1) 22 S = gA τ 22 S) ∧ (gA (M_m_orders_h33 n i τ j2 z j1) 22 z ≠ 0 → gA τ 22 z ≠ 0 ∨ ∃ k, k < j2 ∧ nxt τ j1 j2 z k) := by
  intro n
  induction n with
  | zero => intro i τ _; exact ⟨eq22.rf τ, fun _ _ => rfl, Or.inl⟩
  | succ n ih =>
    intro i τ hin
    rw [M_m_orders_h33]
    by_cases c : nI j2 ≤ nI i
    · rw [if_pos c]; exact ⟨eq22.rf τ, fun _ _ => rfl, Or.inl⟩
    rw [if_neg c, vb_eq, vb_eq]
    generalize hy : (if gA τ 22 z = 0 then _ else (1 : Int32)) = y
    obtain ⟨h1, h2, h3⟩ := ih (i + 1) (sA τ 22 z y) (by omega)
    have hs := eq22.set τ z y
    refine ⟨hs.trans h1, fun S hS => ?_, fun hne => ?_⟩
    · rw [h2 S hS, gA_sA, if_neg (fun q => hS q.2)]
    · rcases h3 hne with h | ⟨k, hk, h⟩
      · rw [gA_sA, if_pos ⟨rfl, rfl⟩] at h
        by_cases h0 : gA τ 22 z = 0
        · rw [if_pos h0] at hy
          by_cases b1 : (((nI z) >>> ((nI i) &&& 31)) &&& 1) = 0
          · by_cases b2 : gA τ 22 (z ||| 2 ^ i) = 0
            · rw [if_pos b1, if_pos b2, if_pos rfl] at hy; exact absurd hy.symm h
            · by_cases b3 : M_m_mayCome τ (nI j1) (gA τ 21 i) (M_m_methodsOf τ (nI z) (nI j2)) = 0
              · rw [if_pos b1, if_neg b2, if_pos b3, if_pos rfl] at hy; exact absurd hy.symm h
              · refine Or.inr ⟨i, ?_, b1, b2, b3⟩
                rcases Nat.lt_or_ge i j2 with q | q
                · exact q
                · exact absurd (nI_le q (by omega)) c
          · rw [if_neg b1, if_pos rfl] at hy; exact absurd hy.symm h
        · exact Or.inl h0
      · refine Or.inr ⟨k, hk, (nxt_eq hs.x ?_).mp h⟩
        rw [gA_sA, if_neg (fun q => or_ne (by omega) (by omega) h.1 q.2)]
theorem dp_out {j1 j2 : Nat} (hj : j2 ≤ 10) : ∀ (i : Nat) (τ : St), i ≤ 2 ^ j2 → (∀ S, i ≤ S → S < 2 ^ j2 → S ≠ 2 ^ j2 - 1 → gA τ 22 S ≠ 0 → ∃ k, k < j2 ∧ nxt τ j1 j2 S k) → eq22 τ (M_m_orders_h6 i τ j2 j1).2 ∧ (M_m_orders_h6 i τ j2 j1).1 = gA (M_m_orders_h6 i τ j2 j1).2 22 0 ∧ ∀ S, S < 2 ^ j2 → S ≠ 2 ^ j2 - 1 → gA (M_m_orders_h6 i τ j2 j1).2 22 S ≠ 0 → ∃ k, k < j2 ∧ nxt (M_m_orders_h6 i τ j2 j1).2 j1 j2 S k := by
  have hpw : 2 ^ j2 ≤ 1024 := pw_le (by omega)
  intro i
  induction i with
  | zero => intro τ _ h; rw [M_m_orders_h6]; exact ⟨eq22.rf τ, rfl, fun S h1 h2 h3 => h S (Nat.zero_le _) h1 h2 h3⟩
  | succ i ih =>
    intro τ hi h
    rw [M_m_orders_h6, vb_eq, vb_eq]
    generalize hy : (if nI i = nI (2 ^ j2 - 1) then (1 : Int32) else 0) = y
    obtain ⟨d1, d2, d3⟩ := dp_in (j1 := j1) (j2 := j2) (z := i) (by omega) hj 11 0 (sA τ 22 i y) (by decide)
    generalize M_m_orders_h33 11 0 (sA τ 22 i y) j2 i j1 = τ2 at d1 d2 d3
    have e2 := (eq22.set τ i y).trans d1
    obtain ⟨r1, r2, r3⟩ := ih τ2 (by omega) (fun S hS h1 h2 h3 => by
      by_cases e : S = i
      · subst e
        rcases d3 h3 with h4 | ⟨k, hk, h4⟩
        · rw [gA_sA, if_pos ⟨rfl, rfl⟩, ← hy, if_neg (fun q => h2 ((nI_eq (by omega) (by omega)).mp q))] at h4
          exact absurd rfl h4
        · exact ⟨k, hk, (nxt_eq d1.x (d2 _ (or_ne (by omega) (by omega) h4.1))).mpr h4⟩
      · rw [d2 S e, gA_sA, if_neg (fun q => e q.2)] at h3
        obtain ⟨k, hk, h4⟩ := h S (by omega) h1 h2 h3
        have hge : S ≤ S ||| 2 ^ k := Nat.left_le_or
        refine ⟨k, hk, (nxt_eq e2.x ?_).mpr h4⟩
        rw [d2 _ (by omega), gA_sA, if_neg (fun q => by omega)])
    exact ⟨e2.trans r1, r2, r3⟩
def cnt (c : Nat) : Nat := c % 2 + c / 2 % 2 + c / 4 % 2 + c / 8 % 2 + c / 16 % 2 + c / 32 % 2 + c / 64 % 2 + c / 128 % 2 + c / 256 % 2 + c / 512 % 2
theorem cnt_up : ∀ c, c < 1024 → ∀ k, k < 10 → c / 2 ^ k % 2 = 0 → cnt (c ||| 2 ^ k) = cnt c + 1 := by decide +kernel
theorem cnt_all : ∀ j, j < 11 → cnt (2 ^ j - 1) = j := by decide +kernel

/-- the least from k on by which one can go on -/
def pl181 : Nat → Nat → St → Nat → Nat → Nat → Nat
  | 0, k, _, _, _, _ => k
  | n + 1, k, τ, j1, j2, z => if ((nI z) >>> ((nI k) &&& 31)) &&& 1 = 0 then (if gA τ 22 (z ||| 2 ^ k) = 0 then pl181 n (k + 1) τ j1 j2 z else (if M_m_mayCome τ (nI j1) (gA τ 21 k) (M_m_methodsOf τ (nI z) (nI j2)) = 0 then pl181 n (k + 1) τ j1 j2 z else k)) else pl181 n (k + 1) τ j1 j2 z
theorem pl181_y {n k : Nat} {τ : St} {j1 j2 z : Nat} (h : nxt τ j1 j2 z k) : pl181 (n + 1) k τ j1 j2 z = k := by
  rw [pl181, if_pos h.1, if_neg h.2.1, if_neg h.2.2]
theorem pl181_n {n k : Nat} {τ : St} {j1 j2 z : Nat} (h : ¬ nxt τ j1 j2 z k) : pl181 (n + 1) k τ j1 j2 z = pl181 n (k + 1) τ j1 j2 z := by
  rw [pl181]
  by_cases a : ((nI z) >>> ((nI k) &&& 31)) &&& 1 = 0
  · by_cases b : gA τ 22 (z ||| 2 ^ k) = 0
    · rw [if_pos a, if_pos b]
    · by_cases c : M_m_mayCome τ (nI j1) (gA τ 21 k) (M_m_methodsOf τ (nI z) (nI j2)) = 0
      · rw [if_pos a, if_neg b, if_pos c]
      · exact absurd ⟨a, b, c⟩ h
  · rw [if_neg a]
def pl171 : Nat → Nat → Nat → St → Nat → Nat → St
  | 0, _, _, τ, _, _ => τ
  | n + 1, s, z, τ, j1, j2 => if j2 ≤ s then τ else pl171 n (s + 1) (z ||| 2 ^ (pl181 11 0 τ j1 j2 z)) (sA τ 20 s (gA τ 21 (pl181 11 0 τ j1 j2 z))) j1 j2
def T_plan (τ : St) (p1 n : Int32) : Int32 × St := (n, sF (pl171 11 0 0 τ p1.toNatClampNeg n.toNatClampNeg) 0 23 n)
def DP (τ : St) (j1 j2 : Nat) : Prop := ∀ S, S < 2 ^ j2 → S ≠ 2 ^ j2 - 1 → gA τ 22 S ≠ 0 → ∃ k, k < j2 ∧ nxt τ j1 j2 S k
theorem DP.set {τ : St} {j1 j2 s : Nat} {v : Int32} (h : DP τ j1 j2) : DP (sA τ 20 s v) j1 j2 := fun S h1 h2 h3 => by
  rw [gA_sA, if_neg (fun q => absurd q.1 (by decide))] at h3
  obtain ⟨k, hk, hn⟩ := h S h1 h2 h3
  exact ⟨k, hk, (nxt_eq (eqX.set τ s v) (by rw [gA_sA, if_neg (fun q => absurd q.1 (by decide))])).mpr hn⟩
theorem bit_0 {z k : Nat} (hz : z < 2 ^ 31) (hk : k < 32) (c : ¬ ((nI z) >>> ((nI k) &&& 31)) &&& 1 = 1) : ((nI z) >>> ((nI k) &&& 31)) &&& 1 = 0 := by
  rw [bit_nI hz hk] at c ⊢
  have h3 : z / 2 ^ k % 2 < 2 := Nat.mod_lt _ (by decide)
  have : z / 2 ^ k % 2 = 0 := by
    rcases Nat.lt_or_ge (z / 2 ^ k % 2) 1 with h | h
    · omega
    · exact absurd (by rw [show z / 2 ^ k % 2 = 1 by omega]; rfl) c
  rw [this]; rfl
theorem nxt_bit {τ : St} {j1 j2 z k : Nat} (hz : z < 2 ^ 31) (hk : k < 32) (h : nxt τ j1 j2 z k) : z / 2 ^ k % 2 = 0 := by
  have h1 := h.1
  rw [bit_nI hz hk] at h1
  have h3 : z / 2 ^ k % 2 < 2 := Nat.mod_lt _ (by decide)
  rcases Nat.lt_or_ge 0 (z / 2 ^ k % 2) with h4 | h4
  · exact absurd h1 (nI_ne0 h4 (by omega))
  · omega
theorem nI_le' {a b : Nat} (c : nI a ≤ nI b) (ha : a < 2 ^ 31) (hb : b < 2 ^ 31) : a ≤ b := by
  have h := Int32.le_iff_toInt_le.mp c
  rw [nI_toInt ha, nI_toInt hb] at h
  omega
theorem i1_toInt {x : Int32} {i : Nat} (h : 0 ≤ x.toInt ∧ x.toInt ≤ ((i : Nat) : Int)) (hi : i < 1000) : (x + 1).toInt = x.toInt + 1 := by
  rw [Int32.toInt_add, show (1 : Int32).toInt = 1 by decide]
  apply Int.bmod_eq_of_le <;> omega
theorem pl_n {x : Int32} {i : Nat} (h : 0 ≤ x.toInt ∧ x.toInt ≤ ((i : Nat) : Int)) (hi : i < 12) : 0 ≤ (x + 1).toInt ∧ (x + 1).toInt ≤ ((i + 1 : Nat) : Int) := by
  rw [i1_toInt h (by omega)]; omega
theorem pl_ch1 {τ : St} {x : Int32} {i : Nat} (c : (10 : Int32) ≤ x) (hx : 0 ≤ x.toInt ∧ x.toInt ≤ ((i : Nat) : Int)) (hi : i < 12) (h : ∀ k : Nat, k < 10 → (k : Int) < x.toInt → vp_in (gA τ 21 k) 12) : ∀ k : Nat, k < 10 → (k : Int) < (x + 1).toInt → vp_in (gA τ 21 k) 12 := fun k hk _ => by
  have h1 := Int32.le_iff_toInt_le.mp c
  rw [show (10 : Int32).toInt = 10 by decide] at h1
  exact h k hk (by omega)
theorem pl_ob {x : Int32} {i : Nat} (c : ¬ (10 : Int32) ≤ x) (hx : 0 ≤ x.toInt ∧ x.toInt ≤ ((i : Nat) : Int)) : vp_in x 10 := by
  have h1 := nle_toInt c
  rw [show (10 : Int32).toInt = 10 by decide] at h1
  exact vin_of hx.1 (by omega)
theorem pl_ch2 {τ : St} {x : Int32} {i : Nat} (c : ¬ (10 : Int32) ≤ x) (hx : 0 ≤ x.toInt ∧ x.toInt ≤ ((i : Nat) : Int)) (hi : i < 12) (h : ∀ k : Nat, k < 10 → (k : Int) < x.toInt → vp_in (gA τ 21 k) 12) : ∀ k : Nat, k < 10 → (k : Int) < (x + 1).toInt → vp_in (gA (sA τ 21 x.toNatClampNeg (nI i)) 21 k) 12 := fun k hk hk2 => by
  rw [i1_toInt hx (by omega)] at hk2
  obtain ⟨j, hj, e, ec⟩ := vin_nI (pl_ob c hx) (by decide)
  rw [gA_sA, ec]
  by_cases q : k = j
  · rw [if_pos ⟨rfl, q⟩]; exact vp_in_nI hi (by decide)
  · rw [if_neg (fun w => q w.2)]
    refine h k hk ?_
    rw [e, nI_toInt (by omega)] at hk2 ⊢
    omega
theorem pl_n11 {x : Int32} (h0 : 0 ≤ x.toInt) (c : x ≤ 10) : vp_in x 11 := by
  have h1 := Int32.le_iff_toInt_le.mp c
  rw [show (10 : Int32).toInt = 10 by decide] at h1
  exact vin_of h0 (by omega)
theorem pl_hc {τ : St} {x : Int32} (h0 : 0 ≤ x.toInt) (c : x ≤ 10) (h : ∀ k : Nat, k < 10 → (k : Int) < x.toInt → vp_in (gA τ 21 k) 12) : ∀ k, k < x.toNatClampNeg → vp_in (gA τ 21 k) 12 := fun k hk => by
  obtain ⟨j, hj, e, ec⟩ := vin_nI (pl_n11 h0 c) (by decide)
  rw [ec] at hk
  exact h k (by omega) (by rw [e, nI_toInt (by omega)]; omega)
theorem ord_I {j1 j2 : Nat} : ∀ (i : Nat) (τ : St), IM τ → IM (M_m_orders_h6 i τ j2 j1).2 := by
  intro i
  induction i with
  | zero => intro τ h; exact h
  | succ i ih =>
    intro τ h
    rw [M_m_orders_h6, vb_eq, vb_eq]
    generalize hy : (if nI i = nI (2 ^ j2 - 1) then (1 : Int32) else 0) = y
    have hb : y = 0 ∨ y = 1 := by
      rw [← hy]; (repeat' split) <;> first | exact Or.inl rfl | exact Or.inr rfl
    exact ih _ (ord_keep0 11 0 _ (h.k22 hb)).1
theorem pl_ord {τ σ1 : St} {r : Int32} {j1 j2 : Nat} (h1 : j1 < 10) (h2 : j2 < 11) (hI : IM τ) (hc : ∀ k, k < (nI j2).toNatClampNeg → vp_in (gA τ 21 k) 12) (h : (r, σ1) = M_m_orders τ (nI j1) (nI j2)) (hr : ¬ r = 0) : IM σ1 ∧ (∀ k, k < j2 → vp_in (gA σ1 21 k) 12) ∧ DP σ1 j1 j2 ∧ gA σ1 22 0 ≠ 0 := by
  rw [M_m_orders, nI_clamp (n := j1) (by omega), nI_clamp (n := j2) (by omega), N_m_orders] at h
  obtain ⟨a, b, c⟩ := dp_out (j1 := j1) (j2 := j2) (by omega) (2 ^ j2) τ (Nat.le_refl _) (fun S q1 q2 => by omega)
  have hi := ord_I (j1 := j1) (j2 := j2) (2 ^ j2) τ hI
  rw [← h] at a b c hi
  refine ⟨hi, fun k hk => ?_, c, ?_⟩
  · rw [a.1 21 k (by decide)]; exact hc k (by rw [nI_clamp (by omega)]; exact hk)
  · exact fun q => hr ((show r = gA σ1 22 0 from b).trans q)

/-! rows; what the reference's loops say of clauses and rows -/
theorem i_p1 {p : Int32} (h : ¬ p < 0) : ¬ p < -1 := fun q => h (Int32.lt_iff_toInt_lt.mpr (by
  have := lt_toInt q
  rw [show (-1 : Int32).toInt = -1 by decide] at this
  rw [show (0 : Int32).toInt = 0 by decide]; omega))
theorem i_m1 {p : Int32} (h : p < 0) (h1 : ¬ p = -1) : p < -1 := by
  have h2 := lt_toInt h
  have h3 : p.toInt ≠ (-1 : Int32).toInt := fun q => h1 (Int32.toInt_inj.mp q)
  rw [show (-1 : Int32).toInt = -1 by decide] at h3
  rw [show (0 : Int32).toInt = 0 by decide] at h2
  exact Int32.lt_iff_toInt_lt.mpr (by rw [show (-1 : Int32).toInt = -1 by decide]; omega)
theorem w_3 : ∀ w, w < 4 → (if nI w < 0 then (0 : Int32) else (if 3 < nI w then 0 else 1)) = 1 := by decide
theorem sim_row : S_row Rel := by
  intro σ μ p1 p2 p3 hR
  have h0 : Rel σ (sF μ 0 0 0) := hR.k0
  rcases obj hR p1 with ⟨a, b⟩ | ⟨j, hj, rfl, hlt, a, b⟩
  · have hB : M_row σ p1 p2 p3 = .error "java/lang/IndexOutOfBoundsException" := by unfold M_row; rw [b]; rfl
    have hM : M_m_row μ p1 p2 p3 = (0, sF μ 0 0 1) := by unfold M_m_row; simp only [vb_eq]; rw [a, if_pos rfl, if_pos rfl, goes_1 rfl, pb_mk, if_pos rfl]
    rw [hB, hM]; exact ⟨rfl, hR.k0⟩
  have hc : (nI j).toNatClampNeg = j := nI_clamp (by omega)
  obtain ⟨hn, en⟩ := nr_le hR.im hj
  have hMg : M_m_row μ (nI j) p2 p3 = pb (M_m_goes μ (if (if p2 < (-1) then (0 : Int32) else (if p3 < 0 then 0 else (if 3 < p3 then 0 else 1))) = 0 then 0 else if nI (nr μ j) ≤ p2 then 0 else 1) 1 1) (fun r10 σ11 => if r10 = 0 then (0, σ11) else ((if p2 = (-1) then gA σ11 10 j else if p3 = 0 then gA σ11 11 ((30 * nI j) + p2).toNatClampNeg else if p3 = 1 then gA σ11 12 ((30 * nI j) + p2).toNatClampNeg else if p3 = 2 then gA σ11 13 ((30 * nI j) + p2).toNatClampNeg else gA σ11 14 ((30 * nI j) + p2).toNatClampNeg), σ11)) := by
    unfold M_m_row
    simp only [vb_eq]
    rw [a, if_neg (show ¬ (1 : Int32) = 0 by decide), hc, en]
  obtain ⟨q1, q2, -⟩ := (hR.pi hj).2
  rw [en] at q1
  have hBg : M_row σ (nI j) p2 p3 = xb (M_checkPlace σ p3 4) (fun _ => if p2 = (-1) then .ok (nI (nr μ j)) else xb (M_checkPlace σ p2 (nI (nr μ j))) (fun _ => .ok (gA σ (pPi j + 2) ((p2 * 4) + p3).toNatClampNeg))) := by
    unfold M_row
    rw [b, xb_ok, q1]
  rcases plc (σ := σ) (N := 4) p3 (by decide) with ⟨a3, b3⟩ | ⟨w, hw, rfl, a3, b3⟩
  · have hy : (if p2 < (-1) then (0 : Int32) else (if p3 < 0 then 0 else (if 3 < p3 then 0 else 1))) = 0 := by
      by_cases c : p2 < (-1)
      · rw [if_pos c]
      · rw [if_neg c]
        by_cases c2 : p3 < 0
        · rw [if_pos c2]
        · rw [if_neg c2]
          unfold M_m_below vb at a3
          rw [if_neg c2] at a3
          have c3 : nI 4 ≤ p3 := by
            by_cases q : nI 4 ≤ p3
            · exact q
            · rw [if_neg q] at a3; cases a3
          have := le_toInt c3
          rw [nI_toInt (by decide)] at this
          rw [if_pos (Int32.lt_iff_toInt_lt.mpr (by rw [show (3 : Int32).toInt = 3 by decide]; omega))]
    rw [hBg, show (4 : Int32) = nI 4 from rfl, b3, hMg, hy, if_pos rfl, goes_1 rfl, pb_mk, if_pos rfl]
    exact ⟨rfl, hR.k0⟩
  · have hw3 : (if nI w < 0 then (0 : Int32) else (if 3 < nI w then 0 else 1)) = 1 := w_3 w hw
    rw [hBg, show (4 : Int32) = nI 4 from rfl, b3, xb_ok, hMg, hw3]
    by_cases c0 : p2 = -1
    · subst c0
      have h9 : ¬ nI (nr μ j) ≤ -1 := fun q => by have := le_toInt q; rw [nI_toInt (by omega), show (-1 : Int32).toInt = -1 by decide] at this; omega
      rw [if_neg (show ¬ (-1 : Int32) < -1 by decide), if_neg (show ¬ (1 : Int32) = 0 by decide), if_neg h9, goes_0 (by decide) (by decide) (by decide), pb_mk, if_neg (show ¬ (1 : Int32) = 0 by decide), if_pos rfl, if_pos rfl, gA_sF, en]
      exact ⟨rfl, rfl, h0⟩
    rw [if_neg c0]
    rcases plc (σ := σ) (N := nr μ j) p2 (by omega) with ⟨a4, b4⟩ | ⟨k, hk, rfl, a4, b4⟩
    · have hy : (if (if p2 < (-1) then (0 : Int32) else 1) = 0 then (0 : Int32) else if nI (nr μ j) ≤ p2 then 0 else 1) = 0 := by
        by_cases c1 : p2 < 0
        · rw [if_pos (i_m1 c1 c0), if_pos rfl]
        · rw [if_neg (i_p1 c1), if_neg (show ¬ (1 : Int32) = 0 by decide)]
          unfold M_m_below vb at a4
          rw [if_neg c1] at a4
          exact a4
      rw [b4, hy, goes_1 rfl, pb_mk, if_pos rfl]
      exact ⟨rfl, hR.k0⟩
    · have h1 : ¬ nI k < -1 := i_p1 (nI_pos (by omega))
      rw [b4, xb_ok, if_neg h1, if_neg (show ¬ (1 : Int32) = 0 by decide), if_neg (nI_lt' hk (by omega)), goes_0 (by decide) (by decide) (by decide), pb_mk, if_neg (show ¬ (1 : Int32) = 0 by decide), if_neg c0, ixN (k := 30) (K := 30) (a := j) (b := k) rfl (by omega)]
      have e4 : (nI k * nI 4 + nI w).toNatClampNeg = 4 * k + w := by
        rw [pk_mul k 4, nI_add (k * 4) w, nI_clamp (by omega)]; omega
      rw [e4]
      obtain ⟨v0, v1, v2, v3⟩ := q2 k (by omega)
      refine ⟨rfl, ?_, h0⟩
      show (gA σ (pPi j + 2) (4 * k + w)).toInt64 = _
      rcases (show w = 0 ∨ w = 1 ∨ w = 2 ∨ w = 3 by omega) with rfl | rfl | rfl | rfl
      · exact congrArg Int32.toInt64 v0
      · exact congrArg Int32.toInt64 v1
      · exact congrArg Int32.toInt64 v2
      · exact congrArg Int32.toInt64 v3
/-! loops over clauses and rows, as folds -/
def hs (L N x : Int32) (c : Cl) : Int32 := if x = 0 then (if c.1 = L then (if N = (-1) then 1 else (if c.2.1 = N then 1 else 0)) else 0) else 1
theorem nI_bd {K j r : Nat} {x : Int32} (hx : x = nI r) : nI (K * j) + x = nI (K * j + r) := by rw [hx, nI_add]
theorem has_f {μ : St} {j r : Nat} {L N : Int32} (hr : gA μ 2 j = nI r) (hj : 10 * j + r < 2 ^ 30) : ∀ (d n k : Nat) (x : Int32), k + d = r → d < n → M_m_has_h9 n (10 * j + k) x j μ L N = ((List.range' k d).map (fun k => cl1 μ (10 * j + k))).foldl (hs L N) x := by
  intro d
  induction d with
  | zero =>
    intro n k x hk hn
    obtain ⟨n, rfl⟩ : ∃ m, n = m + 1 := ⟨n - 1, by omega⟩
    rw [M_m_has_h9, nI_bd hr, if_pos (nI_le (by omega) (by omega))]
    rfl
  | succ d ih =>
    intro n k x hk hn
    obtain ⟨n, rfl⟩ : ∃ m, n = m + 1 := ⟨n - 1, by omega⟩
    rw [M_m_has_h9, nI_bd hr, if_neg (nI_lt' (by omega) (by omega)), vb_eq, List.range'_succ, List.map_cons, List.foldl_cons, show 10 * j + k + 1 = 10 * j + (k + 1) by omega, ih n (k + 1) _ (by omega) (by omega)]
    rfl
theorem used_f {μ : St} {j r : Nat} {g : Int32} (hr : gA μ 2 j = nI r) (hj : 10 * j + r < 2 ^ 30) : ∀ (d n k : Nat) (x : Int32), k + d = r → d < n → M_m_used_h8 n (10 * j + k) x j μ g = ((List.range' k d).map (fun k => cl1 μ (10 * j + k))).foldl (fun a c => if c.1 = 117 ∧ c.2.1 = g then a + c.2.2 else a) x := by
  intro d
  induction d with
  | zero =>
    intro n k x hk hn
    obtain ⟨n, rfl⟩ : ∃ m, n = m + 1 := ⟨n - 1, by omega⟩
    rw [M_m_used_h8, nI_bd hr, if_pos (nI_le (by omega) (by omega))]
    rfl
  | succ d ih =>
    intro n k x hk hn
    obtain ⟨n, rfl⟩ : ∃ m, n = m + 1 := ⟨n - 1, by omega⟩
    rw [M_m_used_h8, nI_bd hr, if_neg (nI_lt' (by omega) (by omega)), vb_eq, List.range'_succ, List.map_cons, List.foldl_cons, show 10 * j + k + 1 = 10 * j + (k + 1) by omega, ih n (k + 1) _ (by omega) (by omega)]
    congr 1
    show (if gA μ 3 (10 * j + k) = 117 then (if gA μ 4 (10 * j + k) = g then x + gA μ 5 (10 * j + k) else x) else x) = if gA μ 3 (10 * j + k) = 117 ∧ gA μ 4 (10 * j + k) = g then x + gA μ 5 (10 * j + k) else x
    by_cases c1 : gA μ 3 (10 * j + k) = 117
    · by_cases c2 : gA μ 4 (10 * j + k) = g
      · rw [if_pos c1, if_pos c2, if_pos ⟨c1, c2⟩]
      · rw [if_pos c1, if_neg c2, if_neg (fun q => c2 q.2)]
    · rw [if_neg c1, if_neg (fun q => c1 q.1)]
theorem lat_f {μ : St} {o r : Nat} {z : Int32} (hr : gA μ 10 o = nI r) (ho : 30 * o + r < 2 ^ 30) : ∀ (d n k : Nat) (x : Int32), k + d = r → d < n → M_m_latest_h8 n (30 * o + k) x o μ z = (List.range' k d).foldl (fun a k => if gA μ 11 (30 * o + k) = z then gA μ 12 (30 * o + k) else a) x := by
  intro d
  induction d with
  | zero =>
    intro n k x hk hn
    obtain ⟨n, rfl⟩ : ∃ m, n = m + 1 := ⟨n - 1, by omega⟩
    rw [M_m_latest_h8, nI_bd hr, if_pos (nI_le (by omega) (by omega))]
    rfl
  | succ d ih =>
    intro n k x hk hn
    obtain ⟨n, rfl⟩ : ∃ m, n = m + 1 := ⟨n - 1, by omega⟩
    rw [M_m_latest_h8, nI_bd hr, if_neg (nI_lt' (by omega) (by omega)), vb_eq, List.range'_succ, List.foldl_cons, show 30 * o + k + 1 = 30 * o + (k + 1) by omega, ih n (k + 1) _ (by omega) (by omega)]
theorem hs_1 {L N : Int32} : ∀ (cs : List Cl), cs.foldl (hs L N) 1 = 1 := by
  intro cs
  induction cs with
  | nil => rfl
  | cons c cs ih => rw [List.foldl_cons]; exact ih
theorem hs_C {L N : Int32} (hN : ¬ N = -1) : ∀ (cs : List Cl), cs.foldl (hs L N) 0 = if anyC cs L N then 1 else 0 := by
  intro cs
  induction cs with
  | nil => rfl
  | cons c cs ih =>
    rw [List.foldl_cons]
    unfold anyC at ih ⊢
    rw [List.any_cons]
    unfold hs at ih ⊢
    rw [if_pos rfl, if_neg hN]
    by_cases c1 : c.1 = L
    · by_cases c2 : c.2.1 = N
      · rw [if_pos c1, if_pos c2]
        simp only [c1, c2, decide_true, Bool.and_true, Bool.true_or, if_true]
        exact hs_1 cs
      · rw [if_pos c1, if_neg c2]
        simp only [c2, decide_false, Bool.and_false, Bool.false_or]
        exact ih
    · rw [if_neg c1]
      simp only [c1, decide_false, Bool.false_and, Bool.false_or]
      exact ih
theorem hs_L {L : Int32} : ∀ (cs : List Cl), cs.foldl (hs L (-1)) 0 = if anyL cs L then 1 else 0 := by
  intro cs
  induction cs with
  | nil => rfl
  | cons c cs ih =>
    rw [List.foldl_cons]
    unfold anyL at ih ⊢
    rw [List.any_cons, show hs L (-1) 0 c = if c.1 = L then 1 else 0 from rfl]
    by_cases c1 : c.1 = L
    · rw [if_pos c1]
      simp only [c1, decide_true, Bool.true_or, if_true]
      exact hs_1 cs
    · rw [if_neg c1]
      simp only [c1, decide_false, Bool.false_or]
      exact ih
theorem m_has_C {μ : St} (hI : IM μ) {m : Nat} (hm : m < 12) {L N : Int32} (hN : ¬ N = -1) : M_m_has μ (nI m) L N = if anyC (CL μ m (nm μ m)) L N then 1 else 0 := by
  obtain ⟨a, b⟩ := nm_le hI hm
  rw [← hs_C hN]
  unfold M_m_has N_m_has CL
  rw [nI_clamp (by omega), List.range_eq_range']
  exact has_f b (by omega) (nm μ m) 11 0 0 (by omega) (by omega)
theorem m_has_L {μ : St} (hI : IM μ) {m : Nat} (hm : m < 12) {L : Int32} : M_m_has μ (nI m) L (-1) = if anyL (CL μ m (nm μ m)) L then 1 else 0 := by
  obtain ⟨a, b⟩ := nm_le hI hm
  rw [← hs_L]
  unfold M_m_has N_m_has CL
  rw [nI_clamp (by omega), List.range_eq_range']
  exact has_f b (by omega) (nm μ m) 11 0 0 (by omega) (by omega)
theorem m_used {μ : St} (hI : IM μ) {m : Nat} (hm : m < 12) {g : Int32} : M_m_used μ (nI m) g = usum (CL μ m (nm μ m)) g := by
  obtain ⟨a, b⟩ := nm_le hI hm
  unfold M_m_used N_m_used CL usum
  rw [nI_clamp (by omega), List.range_eq_range']
  exact used_f b (by omega) (nm μ m) 11 0 0 (by omega) (by omega)
theorem m_lat {μ : St} (hI : IM μ) {o : Nat} (ho : o < 10) {z : Int32} : M_m_latest μ (nI o) z = lat μ o (nr μ o) z := by
  obtain ⟨a, b⟩ := nr_le hI ho
  unfold M_m_latest N_m_latest lat
  rw [nI_clamp (by omega), List.range_eq_range']
  exact lat_f b (by omega) (nr μ o) 31 0 (-1) (by omega) (by omega)
theorem nI_m1 {a : Nat} (h : a < 2 ^ 31) : ¬ nI a = -1 := fun e => by
  have := congrArg Int32.toInt e
  rw [nI_toInt h, show (-1 : Int32).toInt = -1 by decide] at this
  omega

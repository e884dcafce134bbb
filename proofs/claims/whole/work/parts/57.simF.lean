/-! uses and reasons -/
theorem sim_uses : S_uses Rel := by
  intro σ μ p1 p2 hR
  have h0 : Rel σ (sF μ 0 0 0) := hR.k0
  rcases meth hR p1 with ⟨a, b⟩ | ⟨m, hm, rfl, hlt, a, b⟩
  · have hB : M_uses σ p1 p2 = .error "java/lang/IndexOutOfBoundsException" := by unfold M_uses; rw [b]; rfl
    have hM : M_m_uses μ p1 p2 = (0, sF μ 0 0 1) := by unfold M_m_uses; simp only [vb_eq]; rw [a, if_pos rfl, goes_1 rfl, pb_mk, if_pos rfl]
    rw [hB, hM]; exact ⟨rfl, hR.k0⟩
  rcases plc (σ := σ) (N := 12) p2 (by decide) with ⟨a2, b2⟩ | ⟨g, hg, rfl, a2, b2⟩
  · have hB : M_uses σ (nI m) p2 = .error "java/lang/IndexOutOfBoundsException" := by unfold M_uses; rw [b, xb_ok, show (12 : Int32) = nI 12 from rfl, b2]; rfl
    have hM : M_m_uses μ (nI m) p2 = (0, sF μ 0 0 1) := by unfold M_m_uses; simp only [vb_eq]; rw [a, if_neg (show ¬ (1 : Int32) = 0 by decide), show M_m_below p2 12 = 0 from a2, if_pos rfl, goes_1 rfl, pb_mk, if_pos rfl]
    rw [hB, hM]; exact ⟨rfl, hR.k0⟩
  have fr := (h0.me hm).2 hlt
  have hB : M_uses σ (nI m) (nI g) = .ok (usum (CL (sF μ 0 0 0) m (nm (sF μ 0 0 0) m)) (nI g)) := by
    unfold M_uses
    rw [b, xb_ok, show (12 : Int32) = nI 12 from rfl, b2, xb_ok, nI_clamp (by omega), fr.2.2.2.2.2.2.1 g hg]
  have hM : M_m_uses μ (nI m) (nI g) = (usum (CL (sF μ 0 0 0) m (nm (sF μ 0 0 0) m)) (nI g), sF μ 0 0 0) := by
    unfold M_m_uses; simp only [vb_eq]
    rw [a, if_neg (show ¬ (1 : Int32) = 0 by decide), show M_m_below (nI g) 12 = 1 from a2, if_neg (show ¬ (1 : Int32) = 0 by decide), goes_0 (by decide) (by decide) (by decide), pb_mk, if_neg (show ¬ (1 : Int32) = 0 by decide), m_used h0.im hm]
  rw [hB, hM]; exact ⟨rfl, rfl, h0⟩
theorem bar_eq {σ μ : St} (hR : Rel σ μ) {o m : Nat} (ho : o < 10) (hm : m < 12) (hlt : (m : Int) < (gF μ 0 3).toInt) : ∀ (n i : Nat), i + n ≤ 100 → M_m_barred_h2 n i μ o m = M_firstPartOf_h2 n i σ o (gF σ (pMe m) 2) := by
  obtain ⟨hn, en⟩ := np_le hR.im ho
  obtain ⟨r1, r2, r3, r4, r5⟩ := (hR.pi ho).1
  have fr := (hR.me hm).2 hlt
  intro n
  induction n with
  | zero => intro i _; rfl
  | succ n ih =>
    intro i hi
    rw [M_m_barred_h2, M_firstPartOf_h2, r1, en, ih (i + 1) (by omega)]
    by_cases c : nI (np μ o) ≤ nI i
    · rw [if_pos c, if_pos c]
    · have hlt2 := nI_ngt c (by omega) (by omega)
      rw [if_neg c, if_neg c, r2 i (by omega)]
      obtain ⟨z, hz, ez, -⟩ := vin_nI (r3 i hlt2) (by decide)
      rw [ez, m_has_C hR.im hm (nI_m1 (by omega)), has_bt _ (by omega), fr.1 z (by omega)]
theorem m_barred {σ μ : St} (hR : Rel σ μ) {o m : Nat} (ho : o < 10) (hm : m < 12) (hlt : (m : Int) < (gF μ 0 3).toInt) : M_m_barred μ (nI o) (nI m) = M_firstPartOf σ o (gF σ (pMe m) 2) := by
  unfold M_m_barred N_m_barred M_firstPartOf
  rw [nI_clamp (by omega), nI_clamp (by omega)]
  exact bar_eq hR ho hm hlt 9 0 (by decide)
/-! waiting -/
def wtC (lt z h : Int32) (c : Cl) : Bool := decide (c.1 = 97) && (decide (c.2.1 = z) && (decide (lt = -1) || !decide (lt + c.2.2 ≤ h)))
def wst (lt z h x : Int32) (c : Cl) : Int32 := if x = 0 then (if wtC lt z h c then 1 else 0) else 1
theorem waits_f {μ : St} {j r o : Nat} {z h : Int32} (hr : gA μ 2 j = nI r) (hj : 10 * j + r < 2 ^ 30) : ∀ (d n k : Nat) (x : Int32), k + d = r → d < n → M_m_waits_h9 n (10 * j + k) x j μ z o h = ((List.range' k d).map (fun k => cl1 μ (10 * j + k))).foldl (wst (M_m_latest μ (nI o) z) z h) x := by
  intro d
  induction d with
  | zero =>
    intro n k x hk hn
    obtain ⟨n, rfl⟩ : ∃ m, n = m + 1 := ⟨n - 1, by omega⟩
    rw [M_m_waits_h9, nI_bd hr, if_pos (nI_le (by omega) (by omega))]
    rfl
  | succ d ih =>
    intro n k x hk hn
    obtain ⟨n, rfl⟩ : ∃ m, n = m + 1 := ⟨n - 1, by omega⟩
    rw [M_m_waits_h9, nI_bd hr, if_neg (nI_lt' (by omega) (by omega)), vb_eq, vb_eq, List.range'_succ, List.map_cons, List.foldl_cons, show 10 * j + k + 1 = 10 * j + (k + 1) by omega, ih n (k + 1) _ (by omega) (by omega)]
    generalize M_m_latest μ (nI o) z = lt
    have e : (if x = 0 then (if (if gA μ 3 (10 * j + k) = 97 then (if gA μ 4 (10 * j + k) = z then (1 : Int32) else 0) else 0) = 0 then (0 : Int32) else (if lt = (-1) then 1 else (if lt + gA μ 5 (10 * j + k) ≤ h then 0 else 1))) else 1) = wst lt z h x (cl1 μ (10 * j + k)) := by
      unfold wst wtC cl1
      by_cases c0 : x = 0
      · rw [if_pos c0, if_pos c0]
        by_cases c1 : gA μ 3 (10 * j + k) = 97
        · by_cases c2 : gA μ 4 (10 * j + k) = z
          · rw [if_pos c1, if_pos c2, if_neg (show ¬ (1 : Int32) = 0 by decide)]
            by_cases c3 : lt = -1
            · simp [c1, c2, c3]
            · by_cases c4 : lt + gA μ 5 (10 * j + k) ≤ h
              · simp [c1, c2, c3, c4]
              · simp [c1, c2, c3, c4]
          · rw [if_pos c1, if_neg c2]; simp [c2]
        · rw [if_neg c1]; simp [c1]
      · rw [if_neg c0, if_neg c0]
    rw [e]
theorem wst_1 {lt z h : Int32} : ∀ (cs : List Cl), cs.foldl (wst lt z h) 1 = 1 := by
  intro cs
  induction cs with
  | nil => rfl
  | cons c cs ih => rw [List.foldl_cons]; exact ih
theorem wst_0 {lt z h : Int32} : ∀ (cs : List Cl), cs.foldl (wst lt z h) 0 = if cs.any (wtC lt z h) then 1 else 0 := by
  intro cs
  induction cs with
  | nil => rfl
  | cons c cs ih =>
    rw [List.foldl_cons, List.any_cons, show wst lt z h 0 c = if wtC lt z h c then 1 else 0 from rfl]
    cases hc : wtC lt z h c
    · simp only [Bool.false_or]; exact ih
    · simp only [Bool.true_or, if_true]; exact wst_1 cs
theorem m_waits {μ : St} (hI : IM μ) {o m : Nat} (ho : o < 10) (hm : m < 12) {z h : Int32} : M_m_waits μ (nI o) (nI m) z h = if (CL μ m (nm μ m)).any (wtC (lat μ o (nr μ o) z) z h) then 1 else 0 := by
  obtain ⟨a, b⟩ := nm_le hI hm
  rw [← wst_0, ← m_lat hI ho]
  unfold M_m_waits N_m_waits CL
  rw [nI_clamp (by omega), nI_clamp (by omega), List.range_eq_range']
  exact waits_f b (by omega) (nm μ m) 11 0 0 (by omega) (by omega)
theorem hmax_go {z : Int32} : ∀ (cs : List Cl) (x : Int32), (∀ c ∈ cs, WFc c) → 0 ≤ x.toInt → x.toInt ≤ 9999 → (x.toInt ≤ (cs.foldl (fun a c => if c.1 = 97 ∧ c.2.1 = z then (if a < c.2.2 then c.2.2 else a) else a) x).toInt) ∧ (cs.foldl (fun a c => if c.1 = 97 ∧ c.2.1 = z then (if a < c.2.2 then c.2.2 else a) else a) x).toInt ≤ 9999 ∧ (∀ c ∈ cs, c.1 = 97 → c.2.1 = z → c.2.2.toInt ≤ (cs.foldl (fun a c => if c.1 = 97 ∧ c.2.1 = z then (if a < c.2.2 then c.2.2 else a) else a) x).toInt) ∧ ((cs.foldl (fun a c => if c.1 = 97 ∧ c.2.1 = z then (if a < c.2.2 then c.2.2 else a) else a) x) = x ∨ ∃ c ∈ cs, c.1 = 97 ∧ c.2.1 = z ∧ c.2.2 = (cs.foldl (fun a c => if c.1 = 97 ∧ c.2.1 = z then (if a < c.2.2 then c.2.2 else a) else a) x)) := by
  intro cs
  induction cs with
  | nil => intro x _ h0 h1; exact ⟨Int.le_refl _, h1, fun c hc => absurd hc List.not_mem_nil, Or.inl rfl⟩
  | cons c cs ih =>
    intro x hw h0 h1
    rw [List.foldl_cons]
    have hwc := (hw c List.mem_cons_self).2
    have hws : ∀ c ∈ cs, WFc c := fun q hq => hw q (List.mem_cons_of_mem _ hq)
    by_cases c1 : c.1 = 97 ∧ c.2.1 = z
    · rw [if_pos c1]
      by_cases c2 : x < c.2.2
      · have h3 := lt_toInt c2
        rw [if_pos c2]
        obtain ⟨a1, a2, a3, a4⟩ := ih c.2.2 hws hwc.1 hwc.2
        refine ⟨by omega, a2, fun q hq e1 e2 => ?_, Or.inr ?_⟩
        · rcases List.mem_cons.mp hq with rfl | hq
          · exact a1
          · exact a3 q hq e1 e2
        · rcases a4 with a4 | ⟨q, hq, e1, e2, e3⟩
          · exact ⟨c, List.mem_cons_self, c1.1, c1.2, a4.symm⟩
          · exact ⟨q, List.mem_cons_of_mem _ hq, e1, e2, e3⟩
      · have h3 := nlt_toInt c2
        rw [if_neg c2]
        obtain ⟨a1, a2, a3, a4⟩ := ih x hws h0 h1
        refine ⟨a1, a2, fun q hq e1 e2 => ?_, ?_⟩
        · rcases List.mem_cons.mp hq with rfl | hq
          · omega
          · exact a3 q hq e1 e2
        · rcases a4 with a4 | ⟨q, hq, e1, e2, e3⟩
          · exact Or.inl a4
          · exact Or.inr ⟨q, List.mem_cons_of_mem _ hq, e1, e2, e3⟩
    · rw [if_neg c1]
      obtain ⟨a1, a2, a3, a4⟩ := ih x hws h0 h1
      refine ⟨a1, a2, fun q hq e1 e2 => ?_, ?_⟩
      · rcases List.mem_cons.mp hq with rfl | hq
        · exact absurd ⟨e1, e2⟩ c1
        · exact a3 q hq e1 e2
      · rcases a4 with a4 | ⟨q, hq, e1, e2, e3⟩
        · exact Or.inl a4
        · exact Or.inr ⟨q, List.mem_cons_of_mem _ hq, e1, e2, e3⟩
theorem hmax_spec {cs : List Cl} {z : Int32} (h : ∀ c ∈ cs, WFc c) : 0 ≤ (hmax cs z).toInt ∧ (hmax cs z).toInt ≤ 9999 ∧ (∀ c ∈ cs, c.1 = 97 → c.2.1 = z → c.2.2.toInt ≤ (hmax cs z).toInt) ∧ (hmax cs z = 0 ∨ ∃ c ∈ cs, c.1 = 97 ∧ c.2.1 = z ∧ c.2.2 = hmax cs z) := hmax_go cs 0 h (by decide) (by decide)
theorem anyC_iff {cs : List Cl} {L N : Int32} : anyC cs L N = true ↔ ∃ c ∈ cs, c.1 = L ∧ c.2.1 = N := by
  unfold anyC
  rw [List.any_eq_true]
  constructor
  · rintro ⟨c, hc, h⟩
    rw [Bool.and_eq_true] at h
    exact ⟨c, hc, of_decide_eq_true h.1, of_decide_eq_true h.2⟩
  · rintro ⟨c, hc, h1, h2⟩
    exact ⟨c, hc, by simp [h1, h2]⟩
theorem add_toInt {x y : Int32} (hx : -1000000 ≤ x.toInt ∧ x.toInt ≤ 1000000) (hy : -1000000 ≤ y.toInt ∧ y.toInt ≤ 1000000) : (x + y).toInt = x.toInt + y.toInt := by
  rw [Int32.toInt_add]; apply Int.bmod_eq_of_le <;> omega
theorem sub_toInt {x y : Int32} (hx : -1000000 ≤ x.toInt ∧ x.toInt ≤ 1000000) (hy : -1000000 ≤ y.toInt ∧ y.toInt ≤ 1000000) : (x - y).toInt = x.toInt - y.toInt := by
  rw [Int32.toInt_sub]; apply Int.bmod_eq_of_le <;> omega
/-- waiting, on both sides -/
theorem wait_eq {cs : List Cl} {z lt v h : Int32} {d : Bool} (hw : ∀ c ∈ cs, WFc c) (hl : lt = if d then v else -1) (hv : d = true → 0 ≤ v.toInt ∧ v.toInt ≤ 1000000) (hh : 0 ≤ h.toInt ∧ h.toInt ≤ 1000000) : cs.any (wtC lt z h) = (anyC cs 97 z && (!d || !decide (hmax cs z ≤ h - v))) := by
  obtain ⟨m1, m2, m3, m4⟩ := hmax_spec (z := z) hw
  rw [Bool.eq_iff_iff, List.any_eq_true]
  cases hd : d with
  | false =>
    rw [hd] at hl
    have hl : lt = -1 := hl
    simp only [Bool.not_false, Bool.true_or, Bool.and_true, anyC_iff]
    constructor
    · rintro ⟨c, hc, e⟩
      unfold wtC at e
      simp only [Bool.and_eq_true, decide_eq_true_eq] at e
      exact ⟨c, hc, e.1, e.2.1⟩
    · rintro ⟨c, hc, e1, e2⟩
      exact ⟨c, hc, by unfold wtC; simp [e1, e2, hl]⟩
  | true =>
    rw [hd] at hl
    have hl : lt = v := hl
    have hv := hv hd
    have hne : ¬ v = -1 := fun q => by rw [q] at hv; exact absurd hv.1 (by decide)
    have hs := sub_toInt (x := h) (y := v) (by omega) (by omega)
    simp only [Bool.not_true, Bool.false_or, Bool.and_eq_true, Bool.not_eq_true', decide_eq_false_iff_not, anyC_iff]
    constructor
    · rintro ⟨c, hc, e⟩
      unfold wtC at e
      simp only [Bool.and_eq_true, Bool.or_eq_true, Bool.not_eq_true', decide_eq_true_eq, decide_eq_false_iff_not, hl] at e
      obtain ⟨e1, e2, e3⟩ := e
      refine ⟨⟨c, hc, e1, e2⟩, fun q => ?_⟩
      rcases e3 with e3 | e3
      · exact hne e3
      · have h1 := nle_toInt e3
        have h2 := le_toInt q
        have h3 := m3 c hc e1 e2
        have h4 := (hw c hc).2
        rw [add_toInt (by omega) (by omega)] at h1
        omega
    · rintro ⟨⟨c, hc, e1, e2⟩, q⟩
      have h1 := nle_toInt q
      rcases m4 with m4 | ⟨c2, hc2, f1, f2, f3⟩
      · refine ⟨c, hc, ?_⟩
        unfold wtC
        have h4 := (hw c hc).2
        have h5 : ¬ lt + c.2.2 ≤ h := fun w => by
          have := le_toInt w
          rw [hl, add_toInt (by omega) (by omega)] at this
          rw [m4] at h1 m1
          rw [show (0 : Int32).toInt = 0 by decide] at h1
          omega
        simp [e1, e2, h5]
      · refine ⟨c2, hc2, ?_⟩
        unfold wtC
        have h5 : ¬ lt + c2.2.2 ≤ h := fun w => by
          have := le_toInt w
          rw [hl, f3, add_toInt (by omega) (by omega)] at this
          omega
        simp [f1, f2, h5]

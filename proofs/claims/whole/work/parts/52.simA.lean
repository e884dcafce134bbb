/-! call by call: the pad, the objects, the counts -/
theorem i_add1 {x : Int32} {N : Nat} (h0 : 0 ≤ x.toInt) (h1 : x.toInt < N) (hN : N < 1000000) : (x + 1).toInt = x.toInt + 1 := by
  rw [Int32.toInt_add, show (1 : Int32).toInt = 1 by decide]
  apply Int.bmod_eq_of_le <;> omega
theorem IB.set1 {σ : St} {v : Int32} (h : IB σ) (h0 : 0 ≤ v.toInt) (h1 : v.toInt ≤ 50) : IB (sF σ 1 1 v) := by
  refine ⟨⟨?_, ?_, ?_, ?_⟩, ?_⟩
  · rw [gF_sF, if_pos ⟨rfl, rfl⟩]; exact h0
  · rw [gF_sF, if_pos ⟨rfl, rfl⟩]; exact h1
  · rw [gF_sF, if_neg (by decide)]; exact h.1.2.2.1
  · rw [gF_sF, if_neg (by decide)]; exact h.1.2.2.2
  · refine ⟨h.2.1, h.2.2.1, h.2.2.2.1, fun i hi => ?_⟩
    rw [gF_sF, gF_sF, if_neg (fun q => (pPi_ne i).1 q.1), if_neg (fun q => (pPi_ne i).1 q.1)]
    exact h.2.2.2.2 i hi
theorem IM.set1 {μ : St} {v : Int32} (h : IM μ) (h0 : 0 ≤ v.toInt) (h1 : v.toInt ≤ 50) : IM (sF μ 0 1 v) := by
  unfold IM at h ⊢
  simp only [gF_sF, gA_sF]
  exact ⟨⟨h0, h1⟩, h.2⟩
theorem sim_unit : S_unit Rel := by
  intro σ μ p1 hR
  unfold M_unit M_m_unit
  simp only [vb_eq]
  have e1 := hR.pd.1
  rw [e1]
  by_cases c1 : gF μ 0 1 < 50
  · have c1' : ¬ (50 : Int32) ≤ gF μ 0 1 := fun q => by have := lt_toInt c1; have := le_toInt q; omega
    rw [if_pos c1, if_neg c1']
    by_cases c2 : p1 < 33
    · rw [if_pos c2, if_pos c2, goes_2 (by decide) rfl, pb_mk, if_pos rfl]
      exact ⟨rfl, hR.k0⟩
    · rw [if_neg c2, if_neg c2]
      by_cases c3 : p1 ≤ 126
      · have c3' : ¬ (126 : Int32) < p1 := fun q => by have := lt_toInt q; have := le_toInt c3; omega
        rw [if_pos c3, if_neg c3', goes_0 (by decide) (by decide) (by decide), pb_mk, if_neg (by decide)]
        have hI := hR.im.1
        have hlt := lt_toInt c1
        rw [show (50 : Int32).toInt = 50 by decide] at hlt
        have ha := i_add1 (N := 50) hI.1 hlt (by decide)
        refine ⟨rfl, ?_, ?_⟩
        · show (gF σ 1 1 + 1).toInt64 = (gF μ 0 1 + 1).toInt64
          rw [e1]
        · have e2 : gF (sA σ 2 (gF μ 0 1).toNatClampNeg p1) 1 1 + 1 = gF μ 0 1 + 1 := by rw [gF_sA, e1]
          have e3 : gF (sA (sF μ 0 0 0) 1 (gF (sF μ 0 0 0) 0 1).toNatClampNeg p1) 0 1 + 1 = gF μ 0 1 + 1 := rfl
          show Rel (sF (sA σ 2 (gF μ 0 1).toNatClampNeg p1) 1 1 (gF (sA σ 2 (gF μ 0 1).toNatClampNeg p1) 1 1 + 1)) (sF (sA (sF μ 0 0 0) 1 (gF μ 0 1).toNatClampNeg p1) 0 1 (gF (sA (sF μ 0 0 0) 1 (gF μ 0 1).toNatClampNeg p1) 0 1 + 1))
          rw [e2]
          have h0 : Rel σ (sF μ 0 0 0) := hR.k0
          refine ⟨⟨hR.ib.kA.set1 (by rw [ha]; omega) (by rw [ha]; omega), (h0.im.kA (by decide) (by decide) (by decide) (by decide) (by decide)).set1 (by rw [show gF (sA (sF μ 0 0 0) 1 (gF μ 0 1).toNatClampNeg p1) 0 1 = gF μ 0 1 from rfl, ha]; omega) (by rw [show gF (sA (sF μ 0 0 0) 1 (gF μ 0 1).toNatClampNeg p1) 0 1 = gF μ 0 1 from rfl, ha]; omega)⟩, h0.ct, ⟨rfl, fun k hk => ?_⟩, fun m hm => ?_, fun o ho => ?_, fun g hg => ?_, h0.pl⟩
          · rw [gA_sF, gA_sF, gA_sA, gA_sA]
            by_cases q : k = (gF μ 0 1).toNatClampNeg
            · rw [if_pos ⟨rfl, q⟩, if_pos ⟨rfl, q⟩]
            · rw [if_neg (fun w => q w.2), if_neg (fun w => q w.2)]; exact hR.pd.2 k hk
          · have : pMe m = 4 + 3 * m := rfl
            exact RMe.fr ((same.rf.A (by omega)).F (by omega)) ((same.rf.A (by omega)).F (by omega)) ((same.rf.A (by omega)).F (by omega)) (fun p a b => gA_ne (σ := sF μ 0 0 0) (by omega)) rfl (hR.me hm)
          · have : pPi o = 41 + 4 * o := rfl
            exact RPi.fr ((same.rf.A (by omega)).F (by omega)) ((same.rf.A (by omega)).F (by omega)) ((same.rf.A (by omega)).F (by omega)) ((same.rf.A (by omega)).F (by omega)) (fun p a b => gA_ne (σ := sF μ 0 0 0) (by omega)) (hR.pi ho)
          · have : pGo g = 82 + g := rfl
            exact RGo.fr ((same.rf.A (by omega)).F (by omega)) (fun p a b => gA_ne (σ := sF μ 0 0 0) (by omega)) rfl rfl (hR.go hg)
      · have c3' : (126 : Int32) < p1 := Int32.lt_iff_toInt_lt.mpr (nle_toInt c3)
        rw [if_neg c3, if_pos c3', goes_2 (by decide) rfl, pb_mk, if_pos rfl]
        exact ⟨rfl, hR.k0⟩
  · have c1' : (50 : Int32) ≤ gF μ 0 1 := Int32.le_iff_toInt_le.mpr (nlt_toInt c1)
    rw [if_neg c1, if_pos c1', goes_1 rfl, pb_mk, if_pos rfl]
    exact ⟨rfl, hR.k0⟩
theorem sim_object : S_object Rel := by
  intro σ μ hR
  unfold M_object M_m_object
  simp only [vb_eq]
  have e1 := hR.ct.2
  rw [e1]
  by_cases c1 : gF μ 0 10 < 10
  · have c1' : ¬ (10 : Int32) ≤ gF μ 0 10 := fun q => by have := lt_toInt c1; have := le_toInt q; omega
    rw [if_pos c1, if_neg c1', goes_0 (by decide) (by decide) (by decide), pb_mk, if_neg (by decide)]
    have hI := hR.im.2.2.1
    have hlt := lt_toInt c1
    rw [show (10 : Int32).toInt = 10 by decide] at hlt
    have ha := i_add1 (N := 10) hI.1 hlt (by decide)
    refine ⟨rfl, rfl, ?_⟩
    have h0 : Rel σ (sF μ 0 0 0) := hR.k0
    show Rel (sF σ 0 7 (gF μ 0 10 + 1)) (sF (sF μ 0 0 0) 0 10 (gF μ 0 10 + 1))
    refine ⟨⟨?_, ?_⟩, ⟨hR.ct.1, rfl⟩, hR.pd, hR.fM (fun i a b => same_sF (by omega)) (fun _ _ _ => rfl) rfl, hR.fP (fun i a b => same_sF (by omega)) (fun _ _ _ => rfl), hR.fG (fun i a b => same_sF (by omega)) (fun _ _ _ => rfl) rfl rfl, hR.pl⟩
    · have h := hR.ib
      refine ⟨h.1, h.2.1, ⟨?_, ?_⟩, h.2.2.2.1, fun i hi => ?_⟩
      · show 0 ≤ (gF μ 0 10 + 1).toInt
        rw [ha]; omega
      · show (gF μ 0 10 + 1).toInt ≤ 10
        rw [ha]; omega
      · rw [gF_sF, gF_sF, if_neg (fun q => (pPi_ne i).2 q.1), if_neg (fun q => (pPi_ne i).2 q.1)]
        exact h.2.2.2.2 i hi
    · have h := hR.im
      refine ⟨h.1, h.2.1, ⟨?_, ?_⟩, h.2.2.2⟩
      · show 0 ≤ (gF μ 0 10 + 1).toInt
        rw [ha]; omega
      · show (gF μ 0 10 + 1).toInt ≤ 10
        rw [ha]; omega
  · have c1' : (10 : Int32) ≤ gF μ 0 10 := Int32.le_iff_toInt_le.mpr (nlt_toInt c1)
    rw [if_neg c1, if_pos c1', goes_1 rfl, pb_mk, if_pos rfl]
    exact ⟨rfl, hR.k0⟩
theorem sim_step : S_step Rel := by
  intro σ μ p1 hR
  unfold M_step M_m_step
  have e1 := hR.pl.1
  rw [e1]
  have hI := hR.im.2.2.2.1
  rcases place σ p1 (gF μ 0 23) with ⟨a, b⟩ | ⟨a, b, c, d⟩
  · rw [a, b, goes_1 rfl, pb_mk, vb_eq]
    exact ⟨rfl, hR.k0⟩
  · rw [a, b, goes_0 (by decide) (by decide) (by decide), pb_mk, vb_eq, if_neg (by decide), xb_ok]
    obtain ⟨j, hj, rfl⟩ := x_nI (N := 10) c (by omega) (by decide)
    refine ⟨rfl, ?_, hR.k0⟩
    show (gA σ 94 (nI j).toNatClampNeg).toInt64 = (gA μ 20 (nI j).toNatClampNeg).toInt64
    rw [nI_clamp (by omega), hR.pl.2 j hj]
theorem cnt_h {σ μ : St} {p1 : Int32} (hR : Rel σ μ) : ∀ (n i : Nat) (x : Int32), i + n = 10 → M_m_count_h20 (n + 1) i x μ p1 = ((if p1 = 0 then gF μ 0 1 else if p1 = 1 then gF μ 0 3 else if p1 = 2 then gF μ 0 10 else if p1 = 3 then M_rowsOfAll_h4 (n + 1) i x σ else gF μ 0 23), μ) := by
  have e1 := hR.ct.2
  have hI := hR.im.2.2.1
  intro n
  induction n with
  | zero =>
    intro i x hi
    have c : gF μ 0 10 ≤ nI i := Int32.le_iff_toInt_le.mpr (by rw [nI_toInt (by omega)]; omega)
    rw [M_m_count_h20, M_rowsOfAll_h4, e1, if_pos c, if_pos c]
    (repeat' split) <;> rfl
  | succ n ih =>
    intro i x hi
    rw [M_m_count_h20, M_rowsOfAll_h4, e1]
    by_cases c : gF μ 0 10 ≤ nI i
    · rw [if_pos c, if_pos c]; (repeat' split) <;> rfl
    · rw [if_neg c, if_neg c, ih (i + 1) _ (by omega), ((hR.pi (o := i) (by omega)).2).1]
theorem sim_count : S_count Rel := by
  intro σ μ p1 hR
  unfold M_count M_m_count
  have h0 : Rel σ (sF μ 0 0 0) := hR.k0
  have fin : ∀ k : Int32, M_m_below k 5 = 1 → pb (M_m_goes μ (M_m_below k 5) 1 1) (fun r2 σ3 => if r2 = 0 then ((0 : Int32), σ3) else M_m_count_h20 11 0 0 σ3 k) = ((if k = 0 then gF μ 0 1 else if k = 1 then gF μ 0 3 else if k = 2 then gF μ 0 10 else if k = 3 then M_rowsOfAll σ else gF μ 0 23), sF μ 0 0 0) := fun k hk => by
    rw [hk, goes_0 (by decide) (by decide) (by decide), pb_mk, if_neg (by decide), cnt_h h0 10 0 0 rfl]
    rfl
  by_cases c0 : p1 = 0
  · subst c0
    rw [if_pos rfl, fin 0 (by decide)]
    exact ⟨rfl, congrArg Int32.toInt64 hR.pd.1, h0⟩
  rw [if_neg c0]
  by_cases c1 : p1 = 1
  · subst c1
    rw [if_pos rfl, fin 1 (by decide)]
    exact ⟨rfl, congrArg Int32.toInt64 hR.ct.1, h0⟩
  rw [if_neg c1]
  by_cases c2 : p1 = 2
  · subst c2
    rw [if_pos rfl, fin 2 (by decide)]
    exact ⟨rfl, congrArg Int32.toInt64 hR.ct.2, h0⟩
  rw [if_neg c2]
  by_cases c3 : p1 = 3
  · subst c3
    rw [if_pos rfl, fin 3 (by decide)]
    exact ⟨rfl, rfl, h0⟩
  rw [if_neg c3]
  by_cases c4 : p1 = 4
  · subst c4
    rw [if_pos rfl, fin 4 (by decide)]
    exact ⟨rfl, congrArg Int32.toInt64 hR.pl.1, h0⟩
  rw [if_neg c4]
  rcases plc (σ := σ) (N := 5) p1 (by decide) with ⟨a, b⟩ | ⟨j, hj, rfl, -⟩
  · rw [show (5 : Int32) = nI 5 from rfl, a, goes_1 rfl, pb_mk, if_pos rfl]
    exact ⟨rfl, hR.k0⟩
  · exfalso
    match j, hj with
    | 0, _ => exact c0 rfl
    | 1, _ => exact c1 rfl
    | 2, _ => exact c2 rfl
    | 3, _ => exact c3 rfl
    | 4, _ => exact c4 rfl

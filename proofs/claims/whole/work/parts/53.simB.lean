/-! the goods -/
theorem pGo_inj {a b : Nat} (h : pGo a = pGo b) : a = b := by
  have e1 : pGo a = 82 + a := rfl
  have e2 : pGo b = 82 + b := rfl
  omega
theorem pMe_inj {a b : Nat} (h : pMe a = pMe b) : a = b := by
  have e1 : pMe a = 4 + 3 * a := rfl
  have e2 : pMe b = 4 + 3 * b := rfl
  omega
theorem pPi_inj {a b : Nat} (h : pPi a = pPi b) : a = b := by
  have e1 : pPi a = 41 + 4 * a := rfl
  have e2 : pPi b = 41 + 4 * b := rfl
  omega
theorem IB.kp {σ σ' : St} (h : IB σ) (hs : ∀ i, i < 2 → same σ σ' i) (hp : ∀ i, i < 10 → gF σ' (pPi i) 3 = gF σ (pPi i) 3 ∧ gF σ' (pPi i) 4 = gF σ (pPi i) 4) : IB σ' := h.k (hs 1 (by decide)) (fun j _ => (hs 0 (by decide)).1 j) hp
theorem IB.kg {σ σ' : St} (h : IB σ) (hs : ∀ i, i < 81 → same σ σ' i) : IB σ' := h.kp (fun i a => hs i (by omega)) (fun i hi => by
  have e : pPi i = 41 + 4 * i := rfl
  have := hs (pPi i) (by omega)
  exact ⟨this.1 3, this.1 4⟩)
/-- a good changes, on both sides -/
theorem Rel.good {σ σ' μ μ' : St} {j : Nat} (hR : Rel σ μ) (hs : ∀ i, i < 96 → i ≠ pGo j → same σ σ' i) (hj : j < 12) (hm : ∀ p, p ≤ 14 ∨ 20 ≤ p → gA μ' p = gA μ p) (hf : ∀ k, gF μ' 0 k = gF μ 0 k) (hI : IM μ') (hg : ∀ g, g < 12 → g ≠ j → RGo σ μ' g) (hn : RGo σ' μ' j) : Rel σ' μ' := by
  have ej : pGo j = 82 + j := rfl
  refine ⟨⟨hR.ib.kg (fun i a => hs i (by omega) (by omega)), hI⟩, ?_, ?_, hR.fM (fun i a b => hs i (by omega) (by omega)) (fun p a b => hm p (by omega)) (hf 3), hR.fP (fun i a b => hs i (by omega) (by omega)) (fun p a b => hm p (by omega)), fun g hg1 => ?_, ?_⟩
  · have h := hs 0 (by decide) (by omega)
    exact ⟨(h.1 6).trans (hR.ct.1.trans (hf 3).symm), (h.1 7).trans (hR.ct.2.trans (hf 10).symm)⟩
  · have h := hs 1 (by decide) (by omega)
    have h2 := hs 2 (by decide) (by omega)
    exact ⟨(h.1 1).trans (hR.pd.1.trans (hf 1).symm), fun k hk => by rw [h2.2.2, hm 1 (by decide)]; exact hR.pd.2 k hk⟩
  · by_cases q : g = j
    · subst q; exact hn
    · have eg : pGo g = 82 + g := rfl
      exact RGo.fr (hs _ (by omega) (fun e => q (pGo_inj e))) (fun _ _ _ => rfl) rfl rfl (hg g hg1 q)
  · have h := hs 0 (by decide) (by omega)
    have h2 := hs 94 (by decide) (by omega)
    exact ⟨(h.1 8).trans (hR.pl.1.trans (hf 23).symm), fun k hk => by rw [h2.2.2, hm 20 (by decide)]; exact hR.pl.2 k hk⟩
theorem RGo.ix {σ μ μ' : St} {g : Nat} (h : RGo σ μ g) (e15 : gA μ' 15 g = gA μ 15 g) (e16 : gL μ' 16 g = gL μ 16 g) (e17 : gL μ' 17 g = gL μ 17 g) (e18 : gA μ' 18 g = gA μ 18 g) (e19 : ∀ z, z < 12 → gA μ' 19 (12 * g + z) = gA μ 19 (12 * g + z)) (hg : g < 12 := by assumption) : RGo σ μ' g := by
  unfold RGo at h ⊢
  rw [e15, e16, e17, e18, e19 g hg]
  refine ⟨h.1, h.2.1, h.2.2.1, h.2.2.2.1, h.2.2.2.2.1, fun z hz => ?_, h.2.2.2.2.2.2⟩
  rw [e19 z hz]
  exact h.2.2.2.2.2.1 z hz
theorem l_sub0 (x : Int64) : x - (0 : Int32).toInt64 = x := by
  rw [show (0 : Int32).toInt64 = 0 by decide, Int64.sub_zero]
theorem sim_stock : S_stock Rel := by
  intro σ μ p1 p2 hR
  unfold M_stock M_m_stock
  simp only [vb_eq]
  rcases good (σ := σ) p1 with ⟨a, b⟩ | ⟨j, hj, rfl, a, b⟩
  · rw [a, b, goes_1 rfl, pb_mk, if_pos rfl]
    exact ⟨rfl, hR.k0⟩
  · rw [a, b, xb_ok]
    obtain ⟨g0, ⟨g1, g2⟩, g3, g4, g5, g6, g7⟩ := hR.go hj
    by_cases c1 : p2 < (-1000000)
    · rw [if_pos c1, if_pos c1, goes_2 (by decide) rfl, pb_mk, if_pos rfl]
      exact ⟨rfl, hR.k0⟩
    rw [if_neg c1, if_neg c1]
    by_cases c2 : p2 ≤ 1000000
    · have c2' : ¬ (1000000 : Int32) < p2 := fun q => by have := lt_toInt q; have := le_toInt c2; omega
      rw [if_pos c2, if_neg c2', goes_0 (by decide) (by decide) (by decide), pb_mk, if_neg (show ¬ (1 : Int32) = 0 by decide)]
      have h0 : Rel σ (sF μ 0 0 0) := hR.k0
      have hc : (nI j).toNatClampNeg = j := nI_clamp (by omega)
      simp only [hc, gA_sF, g0]
      have k1 := nlt_toInt c1
      have k2 := le_toInt c2
      rw [show (-1000000 : Int32).toInt = -1000000 by decide] at k1
      rw [show (1000000 : Int32).toInt = 1000000 by decide] at k2
      have hsum : (gA μ 15 j + p2).toInt = (gA μ 15 j).toInt + p2.toInt := by
        rw [Int32.toInt_add]; apply Int.bmod_eq_of_le <;> omega
      by_cases c3 : gA μ 15 j + p2 < 0
      · rw [if_pos c3, if_pos c3]; exact ⟨rfl, rfl, hR.k0⟩
      rw [if_neg c3, if_neg c3]
      by_cases c4 : gA μ 15 j + p2 ≤ 1000000
      · rw [if_pos c4, if_pos c4]
        have k3 := nlt_toInt c3
        have k4 := le_toInt c4
        rw [show (1000000 : Int32).toInt = 1000000 by decide] at k4
        rw [show (0 : Int32).toInt = 0 by decide] at k3
        refine ⟨rfl, rfl, ?_⟩
        show Rel (M_changeBy σ j p2) _
        have hs : ∀ i, i < 96 → i ≠ pGo j → same σ (M_changeBy σ j p2) i := fun i _ hi => by
          unfold M_changeBy
          split
          · exact (same.rf.F hi).L hi
          · exact (same.rf.F hi).L hi
        refine h0.good hs hj (fun p hp => gA_ne (σ := sF μ 0 0 0) (by omega)) (fun k => rfl) (IM.kL (IM.kL h0.im.k15)) (fun g hg hgj => ?_) ?_
        · refine RGo.ix (h0.go hg) ?_ ?_ ?_ rfl (fun _ _ => rfl)
          · show gA (sA (sF μ 0 0 0) 15 j _) 15 g = _
            rw [gA_nj hgj]
          · rw [gL_nj hgj, gL_nj hgj]; rfl
          · rw [gL_nj hgj, gL_nj hgj]; rfl
        · have gj : ∀ i : Nat, (i = 3 ∨ i = 4) → gF (M_changeBy σ j p2) (pGo j) i = gF σ (pGo j) i := fun i hi => by
            unfold M_changeBy
            split <;> rw [gF_sL, gF_nj (by omega)]
          have g0' : gF (M_changeBy σ j p2) (pGo j) 0 = gA μ 15 j + p2 := by
            unfold M_changeBy
            split <;> rw [gF_sL, gF_s, g0]
          have e15 : ∀ (a b : Int64), gA (sL (sL (sA (sF μ 0 0 0) 15 j (gA μ 15 j + p2)) 16 j a) 17 j b) 15 j = gA μ 15 j + p2 := fun a b => gA_s _ _ _ _
          refine ⟨?_, ?_, ?_, ?_, ?_, ?_, ?_⟩
          · rw [g0', e15]
          · rw [e15]; exact ⟨k3, k4⟩
          · rw [gL_np (by decide), gL_s, gL_sA, gL_sF]
            unfold M_changeBy
            by_cases c5 : p2 ≤ 0
            · rw [if_pos c5, if_pos c5, gL_nj (by decide), gL_sF, g3]
            · rw [if_neg c5, if_neg c5, gL_s, gL_sF, g3]
          · rw [gL_s, gL_np (by decide), gL_sA, gL_sF]
            unfold M_changeBy
            by_cases c5 : p2 ≤ 0
            · rw [if_pos c5, gL_s, gL_sF, g4]
              by_cases c6 : 0 ≤ p2
              · have : p2 = 0 := Int32.le_antisymm c5 c6
                rw [if_pos c6, this, l_sub0]
              · rw [if_neg c6]
            · have c6 : 0 ≤ p2 := Int32.le_iff_toInt_le.mpr (by have := nle_toInt c5; omega)
              rw [if_neg c5, gL_nj (by decide), gL_sF, g4, if_pos c6]
          · rw [gj 3 (Or.inl rfl)]; exact g5
          · rw [gj 4 (Or.inr rfl)]; exact g6
          · exact g7
      · rw [if_neg c4, if_neg c4]; exact ⟨rfl, rfl, hR.k0⟩
    · have c2' : (1000000 : Int32) < p2 := Int32.lt_iff_toInt_lt.mpr (nle_toInt c2)
      rw [if_neg c2, if_pos c2', goes_2 (by decide) rfl, pb_mk, if_pos rfl]
      exact ⟨rfl, hR.k0⟩
theorem sim_about : S_about Rel := by
  intro σ μ p1 p2 hR
  unfold M_about M_m_about
  simp only [vb_eq]
  rcases good (σ := σ) p1 with ⟨a, b⟩ | ⟨j, hj, rfl, a, b⟩
  · rw [a, b, if_pos rfl, goes_1 rfl, pb_mk, if_pos rfl]
    exact ⟨rfl, hR.k0⟩
  · rw [a, b, xb_ok, if_neg (show ¬ (1 : Int32) = 0 by decide)]
    obtain ⟨g0, ⟨g1, g2⟩, g3, g4, g5, g6, g7⟩ := hR.go hj
    have hc : (nI j).toNatClampNeg = j := nI_clamp (by omega)
    by_cases c0 : p2 = 0
    · subst c0
      rw [if_pos rfl, if_neg (show ¬ (0 : Int32) < 0 by decide), if_neg (show ¬ (3 : Int32) < 0 by decide), goes_0 (by decide) (by decide) (by decide), pb_mk, if_neg (show ¬ (1 : Int32) = 0 by decide), if_pos rfl, hc, g0]
      exact ⟨rfl, rfl, hR.k0⟩
    by_cases c1 : p2 = 1
    · subst c1
      rw [if_neg c0, if_pos rfl, if_neg (show ¬ (1 : Int32) < 0 by decide), if_neg (show ¬ (3 : Int32) < 1 by decide), goes_0 (by decide) (by decide) (by decide), pb_mk, if_neg (show ¬ (1 : Int32) = 0 by decide), if_neg c0, if_pos rfl, hc, g3]
      exact ⟨rfl, rfl, hR.k0⟩
    by_cases c2 : p2 = 2
    · subst c2
      rw [if_neg c0, if_neg c1, if_pos rfl, if_neg (show ¬ (2 : Int32) < 0 by decide), if_neg (show ¬ (3 : Int32) < 2 by decide), goes_0 (by decide) (by decide) (by decide), pb_mk, if_neg (show ¬ (1 : Int32) = 0 by decide), if_neg c0, if_neg c1, if_pos rfl, hc, g4]
      exact ⟨rfl, rfl, hR.k0⟩
    by_cases c3 : p2 = 3
    · subst c3
      rw [if_neg c0, if_neg c1, if_neg c2, if_pos rfl, if_neg (show ¬ (3 : Int32) < 0 by decide), if_neg (show ¬ (3 : Int32) < 3 by decide), goes_0 (by decide) (by decide) (by decide), pb_mk, if_neg (show ¬ (1 : Int32) = 0 by decide), if_neg c0, if_neg c1, if_neg c2, hc, g5]
      exact ⟨rfl, rfl, hR.k0⟩
    rw [if_neg c0, if_neg c1, if_neg c2, if_neg c3]
    have ho := sw_out4 c0 c1 c2 c3
    by_cases c4 : p2 < 0
    · rw [if_pos c4, goes_1 rfl, pb_mk, if_pos rfl]
      exact ⟨rfl, hR.k0⟩
    · have h4 := nlt_toInt c4
      rw [show (0 : Int32).toInt = 0 by decide] at h4
      rw [if_neg c4, if_pos (Int32.lt_iff_toInt_lt.mpr (by rw [show (3 : Int32).toInt = 3 by decide]; omega)), goes_1 rfl, pb_mk, if_pos rfl]
      exact ⟨rfl, hR.k0⟩

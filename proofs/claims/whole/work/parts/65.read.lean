/-! clearing, and the call read -/
theorem clr23 {M : Nat} : ∀ (n i : Nat) (σ : St), i + n = 12 → BW σ (M_clear_h23 (n + 1) i σ M) M ∧ (∀ j, 2 ≤ j → j ≤ 6 → gF (M_clear_h23 (n + 1) i σ M) (pMe M) j = 0) ∧ gA (M_clear_h23 (n + 1) i σ M) (pMe M + 1) = gA σ (pMe M + 1) ∧ ∀ z, z < 12 → i ≤ z ∨ gA σ (pMe M + 2) z = 0 → gA (M_clear_h23 (n + 1) i σ M) (pMe M + 2) z = 0 := by
  intro n
  induction n with
  | zero =>
    intro i σ hi
    have e : i = 12 := by omega
    subst e
    rw [M_clear_h23, if_pos (show (12 : Int32) ≤ nI 12 by decide)]
    refine ⟨((((BW.fld (by decide)).trans (BW.fld (by decide))).trans (BW.fld (by decide))).trans (BW.fld (by decide))).trans (BW.fld (by decide)), fun j h1 h2 => ?_, rfl, fun z hz h => ?_⟩
    · have : j = 2 ∨ j = 3 ∨ j = 4 ∨ j = 5 ∨ j = 6 := by omega
      rcases this with rfl | rfl | rfl | rfl | rfl
      · rw [gF_nj (by decide), gF_nj (by decide), gF_nj (by decide), gF_nj (by decide), gF_s]
      · rw [gF_nj (by decide), gF_nj (by decide), gF_nj (by decide), gF_s]
      · rw [gF_nj (by decide), gF_nj (by decide), gF_s]
      · rw [gF_nj (by decide), gF_s]
      · rw [gF_s]
    · rcases h with h | h
      · omega
      · exact h
  | succ n ih =>
    intro i σ hi
    obtain ⟨h1, h2, h3, h4⟩ := ih (i + 1) (sA σ (pMe M + 2) i 0) (by omega)
    have e : M_clear_h23 (n + 1 + 1) i σ M = M_clear_h23 (n + 1) (i + 1) (sA σ (pMe M + 2) i 0) M := by
      rw [M_clear_h23, if_neg (show ¬ (12 : Int32) ≤ nI i from nI_lt' (b := 12) (by omega) (by decide))]
    rw [e]
    refine ⟨BW.ar2.trans h1, h2, by rw [h3]; exact gA_ne (by omega), fun z hz h => ?_⟩
    by_cases q : z = i
    · subst q; exact h4 z hz (Or.inr (gA_s _ _ _ _))
    · exact h4 z hz (h.imp (fun _ => by omega) (fun w => by rw [gA_nj q]; exact w))
theorem clr2 {M : Nat} : ∀ (n i : Nat) (σ : St), i + n = 12 → (∀ z, z < i → gA σ (pMe M + 1) z = 0) → BW σ (M_clear_h2 (n + 1) i σ M) M ∧ (∀ j, 2 ≤ j → j ≤ 6 → gF (M_clear_h2 (n + 1) i σ M) (pMe M) j = 0) ∧ (∀ z, z < 12 → gA (M_clear_h2 (n + 1) i σ M) (pMe M + 1) z = 0) ∧ ∀ z, z < 12 → gA (M_clear_h2 (n + 1) i σ M) (pMe M + 2) z = 0 := by
  intro n
  induction n with
  | zero =>
    intro i σ hi hz
    have e : i = 12 := by omega
    subst e
    rw [M_clear_h2, if_pos (show (12 : Int32) ≤ nI 12 by decide)]
    obtain ⟨h1, h2, h3, h4⟩ := clr23 (M := M) 12 0 σ rfl
    exact ⟨h1, h2, fun z q => by rw [h3]; exact hz z q, fun z q => h4 z q (Or.inl (Nat.zero_le _))⟩
  | succ n ih =>
    intro i σ hi hz
    have e : M_clear_h2 (n + 1 + 1) i σ M = M_clear_h2 (n + 1) (i + 1) (sA σ (pMe M + 1) i 0) M := by
      rw [M_clear_h2, if_neg (show ¬ (12 : Int32) ≤ nI i from nI_lt' (b := 12) (by omega) (by decide))]
    obtain ⟨h1, h2, h3, h4⟩ := ih (i + 1) (sA σ (pMe M + 1) i 0) (by omega) (fun z hz' => by
      by_cases q : z = i
      · subst q; exact gA_s _ _ _ _
      · rw [gA_nj q]; exact hz z (by omega))
    rw [e]
    exact ⟨BW.ar1.trans h1, h2, h3, h4⟩
theorem clr {σ : St} {M : Nat} : BW σ (M_clear σ M) M ∧ FR (M_clear σ M) M [] := by
  obtain ⟨h1, h2, h3, h4⟩ := clr2 (M := M) 12 0 σ rfl (fun z hz => absurd hz (by omega))
  refine ⟨h1, fun z hz => ?_, fun z hz => ?_, fun z hz => ?_, fun z hz => ?_, ?_, ?_, fun g hg => ?_, fun z hz => ?_, fun c hc => absurd hc (by simp)⟩
  · rw [M_clear, h2 2 (by decide) (by decide), bt_0]; rfl
  · rw [M_clear, h2 3 (by decide) (by decide), bt_0]; rfl
  · rw [M_clear, h2 4 (by decide) (by decide), bt_0]; rfl
  · rw [M_clear, h2 4 (by decide) (by decide), bt_0]
  · rw [M_clear, h2 5 (by decide) (by decide)]; rfl
  · rw [M_clear, h2 6 (by decide) (by decide)]; rfl
  · exact h3 g hg
  · exact h4 z hz
theorem CL_ix {μ μ' : St} {m r : Nat} (h : ∀ p k, 3 ≤ p → p ≤ 5 → k < r → gA μ' p (10 * m + k) = gA μ p (10 * m + k)) : CL μ' m r = CL μ m r := by
  unfold CL
  apply List.map_congr_left
  intro k hk
  have := List.mem_range.mp hk
  unfold cl1
  rw [h 3 k (by decide) (by decide) this, h 4 k (by decide) (by decide) this, h 5 k (by decide) (by decide) this]
theorem Rel.rd {σ σ5 μ τ' : St} {M M' i : Nat} (hR : Rel σ μ) (hM : M < 12) (h3 : gF μ 0 3 = nI M) (hb : BW σ σ5 M) (hm : MW μ τ' M) (h2 : gF σ5 1 2 = nI i) (hi : i ≤ 50) (hM' : M' = M ∨ (M' = M + 1 ∧ FR σ5 M (CL τ' M (nm τ' M)))) : Rel (sF (sF σ5 1 1 0) 0 6 (nI M')) (sF (sF τ' 0 3 (nI M')) 0 1 0) := by
  have e0 : pMe M = 4 + 3 * M := rfl
  have s0 : same σ σ5 0 := hb.1 0 (by decide) (by omega) (by omega) (by omega)
  have s2 : same σ σ5 2 := hb.1 2 (by decide) (by omega) (by omega) (by omega)
  have sg : ∀ j, 40 ≤ j → same σ (sF (sF σ5 1 1 0) 0 6 (nI M')) j := fun j hj => ((hb.1 j (by omega) (by omega) (by omega) (by omega)).F (by omega)).F (by omega)
  have hM1 : (nI M').toInt = (M' : Int) := nI_toInt (by omega)
  have hI1 : (nI i).toInt = (i : Int) := nI_toInt (by omega)
  refine ⟨⟨?_, ?_⟩, ⟨rfl, ?_⟩, ⟨rfl, fun k hk => ?_⟩, fun m hm1 => ?_, fun o ho => ?_, fun g hg => ?_, ⟨?_, fun k hk => ?_⟩⟩
  · have h := hR.ib
    refine ⟨⟨by show 0 ≤ (0 : Int32).toInt; decide, by show (0 : Int32).toInt ≤ 50; decide, ?_, ?_⟩, ⟨?_, ?_⟩, ?_, ?_, fun o ho => ?_⟩
    · show 0 ≤ (gF σ5 1 2).toInt; rw [h2]; omega
    · show (gF σ5 1 2).toInt ≤ 50; rw [h2]; omega
    · show 0 ≤ (nI M').toInt; omega
    · show (nI M').toInt ≤ 12; omega
    · show 0 ≤ (gF σ5 0 7).toInt ∧ (gF σ5 0 7).toInt ≤ 10
      rw [s0.1 7]; exact h.2.2.1
    · show 0 ≤ (gF σ5 0 8).toInt ∧ (gF σ5 0 8).toInt ≤ 10
      rw [s0.1 8]; exact h.2.2.2.1
    · have ep : pPi o = 41 + 4 * o := rfl
      rw [(sg (pPi o) (by omega)).1 3, (sg (pPi o) (by omega)).1 4]
      exact h.2.2.2.2 o ho
  · have h := hR.im
    refine ⟨⟨by show 0 ≤ (0 : Int32).toInt; decide, by show (0 : Int32).toInt ≤ 50; decide⟩, ⟨?_, ?_⟩, ?_, ?_, fun j hj => ?_, fun o ho => ?_, fun k => ?_, fun k => ?_⟩
    · show 0 ≤ (nI M').toInt; omega
    · show (nI M').toInt ≤ 12; omega
    · show 0 ≤ (gF τ' 0 10).toInt ∧ (gF τ' 0 10).toInt ≤ 10
      rw [hm.1]; exact h.2.2.1
    · show 0 ≤ (gF τ' 0 23).toInt ∧ (gF τ' 0 23).toInt ≤ 10
      rw [hm.1]; exact h.2.2.2.1
    · show 0 ≤ (gA τ' 2 j).toInt ∧ (gA τ' 2 j).toInt ≤ 10
      by_cases q : j = M
      · subst q; exact hm.2.2.2.2.2 (h.2.2.2.2.1 j hj)
      · rw [hm.2.2.2.1 j q]; exact h.2.2.2.2.1 j hj
    · show (0 ≤ (gA τ' 8 o).toInt ∧ (gA τ' 8 o).toInt ≤ 8) ∧ 0 ≤ (gA τ' 10 o).toInt ∧ (gA τ' 10 o).toInt ≤ 30
      rw [hm.2.2.1 8 (by decide), hm.2.2.1 10 (by decide)]; exact h.2.2.2.2.2.1 o ho
    · show b01 (gA τ' 6 k)
      rw [hm.2.2.1 6 (by decide)]; exact h.2.2.2.2.2.2.1 k
    · show b01 (gA τ' 22 k)
      rw [hm.2.2.1 22 (by decide)]; exact h.2.2.2.2.2.2.2 k
  · show gF σ5 0 7 = gF τ' 0 10
    rw [s0.1 7, hm.1]; exact hR.ct.2
  · show gA σ5 2 k = gA τ' 1 k
    rw [s2.2.2, hm.2.2.1 1 (by decide)]; exact hR.pd.2 k hk
  · have em : pMe m = 4 + 3 * m := rfl
    have hr := hR.me hm1
    by_cases q : m = M
    · subst q
      refine ⟨RMr.fr ?_ ?_ (fun p h1 h2 => hm.2.2.1 p (by omega)) hr.1, fun hl => ?_⟩
      · rw [gF_np (by omega), gF_np (by omega), hb.2.1 7 (by decide)]
      · rw [gF_np (by omega), gF_np (by omega), hb.2.1 8 (by decide)]
      · have hl' : (m : Int) < (nI M').toInt := hl
        rcases hM' with e | ⟨e, hF⟩
        · omega
        · exact FR.fr (σ := σ5) (fun j _ => by rw [gF_np (by omega), gF_np (by omega)]) rfl rfl hF
    · have t : ∀ d, d ≤ 2 → same σ (sF (sF σ5 1 1 0) 0 6 (nI M')) (pMe m + d) := fun d hd => ((hb.1 (pMe m + d) (by omega) (by omega) (by omega) (by omega)).F (by omega)).F (by omega)
      refine ⟨RMr.fr ((t 0 (by decide)).1 7) ((t 0 (by decide)).1 8) (fun p h1 h2 => hm.2.2.1 p (by omega)) hr.1, fun hl => ?_⟩
      have hl' : (m : Int) < (nI M').toInt := hl
      have hlM : (m : Int) < (gF μ 0 3).toInt := by
        rw [h3, nI_toInt (by omega)]
        omega
      have hnm := (nm_le hR.im hm1).1
      have en : nm (sF (sF τ' 0 3 (nI M')) 0 1 0) m = nm μ m := by
        show (gA τ' 2 m).toNatClampNeg = (gA μ 2 m).toNatClampNeg
        rw [hm.2.2.2.1 m q]
      have ec : CL (sF (sF τ' 0 3 (nI M')) 0 1 0) m (nm μ m) = CL μ m (nm μ m) := CL_ix (fun p k h1 h2 h4 => hm.2.2.2.2.1 p _ h1 h2 (by omega))
      rw [en, ec]
      exact FR.fr (fun j _ => (t 0 (by decide)).1 j) (t 1 (by decide)).2.2 (t 2 (by decide)).2.2 (hr.2 hlM)
  · have ep : pPi o = 41 + 4 * o := rfl
    exact RPi.fr (sg _ (by omega)) (sg _ (by omega)) (sg _ (by omega)) (sg _ (by omega)) (fun p h1 h2 => hm.2.2.1 p (by omega)) (hR.pi ho)
  · have ep : pGo g = 82 + g := rfl
    exact RGo.fr (sg _ (by omega)) (fun p h1 h2 => hm.2.2.1 p (by omega)) (by show gL τ' 16 = gL μ 16; rw [hm.2.1]) (by show gL τ' 17 = gL μ 17; rw [hm.2.1]) (hR.go hg)
  · show gF σ5 0 8 = gF τ' 0 23
    rw [s0.1 8, hm.1]; exact hR.pl.1
  · show gA σ5 94 k = gA τ' 20 k
    rw [(hb.1 94 (by decide) (by omega) (by omega) (by omega)).2.2, hm.2.2.1 20 (by decide)]; exact hR.pl.2 k hk
theorem readT {σ μ : St} {M : Nat} (hR : Rel σ μ) (hM : M < 12) (h3 : gF μ 0 3 = nI M) : ∃ (i' : Nat) (σ' τ' : St), i' ≤ 50 ∧ gF σ' 1 2 = nI i' ∧ BW σ σ' M ∧ MW μ τ' M ∧ ((M_readText (M_clear σ M) M = (0, σ') ∧ M_m_fault μ = (nI i', τ')) ∨ (M_readText (M_clear σ M) M = (1, σ') ∧ M_m_fault μ = (-1, τ') ∧ FR σ' M (CL τ' M (nm τ' M)))) := by
  obtain ⟨c1, c2⟩ := clr (σ := σ) (M := M)
  generalize M_clear σ M = σ3 at c1 c2
  have hI := hR.im.1
  obtain ⟨L, hL, eL⟩ := x_nI (N := 51) hI.1 (by omega) (by decide)
  have e11 : gF σ3 1 1 = nI L := by rw [c1.2.2 1 (by decide), hR.pd.1, eL]
  have e0 : pMe M = 4 + 3 * M := rfl
  unfold M_readText
  have e12 : gF (sF σ3 1 2 0) 1 1 = nI L := by rw [gF_nj (by decide), e11]
  rw [e12]
  by_cases hL0 : L = 0
  · subst hL0
    rw [if_pos (show nI 0 = (0 : Int32) from rfl)]
    refine ⟨0, sF σ3 1 2 0, sA μ 2 M 0, by decide, gF_s _ _ _ _, c1.trans BW.pos, MW.many (by decide), Or.inr ⟨rfl, ?_, ?_⟩⟩
    · rw [M_m_fault, M_m_fault_h9, if_pos (show gF μ 0 1 ≤ nI 0 by rw [eL]; decide), vb_eq, vb_eq, if_pos (show gF μ 0 1 = 0 by rw [eL]; rfl), if_pos (show gF μ 0 1 = 0 by rw [eL]; rfl), if_neg (show ¬ (1 : Int32) = 0 by decide), h3, nI_clamp (by omega)]
    · have : nm (sA μ 2 M 0) M = 0 := by unfold nm; rw [gA_s]; rfl
      rw [this]
      exact c2.pos
  · rw [if_neg (show ¬ nI L = 0 from nI_ne0 (by omega) (by omega))]
    have hP : PR (sF σ3 1 2 (nI 0)) μ 0 M L := by
      refine ⟨gF_s _ _ _ _, Nat.zero_le _, by omega, by omega, e12, eL, h3, hM, fun j hj => ?_⟩
      show gA σ3 2 j = gA μ 1 j
      rw [(c1.1 2 (by decide) (by omega) (by omega) (by omega)).2.2]
      exact hR.pd.2 j hj
    have hbody : M_readText_h16 11 0 (sF σ3 1 2 0) M = body (9 + 1) 0 (sF σ3 1 2 0) M := by
      rw [M_readText_h16, if_neg (show ¬ (10 : Int32) ≤ nI 0 by decide), if_pos (show nI 0 ≤ (0 : Int32) by decide)]
      rfl
    obtain ⟨i', σ', τ', a1, a2, a3, a4, a5⟩ := text_go (M := M) (L := L) 9 0 0 (sF σ3 1 2 (nI 0)) μ 0 rfl hP c2.pos
    rw [hbody]
    exact ⟨i', σ', τ', by omega, a2, (c1.trans BW.pos).trans a3, a4, a5⟩
theorem sim_read : S_read Rel := by
  intro σ μ hR
  have e1 := hR.ct.1
  have hI := hR.im.2.1
  by_cases c1 : gF μ 0 3 < 12
  · have c1' : ¬ (12 : Int32) ≤ gF μ 0 3 := fun q => by have := lt_toInt c1; have := le_toInt q; omega
    have hlt := lt_toInt c1
    rw [show (12 : Int32).toInt = 12 by decide] at hlt
    obtain ⟨M, hM, eM⟩ := x_nI (N := 12) hI.1 (by omega) (by decide)
    have h0 : Rel σ (sF μ 0 0 0) := hR.k0
    have h3 : gF (sF μ 0 0 0) 0 3 = nI M := eM
    obtain ⟨i', σ', τ', a1, a2, a3, a4, a5⟩ := readT h0 hM h3
    have e0 : pMe M = 4 + 3 * M := rfl
    have s0 : same σ σ' 0 := a3.1 0 (by decide) (by omega) (by omega) (by omega)
    have e6 : gF (sF σ' 1 1 0) 0 6 = nI M := by
      show gF σ' 0 6 = nI M
      rw [s0.1 6, e1, eM]
    have t3 : gF τ' 0 3 = nI M := by rw [a4.1]; exact h3
    have t0 : gF τ' 0 0 = 0 := by rw [a4.1]; exact gF_s _ _ _ _
    rcases a5 with ⟨b1, b2⟩ | ⟨b1, b2, b3⟩
    · have hB : M_read σ = .ok ((-1) - nI i', sF (sF σ' 1 1 0) 0 6 (nI M)) := by
        rw [M_read, e1, if_pos c1, vb_eq, eM, nI_clamp (by omega), b1, pb_mk, if_pos rfl, ← e6, sF_self]
        show Except.ok ((-1) - gF σ' 1 2, sF σ' 1 1 0) = _
        rw [a2]
      have hM : M_m_read μ = ((-1) - nI i', sF (sF τ' 0 3 (nI M)) 0 1 0) := by
        rw [M_m_read, vb_eq, if_neg c1', goes_0 (by decide) (by decide) (by decide), pb_mk, if_neg (show ¬ (1 : Int32) = 0 by decide), b2, pb_mk, if_neg (nI_m1 (by omega)), vb_eq, if_neg (nI_m1 (by omega)), t3]
      rw [hB, hM]
      exact ⟨t0, rfl, Rel.rd h0 (by omega) h3 a3 a4 a2 a1 (Or.inl rfl)⟩
    · have hB : M_read σ = .ok (nI (M + 1) - 1, sF (sF σ' 1 1 0) 0 6 (nI (M + 1))) := by
        rw [M_read, e1, if_pos c1, vb_eq, eM, nI_clamp (by omega), b1, pb_mk, if_neg (show ¬ (1 : Int32) = 0 by decide), e6, nI_p1, gF_s]
      have hM : M_m_read μ = (nI (M + 1) - 1, sF (sF τ' 0 3 (nI (M + 1))) 0 1 0) := by
        rw [M_m_read, vb_eq, if_neg c1', goes_0 (by decide) (by decide) (by decide), pb_mk, if_neg (show ¬ (1 : Int32) = 0 by decide), b2, pb_mk, if_pos rfl, vb_eq, if_pos rfl, t3, nI_p1]
        rfl
      rw [hB, hM]
      exact ⟨t0, rfl, Rel.rd h0 (by omega) h3 a3 a4 a2 a1 (Or.inr ⟨rfl, b3⟩)⟩
  · have c1' : (12 : Int32) ≤ gF μ 0 3 := Int32.le_iff_toInt_le.mpr (nlt_toInt c1)
    have hB : M_read σ = .error "java/lang/IllegalStateException" := by rw [M_read, e1, if_neg c1]
    have hM : M_m_read μ = (0, sF μ 0 0 1) := by rw [M_m_read, vb_eq, if_pos c1', goes_1 rfl, pb_mk, if_pos rfl]
    rw [hB, hM]
    exact ⟨rfl, hR.k0⟩

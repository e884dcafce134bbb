/-! the text, and the call read -/
theorem anyC_sn {cs : List Cl} {c : Cl} {L N : Int32} : anyC (cs ++ [c]) L N = (anyC cs L N || (decide (c.1 = L) && decide (c.2.1 = N))) := by
  unfold anyC
  rw [List.any_append]
  simp
theorem anyL_sn {cs : List Cl} {c : Cl} {L : Int32} : anyL (cs ++ [c]) L = (anyL cs L || decide (c.1 = L)) := by
  unfold anyL
  rw [List.any_append]
  simp
theorem usum_sn {cs : List Cl} {c : Cl} {g : Int32} : usum (cs ++ [c]) g = if c.1 = 117 ∧ c.2.1 = g then usum cs g + c.2.2 else usum cs g := by
  unfold usum
  rw [List.foldl_append]
  rfl
theorem hmax_sn {cs : List Cl} {c : Cl} {z : Int32} : hmax (cs ++ [c]) z = if c.1 = 97 ∧ c.2.1 = z then (if hmax cs z < c.2.2 then c.2.2 else hmax cs z) else hmax cs z := by
  unfold hmax
  rw [List.foldl_append]
  rfl
theorem FR.add {σ σ' : St} {M : Nat} {cs : List Cl} {Lt N Q : Int32} (h : FR σ M cs) (hw : WFc (Lt, N, Q))
    (h2 : ∀ z, z < 12 → bt (gF σ' (pMe M) 2) z = (bt (gF σ (pMe M) 2) z || (decide (Lt = 98) && decide (N = nI z))))
    (h3 : ∀ z, z < 12 → bt (gF σ' (pMe M) 3) z = (bt (gF σ (pMe M) 3) z || (decide (Lt = 120) && decide (N = nI z))))
    (h4 : ∀ z, z < 12 → bt (gF σ' (pMe M) 4) z = (bt (gF σ (pMe M) 4) z || (decide (Lt = 97) && decide (N = nI z))))
    (h4' : ∀ z, 12 ≤ z → bt (gF σ' (pMe M) 4) z = false)
    (h5 : gF σ' (pMe M) 5 = if Lt = 116 then 1 else gF σ (pMe M) 5)
    (h6 : gF σ' (pMe M) 6 = if Lt = 105 then 1 else gF σ (pMe M) 6)
    (hA : ∀ g, g < 12 → gA σ' (pMe M + 1) g = if Lt = 117 ∧ N = nI g then gA σ (pMe M + 1) g + Q else gA σ (pMe M + 1) g)
    (hH : ∀ z, z < 12 → gA σ' (pMe M + 2) z = if Lt = 97 ∧ N = nI z then (if gA σ (pMe M + 2) z < Q then Q else gA σ (pMe M + 2) z) else gA σ (pMe M + 2) z) : FR σ' M (cs ++ [(Lt, N, Q)]) := by
  obtain ⟨f2, f3, f4, f4', f5, f6, fA, fH, fw⟩ := h
  refine ⟨fun z hz => ?_, fun z hz => ?_, fun z hz => ?_, h4', ?_, ?_, fun g hg => ?_, fun z hz => ?_, fun c hc => ?_⟩
  · rw [h2 z hz, f2 z hz, anyC_sn]
  · rw [h3 z hz, f3 z hz, anyC_sn]
  · rw [h4 z hz, f4 z hz, anyC_sn]
  · rw [h5, f5, anyL_sn]
    by_cases q : Lt = 116
    · rw [if_pos q]; simp [q]
    · rw [if_neg q]; simp [q]
  · rw [h6, f6, anyL_sn]
    by_cases q : Lt = 105
    · rw [if_pos q]; simp [q]
    · rw [if_neg q]; simp [q]
  · rw [hA g hg, fA g hg, usum_sn]
  · rw [hH z hz, fH z hz, hmax_sn]
  · rcases List.mem_append.mp hc with h | h
    · exact fw c h
    · rw [List.mem_singleton.mp h]; exact hw
theorem wf_c {Lt : Int32} {w q : Nat} (hw : w ≤ 11) (hq : q ≤ 9999) : WFc (Lt, nI w, nI q) := by
  have e1 : (nI w).toInt = (w : Int) := nI_toInt (by omega)
  have e2 : (nI q).toInt = (q : Int) := nI_toInt (by omega)
  refine ⟨⟨?_, ?_⟩, ?_, ?_⟩
  · show 0 ≤ (nI w).toInt; omega
  · show (nI w).toInt ≤ 11; omega
  · show 0 ≤ (nI q).toInt; omega
  · show (nI q).toInt ≤ 9999; omega
theorem bt_wx {x : Int32} {w z : Nat} (hw : w ≤ 11) (hz : z < 12) : bt (M_with x (nI w) 1) z = (bt x z || decide (nI w = nI z)) := by
  rw [bt_w1 x (by omega) (by omega), dec_nI (by omega) (by omega)]
theorem bt_w12 {x : Int32} {w z : Nat} (hw : w ≤ 11) (hz : 12 ≤ z) (hx : ∀ z, 12 ≤ z → bt x z = false) : bt (M_with x (nI w) 1) z = false := by
  rcases Nat.lt_or_ge z 32 with h | h
  · rw [bt_w1 x (by omega) h, hx z hz]
    simp; omega
  · exact bt_big h
theorem fr_bar {σ : St} {M w : Nat} {cs : List Cl} (hw : w ≤ 9) (h : FR σ M cs) : FR (sF σ (pMe M) 2 (M_with (gF σ (pMe M) 2) (nI w) 1)) M (cs ++ [(98, nI w, 0)]) := by
  refine FR.add h (wf_c (q := 0) (by omega) (by decide)) (fun z hz => ?_) (fun z hz => ?_) (fun z hz => ?_) (fun z hz => ?_) ?_ ?_ (fun g hg => ?_) (fun z hz => ?_)
  · rw [gF_s, bt_wx (by omega) hz]; simp
  · rw [gF_nj (by decide)]; simp
  · rw [gF_nj (by decide)]; simp
  · rw [gF_nj (by decide)]; exact h.2.2.2.1 z hz
  · rw [gF_nj (by decide), if_neg (by decide)]
  · rw [gF_nj (by decide), if_neg (by decide)]
  · rw [if_neg (by intro q; exact absurd q.1 (by decide))]; rfl
  · rw [if_neg (by intro q; exact absurd q.1 (by decide))]; rfl
theorem fr_nbh {σ : St} {M w : Nat} {cs : List Cl} (hw : w ≤ 11) (h : FR σ M cs) : FR (sF σ (pMe M) 3 (M_with (gF σ (pMe M) 3) (nI w) 1)) M (cs ++ [(120, nI w, 0)]) := by
  refine FR.add h (wf_c (q := 0) (by omega) (by decide)) (fun z hz => ?_) (fun z hz => ?_) (fun z hz => ?_) (fun z hz => ?_) ?_ ?_ (fun g hg => ?_) (fun z hz => ?_)
  · rw [gF_nj (by decide)]; simp
  · rw [gF_s, bt_wx (by omega) hz]; simp
  · rw [gF_nj (by decide)]; simp
  · rw [gF_nj (by decide)]; exact h.2.2.2.1 z hz
  · rw [gF_nj (by decide), if_neg (by decide)]
  · rw [gF_nj (by decide), if_neg (by decide)]
  · rw [if_neg (by intro q; exact absurd q.1 (by decide))]; rfl
  · rw [if_neg (by intro q; exact absurd q.1 (by decide))]; rfl
theorem fr_use {σ : St} {M w q : Nat} {cs : List Cl} (hw : w ≤ 11) (hq : q ≤ 9999) (h : FR σ M cs) : FR (sA σ (pMe M + 1) (nI w).toNatClampNeg (gA σ (pMe M + 1) (nI w).toNatClampNeg + nI q)) M (cs ++ [(117, nI w, nI q)]) := by
  rw [nI_clamp (by omega)]
  refine FR.add h (wf_c hw hq) (fun z hz => ?_) (fun z hz => ?_) (fun z hz => ?_) (fun z hz => h.2.2.2.1 z hz) ?_ ?_ (fun g hg => ?_) (fun z hz => ?_)
  · rw [gF_sA]; simp
  · rw [gF_sA]; simp
  · rw [gF_sA]; simp
  · rw [gF_sA, if_neg (by decide)]
  · rw [gF_sA, if_neg (by decide)]
  · by_cases e : g = w
    · subst e; rw [gA_s, if_pos ⟨rfl, rfl⟩]
    · rw [gA_nj e, if_neg (fun z => e ((nI_eq (by omega) (by omega)).mp z.2).symm)]
  · rw [gA_np (by omega), if_neg (fun z => absurd z.1 (by decide))]
theorem fr_aft {σ : St} {M w q : Nat} {cs : List Cl} (hw : w ≤ 11) (hq : q ≤ 9999) (h : FR σ M cs) : FR (sA (sF σ (pMe M) 4 (M_with (gF σ (pMe M) 4) (nI w) 1)) (pMe M + 2) (nI w).toNatClampNeg (if gA (sF σ (pMe M) 4 (M_with (gF σ (pMe M) 4) (nI w) 1)) (pMe M + 2) (nI w).toNatClampNeg < nI q then nI q else gA (sF σ (pMe M) 4 (M_with (gF σ (pMe M) 4) (nI w) 1)) (pMe M + 2) (nI w).toNatClampNeg)) M (cs ++ [(97, nI w, nI q)]) := by
  rw [nI_clamp (by omega)]
  refine FR.add h (wf_c hw hq) (fun z hz => ?_) (fun z hz => ?_) (fun z hz => ?_) (fun z hz => ?_) ?_ ?_ (fun g hg => ?_) (fun z hz => ?_)
  · rw [gF_sA, gF_nj (by decide)]; simp
  · rw [gF_sA, gF_nj (by decide)]; simp
  · rw [gF_sA, gF_s, bt_wx (by omega) hz]; simp
  · rw [gF_sA, gF_s]; exact bt_w12 hw hz h.2.2.2.1
  · rw [gF_sA, gF_nj (by decide), if_neg (by decide)]
  · rw [gF_sA, gF_nj (by decide), if_neg (by decide)]
  · rw [gA_np (by omega), if_neg (fun z => absurd z.1 (by decide))]; rfl
  · by_cases e : z = w
    · subst e; rw [gA_s, if_pos (show (97 : Int32) = 97 ∧ nI z = nI z from ⟨rfl, rfl⟩)]; rfl
    · rw [gA_nj e, if_neg (fun y => e ((nI_eq (by omega) (by omega)).mp y.2).symm)]; rfl
theorem fr_flag {σ : St} {M f : Nat} {Lt : Int32} {cs : List Cl} (hf : (f = 5 ∧ Lt = 116) ∨ (f = 6 ∧ Lt = 105)) (h : FR σ M cs) : FR (sF σ (pMe M) f 1) M (cs ++ [(Lt, 0, 0)]) := by
  have a1 : ¬ Lt = 98 := by rcases hf with ⟨-, rfl⟩ | ⟨-, rfl⟩ <;> decide
  have a2 : ¬ Lt = 120 := by rcases hf with ⟨-, rfl⟩ | ⟨-, rfl⟩ <;> decide
  have a3 : ¬ Lt = 97 := by rcases hf with ⟨-, rfl⟩ | ⟨-, rfl⟩ <;> decide
  have a4 : ¬ Lt = 117 := by rcases hf with ⟨-, rfl⟩ | ⟨-, rfl⟩ <;> decide
  have b : f = 5 ∨ f = 6 := hf.imp And.left And.left
  refine FR.add h (wf_c (w := 0) (q := 0) (by decide) (by decide)) (fun z hz => ?_) (fun z hz => ?_) (fun z hz => ?_) (fun z hz => ?_) ?_ ?_ (fun g hg => ?_) (fun z hz => ?_)
  · rw [gF_nj (by omega)]; simp [a1]
  · rw [gF_nj (by omega)]; simp [a2]
  · rw [gF_nj (by omega)]; simp [a3]
  · rw [gF_nj (by omega)]; exact h.2.2.2.1 z hz
  · rcases hf with ⟨rfl, rfl⟩ | ⟨rfl, rfl⟩
    · rw [gF_s]; rfl
    · rw [gF_nj (by decide), if_neg (by decide)]
  · rcases hf with ⟨rfl, rfl⟩ | ⟨rfl, rfl⟩
    · rw [gF_nj (by decide), if_neg (by decide)]
    · rw [gF_s]; rfl
  · rw [if_neg (fun q => a4 q.1)]; rfl
  · rw [if_neg (fun q => a3 q.1)]; rfl
theorem isL {s : Int32} : (M_m_isLetter s = 0 ∧ ¬ s = 117 ∧ ¬ s = 98 ∧ ¬ s = 120 ∧ ¬ s = 97 ∧ ¬ s = 116 ∧ ¬ s = 105) ∨ (M_m_isLetter s = 1 ∧ (s = 117 ∨ s = 98 ∨ s = 120 ∨ s = 97 ∨ s = 116 ∨ s = 105)) := by
  unfold M_m_isLetter
  rw [vb_eq]
  by_cases h1 : s = 117
  · rw [if_pos h1]; exact Or.inr ⟨rfl, Or.inl h1⟩
  · rw [if_neg h1]
    by_cases h2 : s = 98
    · rw [if_pos h2]; exact Or.inr ⟨rfl, Or.inr (Or.inl h2)⟩
    · rw [if_neg h2]
      by_cases h3 : s = 120
      · rw [if_pos h3]; exact Or.inr ⟨rfl, Or.inr (Or.inr (Or.inl h3))⟩
      · rw [if_neg h3]
        by_cases h4 : s = 97
        · rw [if_pos h4]; exact Or.inr ⟨rfl, Or.inr (Or.inr (Or.inr (Or.inl h4)))⟩
        · rw [if_neg h4]
          by_cases h5 : s = 116
          · rw [if_pos h5]; exact Or.inr ⟨rfl, Or.inr (Or.inr (Or.inr (Or.inr (Or.inl h5))))⟩
          · rw [if_neg h5]
            by_cases h6 : s = 105
            · rw [if_pos h6]; exact Or.inr ⟨rfl, Or.inr (Or.inr (Or.inr (Or.inr (Or.inr h6))))⟩
            · rw [if_neg h6]; exact Or.inl ⟨rfl, h1, h2, h3, h4, h5, h6⟩
/-- which clause is read -/
theorem cl_none {σ τ : St} {i M L : Nat} (hP : PR σ τ i M L) (hn : i < L → ¬ gA τ 1 i = 117 ∧ ¬ gA τ 1 i = 98 ∧ ¬ gA τ 1 i = 120 ∧ ¬ gA τ 1 i = 97 ∧ ¬ gA τ 1 i = 116 ∧ ¬ gA τ 1 i = 105) : M_readClause σ M = (0, σ) := by
  rw [M_readClause, take_n (s := 117) hP (fun a => (hn a).1) (by decide), pb_mk, if_pos rfl, take_n (s := 98) hP (fun a => (hn a).2.1) (by decide), pb_mk, if_pos rfl, take_n (s := 120) hP (fun a => (hn a).2.2.1) (by decide), pb_mk, if_pos rfl, take_n (s := 97) hP (fun a => (hn a).2.2.2.1) (by decide), pb_mk, if_pos rfl, take_n (s := 116) hP (fun a => (hn a).2.2.2.2.1) (by decide), pb_mk, if_pos rfl, take_n (s := 105) hP (fun a => (hn a).2.2.2.2.2) (by decide), pb_mk, if_pos rfl]
theorem cl_kind {σ τ : St} {i M L : Nat} (hP : PR σ τ i M L) (hi : i < L) {s : Int32} (hs : gA τ 1 i = s) :
    (s = 117 → M_readClause σ M = M_readUse (sF σ 1 2 (nI (i + 1))) M) ∧ (s = 98 → M_readClause σ M = M_readBar (sF σ 1 2 (nI (i + 1))) M) ∧ (s = 120 → M_readClause σ M = M_readNotBehind (sF σ 1 2 (nI (i + 1))) M) ∧ (s = 97 → M_readClause σ M = M_readAfter (sF σ 1 2 (nI (i + 1))) M) ∧ (s = 116 → M_readClause σ M = (1, sF (sF σ 1 2 (nI (i + 1))) (pMe M) 5 1)) ∧ (s = 105 → M_readClause σ M = (1, sF (sF σ 1 2 (nI (i + 1))) (pMe M) 6 1)) := by
  have n1 : ¬ (1 : Int32) = 0 := by decide
  have N : ∀ t : Int32, ¬ s = t → ¬ t = -1 → M_take σ t = (0, σ) := fun t h1 h2 => take_n hP (fun _ => by rw [hs]; exact h1) h2
  have Y : M_take σ s = (1, sF σ 1 2 (nI (i + 1))) := take_y hP hi hs
  refine ⟨?_, ?_, ?_, ?_, ?_, ?_⟩
  · rintro rfl
    rw [M_readClause, Y, pb_mk, if_neg n1, pb_id]
  · rintro rfl
    rw [M_readClause, N 117 (by decide) (by decide), pb_mk, if_pos rfl, Y, pb_mk, if_neg n1, pb_id]
  · rintro rfl
    rw [M_readClause, N 117 (by decide) (by decide), pb_mk, if_pos rfl, N 98 (by decide) (by decide), pb_mk, if_pos rfl, Y, pb_mk, if_neg n1, pb_id]
  · rintro rfl
    rw [M_readClause, N 117 (by decide) (by decide), pb_mk, if_pos rfl, N 98 (by decide) (by decide), pb_mk, if_pos rfl, N 120 (by decide) (by decide), pb_mk, if_pos rfl, Y, pb_mk, if_neg n1, pb_id]
  · rintro rfl
    rw [M_readClause, N 117 (by decide) (by decide), pb_mk, if_pos rfl, N 98 (by decide) (by decide), pb_mk, if_pos rfl, N 120 (by decide) (by decide), pb_mk, if_pos rfl, N 97 (by decide) (by decide), pb_mk, if_pos rfl, Y, pb_mk, if_neg n1]
  · rintro rfl
    rw [M_readClause, N 117 (by decide) (by decide), pb_mk, if_pos rfl, N 98 (by decide) (by decide), pb_mk, if_pos rfl, N 120 (by decide) (by decide), pb_mk, if_pos rfl, N 97 (by decide) (by decide), pb_mk, if_pos rfl, N 116 (by decide) (by decide), pb_mk, if_pos rfl, Y, pb_mk, if_neg n1]
theorem clause {σ τ : St} {i M L k c : Nat} {dg : Int32} {cs : List Cl} (hP : PR σ τ i M L) (hk : k < 10) (hc : c = 10 * M + k) (hF : FR σ M cs) : Res (M_readClause σ M) (Fl i 0 k dg τ) σ τ M L k c cs := by
  have hcx := pr_cx hP (k := k) (by omega)
  rw [← hc] at hcx
  have e0 : pMe M = 4 + 3 * M := rfl
  by_cases hi : i < L
  · have hL := (pr_lt hP hi).1
    have hf : Fl i 0 k dg τ = if M_m_isLetter (gA τ 1 i) = 0 then (nI i, sA (sA (sA τ 3 c (gA τ 1 i)) 4 c 0) 5 c 0) else Fl (i + 1) (if gA τ 1 i = 116 then 5 else if gA τ 1 i = 105 then 5 else 1) k 0 (sA (sA (sA τ 3 c (gA τ 1 i)) 4 c 0) 5 c 0) := by
      rw [Fl_s hP.i50, f_0 hL, hcx, Fl_n hP.i50]
    have hC : CW τ (sA (sA (sA τ 3 c (gA τ 1 i)) 4 c 0) 5 c 0) c := ((CW.set (by omega)).trans (CW.set (by omega))).trans (CW.set (by omega))
    generalize hs : gA τ 1 i = s at hf hC
    have h3 : gA (sA (sA (sA τ 3 c s) 4 c 0) 5 c 0) 3 c = s := by rw [gA_np (by decide), gA_np (by decide), gA_s]
    have h4 : gA (sA (sA (sA τ 3 c s) 4 c 0) 5 c 0) 4 c = 0 := by rw [gA_np (by decide), gA_s]
    have h5 : gA (sA (sA (sA τ 3 c s) 4 c 0) 5 c 0) 5 c = 0 := by rw [gA_s]
    generalize sA (sA (sA τ 3 c s) 4 c 0) 5 c 0 = τ0 at hf hC h3 h4 h5
    have hP1 : PR (sF σ 1 2 (nI (i + 1))) τ0 (i + 1) M L := hP.up hC (by omega)
    obtain ⟨k1, k2, k3, k4, k5, k6⟩ := cl_kind hP hi hs
    rcases isL (s := s) with ⟨hl, n1, n2, n3, n4, n5, n6⟩ | ⟨hl, hs6⟩
    · rw [if_pos hl] at hf
      exact ⟨i, σ, τ0, hP.2.1, BW.rf, hP.1, Or.inl ⟨cl_none hP (fun _ => by rw [hs]; exact ⟨n1, n2, n3, n4, n5, n6⟩), hf, hC.mw hc hk⟩⟩
    · rw [if_neg (by rw [hl]; decide)] at hf
      refine Res.lift (σ1 := sF σ 1 2 (nI (i + 1))) (τ1 := τ0) hc hk BW.pos hC ?_
      have flag : ∀ f : Nat, (f = 5 ∧ s = 116) ∨ (f = 6 ∧ s = 105) → M_readClause σ M = (1, sF (sF σ 1 2 (nI (i + 1))) (pMe M) f 1) → Fl i 0 k dg τ = Fl (i + 1) 5 k 0 τ0 → Res (M_readClause σ M) (Fl i 0 k dg τ) (sF σ 1 2 (nI (i + 1))) τ0 M L k c cs := by
        intro f hfl hb hm
        have b : f ≤ 6 := by omega
        have hcx1 := pr_cx hP1 (k := k) (by omega)
        rw [← hc] at hcx1
        refine ⟨i + 1, _, τ0, by omega, BW.fld b, by rw [gF_np (by omega)]; exact gF_s _ _ _ _, Or.inr ⟨hb, CW.rf, ?_, 5, 0, hm, Or.inl rfl, fun a d => ?_⟩⟩
        · show FR _ M (cs ++ [(gA τ0 3 c, gA τ0 4 c, gA τ0 5 c)])
          rw [h3, h4, h5]
          exact fr_flag hfl hF.pos
        · refine ⟨τ0, ?_, MW.rf⟩
          rw [Fl_s hP1.i50, f_rest (pr_lt hP1 a).1 (Or.inr rfl) (Or.inl rfl), if_neg (fun z => by rw [z] at d; exact absurd d (by unfold dgt; decide))]
      rcases hs6 with e | e | e | e | e | e
      · rw [k1 e, hf, if_neg (by rw [e]; decide), if_neg (by rw [e]; decide)]
        exact cl_two (lo := 1) (Lt := 117) (sep := 42) (fun r1 r7 σ8 => sA σ8 (pMe M + 1) r1.toNatClampNeg ((gA σ8 (pMe M + 1) r1.toNatClampNeg) + r7)) hP1 hk hc (Or.inl ⟨rfl, rfl⟩) rfl (h3.trans e) h4 h5 hF.pos (fun w q σ8 hw hq h8 => ⟨fr_use hw hq h8, BW.ar1, rfl⟩)
      · rw [k2 e, hf, if_neg (by rw [e]; decide), if_neg (by rw [e]; decide)]
        exact cl_set (mo := 9) (Lt := 98) (fun r1 σ2 => sF σ2 (pMe M) 2 (M_with (gF σ2 (pMe M) 2) r1 1)) hP1 hk hc (by decide) rfl (h3.trans e) h4 h5 hF.pos (by decide) (fun w σ8 hw h8 => ⟨fr_bar hw h8, BW.fld (by decide), gF_np (by omega)⟩)
      · rw [k3 e, hf, if_neg (by rw [e]; decide), if_neg (by rw [e]; decide)]
        exact cl_set (mo := 11) (Lt := 120) (fun r1 σ2 => sF σ2 (pMe M) 3 (M_with (gF σ2 (pMe M) 3) r1 1)) hP1 hk hc (by decide) rfl (h3.trans e) h4 h5 hF.pos (by decide) (fun w σ8 hw h8 => ⟨fr_nbh hw h8, BW.fld (by decide), gF_np (by omega)⟩)
      · rw [k4 e, hf, if_neg (by rw [e]; decide), if_neg (by rw [e]; decide)]
        exact cl_two (lo := 0) (Lt := 97) (sep := 58) (fun r1 r7 σ8 => sA (sF σ8 (pMe M) 4 (M_with (gF σ8 (pMe M) 4) r1 1)) (pMe M + 2) r1.toNatClampNeg (if (gA (sF σ8 (pMe M) 4 (M_with (gF σ8 (pMe M) 4) r1 1)) (pMe M + 2) r1.toNatClampNeg) < r7 then r7 else (gA (sF σ8 (pMe M) 4 (M_with (gF σ8 (pMe M) 4) r1 1)) (pMe M + 2) r1.toNatClampNeg))) hP1 hk hc (Or.inr ⟨rfl, rfl⟩) rfl (h3.trans e) h4 h5 hF.pos (fun w q σ8 hw hq h8 => ⟨fr_aft hw hq h8, (BW.fld (by decide)).trans BW.ar2, by rw [gF_sA, gF_np (by omega)]⟩)
      · exact flag 5 (Or.inl ⟨rfl, e⟩) (k5 e) (by rw [hf, if_pos e])
      · exact flag 6 (Or.inr ⟨rfl, e⟩) (k6 e) (by rw [hf, if_neg (by rw [e]; decide), if_pos e])
  · obtain ⟨τ2, x1, x2⟩ := xf_end (st := 0) (dg := dg) hP hk hc hi (Or.inl rfl)
    exact ⟨i, σ, τ2, hP.2.1, BW.rf, hP.1, Or.inl ⟨cl_none hP (fun a => absurd a hi), x1, x2⟩⟩
def body (n k : Nat) (σ : St) (M : Nat) : Int32 × St := pb (M_readClause σ M) (fun r σ5 => if r = 0 then (0, σ5) else (if (gF σ5 1 2) < (gF σ5 1 1) then (M_readText_h16 n (k + 1) σ5 M) else (1, σ5)))
theorem CL_sn {τ τ' : St} {M k c : Nat} (hc : c = 10 * M + k) (h : CW τ τ' c) : CL τ' M (k + 1) = CL τ M k ++ [cl1 τ' c] := by
  unfold CL
  rw [List.range_succ, List.map_append, List.map_singleton, ← hc]
  congr 1
  apply List.map_congr_left
  intro a ha
  have := List.mem_range.mp ha
  unfold cl1
  rw [h.2.2.2 3 _ (by omega), h.2.2.2 4 _ (by omega), h.2.2.2 5 _ (by omega)]
theorem text_go {M L : Nat} : ∀ (n k i : Nat) (σ τ : St) (dg : Int32), k + n = 9 → PR σ τ i M L → FR σ M (CL τ M k) → ∃ (i' : Nat) (σ' τ' : St), i' ≤ L ∧ gF σ' 1 2 = nI i' ∧ BW σ σ' M ∧ MW τ τ' M ∧
    ((body (n + 1) k σ M = (0, σ') ∧ Fl i 0 k dg τ = (nI i', τ')) ∨ (body (n + 1) k σ M = (1, σ') ∧ Fl i 0 k dg τ = (-1, τ') ∧ FR σ' M (CL τ' M (nm τ' M)))) := by
  intro n
  induction n with
  | zero =>
    intro k i σ τ dg hkn hP hF
    obtain ⟨i1, σ1, τ1, a1, a2, a3, a4⟩ := clause (k := k) (c := 10 * M + k) (dg := dg) hP (by omega) rfl hF
    rcases a4 with ⟨b1, b2, b3⟩ | ⟨b1, b2, b3, st, dg1, b4, b5, b6⟩
    · exact ⟨i1, σ1, τ1, a1, a3, a2, b3, Or.inl ⟨by rw [body, b1, pb_mk, if_pos rfl], b2⟩⟩
    · have hP1 : PR σ1 τ1 i1 M L := hP.bw a2 (b2.mw rfl (by omega)) a3 a1
      have hcx := pr_cx hP1 (k := k) (by omega)
      have hM := hP.2.2.2.2.2.2.2.1
      by_cases hi : i1 < L
      · have hb : body (0 + 1) k σ M = (0, σ1) := by
          rw [body, b1, pb_mk, if_neg (show ¬ (1 : Int32) = 0 by decide), if_pos (by rw [hP1.1, hP1.2.2.2.2.1]; exact (nI_lt_iff (by have := hP1.i50; omega) (by have := hP1.2.2.1; omega)).mpr hi), M_readText_h16, if_pos (show (10 : Int32) ≤ nI (k + 1) from (nI_le_iff (a := 10) (by decide) (by omega)).mpr (by omega))]
        by_cases hs : dgt (gA τ1 1 i1)
        · obtain ⟨τ2, x1, x2⟩ := b6 hi hs
          exact ⟨i1, σ1, τ2, a1, a3, a2, (b2.mw rfl (by omega)).trans x2, Or.inl ⟨hb, by rw [b4, x1]⟩⟩
        · refine ⟨i1, σ1, τ1, a1, a3, a2, b2.mw rfl (by omega), Or.inl ⟨hb, ?_⟩⟩
          rw [b4, Fl_s hP1.i50, f_rest (pr_lt hP1 hi).1 (Or.inl hs) (by rw [hcx]; exact b5), if_pos (show (9 : Int32) ≤ nI k from (nI_le_iff (a := 9) (by decide) (by omega)).mpr (by omega))]
          split <;> rfl
      · obtain ⟨q1, -, e, q4⟩ := pr_ge hP1 hi
        have hk1 : (nI (k + 1)).toInt = ((k + 1 : Nat) : Int) := nI_toInt (by omega)
        refine ⟨i1, σ1, sA τ1 2 M (nI (k + 1)), a1, a3, a2, (b2.mw rfl (by omega)).trans (MW.many ⟨by rw [hk1]; omega, by rw [hk1]; omega⟩), Or.inr ⟨?_, ?_, ?_⟩⟩
        · rw [body, b1, pb_mk, if_neg (show ¬ (1 : Int32) = 0 by decide), if_neg (by rw [hP1.1, hP1.2.2.2.2.1]; exact fun z => hi ((nI_lt_iff (by have := hP1.i50; omega) (by have := hP1.2.2.1; omega)).mp z))]
        · rw [b4, Fl_s hP1.i50, f_end_ok q1 q4 (by rw [hcx]; exact b5), hP1.2.2.2.2.2.2.1, nI_clamp (by omega), nI_p1]
        · have e1 : nm (sA τ1 2 M (nI (k + 1))) M = k + 1 := by unfold nm; rw [gA_s, nI_clamp (by omega)]
          rw [e1, CL_eq (μ := τ1) (fun p h1 h2 => gA_ne (by omega)), CL_sn rfl b2]
          exact b3
  | succ n ih =>
    intro k i σ τ dg hkn hP hF
    obtain ⟨i1, σ1, τ1, a1, a2, a3, a4⟩ := clause (k := k) (c := 10 * M + k) (dg := dg) hP (by omega) rfl hF
    rcases a4 with ⟨b1, b2, b3⟩ | ⟨b1, b2, b3, st, dg1, b4, b5, b6⟩
    · exact ⟨i1, σ1, τ1, a1, a3, a2, b3, Or.inl ⟨by rw [body, b1, pb_mk, if_pos rfl], b2⟩⟩
    · have hP1 : PR σ1 τ1 i1 M L := hP.bw a2 (b2.mw rfl (by omega)) a3 a1
      have hcx := pr_cx hP1 (k := k) (by omega)
      have hM := hP.2.2.2.2.2.2.2.1
      by_cases hi : i1 < L
      · have hb : body (n + 1 + 1) k σ M = pb (M_take σ1 44) (fun r8 σ9 => (if r8 = 0 then (0, σ9) else body (n + 1) (k + 1) σ9 M)) := by
          rw [body, b1, pb_mk, if_neg (show ¬ (1 : Int32) = 0 by decide), if_pos (by rw [hP1.1, hP1.2.2.2.2.1]; exact (nI_lt_iff (by have := hP1.i50; omega) (by have := hP1.2.2.1; omega)).mpr hi), M_readText_h16, if_neg (show ¬ (10 : Int32) ≤ nI (k + 1) from nI_lt' (b := 10) (by omega) (by decide)), if_neg (show ¬ nI (k + 1) ≤ (0 : Int32) from nI_lt' (a := 0) (by omega) (by omega))]
          rfl
        have hns : ¬ gA τ1 1 i1 = 44 → body (n + 1 + 1) k σ M = (0, σ1) := fun h => by
          rw [hb, take_n (s := 44) hP1 (fun _ => h) (by decide), pb_mk, if_pos rfl]
        by_cases hs : dgt (gA τ1 1 i1)
        · obtain ⟨τ2, x1, x2⟩ := b6 hi hs
          exact ⟨i1, σ1, τ2, a1, a3, a2, (b2.mw rfl (by omega)).trans x2, Or.inl ⟨hns (fun z => by rw [z] at hs; exact absurd hs (by unfold dgt; decide)), by rw [b4, x1]⟩⟩
        · have hfl : Fl i 0 k dg τ = if gA τ1 1 i1 = 44 then Fl (i1 + 1) 0 (k + 1) dg1 τ1 else (nI i1, τ1) := by
            rw [b4, Fl_s hP1.i50, f_rest (pr_lt hP1 hi).1 (Or.inl hs) (by rw [hcx]; exact b5), if_neg (show ¬ (9 : Int32) ≤ nI k from nI_lt' (b := 9) (by omega) (by decide)), nI_p1, Fl_n hP1.i50]
          by_cases h44 : gA τ1 1 i1 = 44
          · rw [if_pos h44] at hfl
            have hP2 : PR (sF σ1 1 2 (nI (i1 + 1))) τ1 (i1 + 1) M L := hP1.bw BW.pos MW.rf (gF_s _ _ _ _) (by omega)
            have hF2 : FR (sF σ1 1 2 (nI (i1 + 1))) M (CL τ1 M (k + 1)) := by
              rw [CL_sn rfl b2]
              exact b3.pos
            obtain ⟨i', σ', τ', c1, c2, c3, c4, c5⟩ := ih (k + 1) (i1 + 1) (sF σ1 1 2 (nI (i1 + 1))) τ1 dg1 (by omega) hP2 hF2
            refine ⟨i', σ', τ', c1, c2, (a2.trans BW.pos).trans c3, (b2.mw rfl (by omega)).trans c4, ?_⟩
            have hb2 : body (n + 1 + 1) k σ M = body (n + 1) (k + 1) (sF σ1 1 2 (nI (i1 + 1))) M := by
              rw [hb, take_y hP1 hi h44, pb_mk, if_neg (show ¬ (1 : Int32) = 0 by decide)]
            rw [hb2, hfl]
            exact c5
          · rw [if_neg h44] at hfl
            exact ⟨i1, σ1, τ1, a1, a3, a2, b2.mw rfl (by omega), Or.inl ⟨hns h44, hfl⟩⟩
      · obtain ⟨q1, -, e, q4⟩ := pr_ge hP1 hi
        have hk1 : (nI (k + 1)).toInt = ((k + 1 : Nat) : Int) := nI_toInt (by omega)
        refine ⟨i1, σ1, sA τ1 2 M (nI (k + 1)), a1, a3, a2, (b2.mw rfl (by omega)).trans (MW.many ⟨by rw [hk1]; omega, by rw [hk1]; omega⟩), Or.inr ⟨?_, ?_, ?_⟩⟩
        · rw [body, b1, pb_mk, if_neg (show ¬ (1 : Int32) = 0 by decide), if_neg (by rw [hP1.1, hP1.2.2.2.2.1]; exact fun z => hi ((nI_lt_iff (by have := hP1.i50; omega) (by have := hP1.2.2.1; omega)).mp z))]
        · rw [b4, Fl_s hP1.i50, f_end_ok q1 q4 (by rw [hcx]; exact b5), hP1.2.2.2.2.2.2.1, nI_clamp (by omega), nI_p1]
        · have e1 : nm (sA τ1 2 M (nI (k + 1))) M = k + 1 := by unfold nm; rw [gA_s, nI_clamp (by omega)]
          rw [e1, CL_eq (μ := τ1) (fun p h1 h2 => gA_ne (by omega)), CL_sn rfl b2]
          exact b3

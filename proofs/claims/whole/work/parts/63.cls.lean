/-! both readings of a clause -/
def MW (τ τ' : St) (M : Nat) : Prop := gF τ' = gF τ ∧ gL τ' = gL τ ∧ (∀ p, p < 2 ∨ 5 < p → gA τ' p = gA τ p) ∧ (∀ j, j ≠ M → gA τ' 2 j = gA τ 2 j) ∧ (∀ p q, 3 ≤ p → p ≤ 5 → q < 10 * M ∨ 10 * M + 10 ≤ q → gA τ' p q = gA τ p q) ∧ (0 ≤ (gA τ 2 M).toInt ∧ (gA τ 2 M).toInt ≤ 10 → 0 ≤ (gA τ' 2 M).toInt ∧ (gA τ' 2 M).toInt ≤ 10)
theorem MW.rf {τ : St} {M : Nat} : MW τ τ M := ⟨rfl, rfl, fun _ _ => rfl, fun _ _ => rfl, fun _ _ _ _ _ => rfl, id⟩
theorem MW.trans {a b d : St} {M : Nat} (h : MW a b M) (g : MW b d M) : MW a d M := ⟨g.1.trans h.1, g.2.1.trans h.2.1, fun p hp => (g.2.2.1 p hp).trans (h.2.2.1 p hp), fun j hj => (g.2.2.2.1 j hj).trans (h.2.2.2.1 j hj), fun p q h1 h2 h3 => (g.2.2.2.2.1 p q h1 h2 h3).trans (h.2.2.2.2.1 p q h1 h2 h3), fun z => g.2.2.2.2.2 (h.2.2.2.2.2 z)⟩
theorem CW.mw {τ τ' : St} {c M k : Nat} (h : CW τ τ' c) (hc : c = 10 * M + k) (hk : k < 10) : MW τ τ' M := ⟨h.1, h.2.1, fun p hp => h.2.2.1 p (by omega), fun j _ => by rw [h.2.2.1 2 (by omega)], fun p q _ _ hq => h.2.2.2 p q (by omega), by rw [h.2.2.1 2 (by omega)]; exact id⟩
theorem MW.many {τ : St} {M : Nat} {v : Int32} (hv : 0 ≤ v.toInt ∧ v.toInt ≤ 10) : MW τ (sA τ 2 M v) M := ⟨rfl, rfl, fun p hp => gA_ne (by omega), fun j hj => gA_nj hj, fun p q h1 _ _ => gA_np (by omega), fun _ => by rw [gA_s]; exact hv⟩
def BW (σ σ' : St) (M : Nat) : Prop := (∀ i, i ≠ 1 → i ≠ pMe M → i ≠ pMe M + 1 → i ≠ pMe M + 2 → same σ σ' i) ∧ (∀ j, 6 < j → gF σ' (pMe M) j = gF σ (pMe M) j) ∧ ∀ j, j ≠ 2 → gF σ' 1 j = gF σ 1 j
theorem BW.rf {σ : St} {M : Nat} : BW σ σ M := ⟨fun _ _ _ _ _ => same.rf, fun _ _ => rfl, fun _ _ => rfl⟩
theorem BW.trans {a b d : St} {M : Nat} (h : BW a b M) (g : BW b d M) : BW a d M := ⟨fun i h1 h2 h3 h4 => (h.1 i h1 h2 h3 h4).trans (g.1 i h1 h2 h3 h4), fun j hj => (g.2.1 j hj).trans (h.2.1 j hj), fun j hj => (g.2.2 j hj).trans (h.2.2 j hj)⟩
theorem BW.pos {σ : St} {M : Nat} {v : Int32} : BW σ (sF σ 1 2 v) M := by
  have e : pMe M = 4 + 3 * M := rfl
  exact ⟨fun i h _ _ _ => same_sF h, fun j _ => gF_np (by omega), fun j hj => gF_nj hj⟩
theorem BW.fld {σ : St} {M j : Nat} {v : Int32} (hj : j ≤ 6) : BW σ (sF σ (pMe M) j v) M := by
  have e : pMe M = 4 + 3 * M := rfl
  exact ⟨fun i _ h _ _ => same_sF h, fun b hb => gF_nj (by omega), fun b _ => gF_np (by omega)⟩
theorem BW.ar1 {σ : St} {M j : Nat} {v : Int32} : BW σ (sA σ (pMe M + 1) j v) M := ⟨fun i _ _ h _ => same_sA h, fun _ _ => rfl, fun _ _ => rfl⟩
theorem BW.ar2 {σ : St} {M j : Nat} {v : Int32} : BW σ (sA σ (pMe M + 2) j v) M := ⟨fun i _ _ _ h => same_sA h, fun _ _ => rfl, fun _ _ => rfl⟩
theorem PR.bw {σ σ' τ τ' : St} {i i' M L : Nat} (h : PR σ τ i M L) (hb : BW σ σ' M) (hm : MW τ τ' M) (h2 : gF σ' 1 2 = nI i') (hi : i' ≤ L) : PR σ' τ' i' M L := by
  obtain ⟨h1, h2', h3, h4, h5, h6, h7, h8, h9⟩ := h
  have hp : pMe M = 4 + 3 * M := rfl
  refine ⟨h2, hi, h3, h4, by rw [hb.2.2 1 (by decide)]; exact h5, by rw [hm.1]; exact h6, by rw [hm.1]; exact h7, h8, fun j hj => ?_⟩
  rw [(hb.1 2 (by decide) (by omega) (by omega) (by omega)).2.2, hm.2.2.1 1 (by decide)]
  exact h9 j hj
theorem PR.i50 {σ τ : St} {i M L : Nat} (h : PR σ τ i M L) : i ≤ 50 := by
  have := h.2.1; have := h.2.2.1; omega
/-- the reference stops at this sign -/
def XF (τ : St) (i : Nat) (st : Int32) (k : Nat) (dg : Int32) (M : Nat) : Prop := ∃ τ', Fl i st k dg τ = (nI i, τ') ∧ MW τ τ' M
theorem xf_dig1 {σ τ : St} {i M L k c : Nat} {st dg : Int32} (hP : PR σ τ i M L) (hk : k < 10) (hc : c = 10 * M + k) (hi : i < L) (hs : dgt (gA τ 1 i)) (hst : st = 1 ∨ st = 2) (hbad : 5 ≤ dg + 1 ∨ M_m_greatest (gA τ 3 c) < ((10 * gA τ 4 c) + gA τ 1 i) - 48) : XF τ i st k dg M := by
  have hcx := pr_cx hP (k := k) (by omega)
  rw [← hc] at hcx
  refine ⟨sA (sA τ 4 c (((10 * gA τ 4 c) + gA τ 1 i) - 48)) 5 c 0, ?_, ((CW.set (by omega)).trans (CW.set (by omega))).mw hc hk⟩
  rw [Fl_s hP.i50, f_dig1 (pr_lt hP hi).1 hs hst rfl, hcx, if_pos hbad]
theorem xf_dig2 {σ τ : St} {i M L k c : Nat} {st dg : Int32} (hP : PR σ τ i M L) (hk : k < 10) (hc : c = 10 * M + k) (hi : i < L) (hs : dgt (gA τ 1 i)) (hst : st = 3 ∨ st = 4) (hbad : 5 ≤ dg + 1 ∨ (gA τ 3 c = 117 ∧ ¬ 0 < ((10 * gA τ 5 c) + gA τ 1 i) - 48 ∧ 4 ≤ dg + 1)) : XF τ i st k dg M := by
  have hcx := pr_cx hP (k := k) (by omega)
  rw [← hc] at hcx
  refine ⟨sA (sA τ 4 c (gA τ 4 c)) 5 c (((10 * gA τ 5 c) + gA τ 1 i) - 48), ?_, ((CW.set (by omega)).trans (CW.set (by omega))).mw hc hk⟩
  rw [Fl_s hP.i50, f_dig2 (pr_lt hP hi).1 hs hst rfl, hcx, if_pos hbad]
theorem xf_end {σ τ : St} {i M L k c : Nat} {st dg : Int32} (hP : PR σ τ i M L) (hk : k < 10) (hc : c = 10 * M + k) (hi : ¬ i < L) (hw : st = 0 ∨ st = 1 ∨ st = 3 ∨ (st = 2 ∧ (gA τ 3 c = 117 ∨ gA τ 3 c = 97)) ∨ (st = 4 ∧ ¬ gA τ 3 c = 97 ∧ gA τ 5 c ≤ 0)) : XF τ i st k dg M := by
  have hcx := pr_cx hP (k := k) (by omega)
  rw [← hc] at hcx
  obtain ⟨q1, -, e, q4⟩ := pr_ge hP hi
  have hM := hP.2.2.2.2.2.2.2.1
  have hk1 : (nI (k + 1)).toInt = ((k + 1 : Nat) : Int) := nI_toInt (by omega)
  refine ⟨sA τ 2 M (nI (k + 1)), ?_, MW.many ⟨by rw [hk1]; omega, by rw [hk1]; omega⟩⟩
  rw [Fl_s hP.i50, f_end_no q1 q4 (by rw [hcx]; exact hw), hP.2.2.2.2.2.1, hP.2.2.2.2.2.2.1, nI_clamp (by omega), nI_p1, e]
theorem xf_no {σ τ : St} {i M L k c : Nat} {st dg : Int32} (hP : PR σ τ i M L) (hk : k < 10) (hc : c = 10 * M + k) (hw : st = 1 ∨ st = 3 ∨ (st = 4 ∧ ¬ gA τ 3 c = 97 ∧ gA τ 5 c ≤ 0)) (hx : i < L → dgt (gA τ 1 i) → XF τ i st k dg M) : XF τ i st k dg M := by
  have hcx := pr_cx hP (k := k) (by omega)
  rw [← hc] at hcx
  by_cases hi : i < L
  · by_cases hs : dgt (gA τ 1 i)
    · exact hx hi hs
    · exact ⟨τ, by rw [Fl_s hP.i50, f_rest_no (pr_lt hP hi).1 hs (by rw [hcx]; exact hw)], MW.rf⟩
  · refine xf_end hP hk hc hi ?_
    rcases hw with h | h | h
    · exact Or.inr (Or.inl h)
    · exact Or.inr (Or.inr (Or.inl h))
    · exact Or.inr (Or.inr (Or.inr (Or.inr h)))
theorem xf_sep {σ τ : St} {i M L k c : Nat} {dg : Int32} (hP : PR σ τ i M L) (hk : k < 10) (hc : c = 10 * M + k) (hl : gA τ 3 c = 117 ∨ gA τ 3 c = 97) (hx : i < L → dgt (gA τ 1 i) → XF τ i 2 k dg M) (hn : i < L → ¬ gA τ 1 i = (if gA τ 3 c = 117 then 42 else 58)) : XF τ i 2 k dg M := by
  have hcx := pr_cx hP (k := k) (by omega)
  rw [← hc] at hcx
  by_cases hi : i < L
  · by_cases hs : dgt (gA τ 1 i)
    · exact hx hi hs
    · exact ⟨τ, by rw [Fl_s hP.i50, f_sep (pr_lt hP hi).1 (by rw [hcx]; exact hl) hs, hcx, if_neg (hn hi)], MW.rf⟩
  · exact xf_end hP hk hc hi (Or.inr (Or.inr (Or.inr (Or.inl ⟨rfl, hl⟩))))
theorem take_y {σ τ : St} {i M L : Nat} {s : Int32} (hP : PR σ τ i M L) (hi : i < L) (hs : gA τ 1 i = s) : M_take σ s = (1, sF σ 1 2 (nI (i + 1))) := by
  unfold M_take
  rw [(pr_lt hP hi).2, if_pos hs, hP.1, nI_p1]
theorem take_n {σ τ : St} {i M L : Nat} {s : Int32} (hP : PR σ τ i M L) (hn : i < L → ¬ gA τ 1 i = s) (hs : ¬ s = -1) : M_take σ s = (0, σ) := by
  unfold M_take
  by_cases hi : i < L
  · rw [(pr_lt hP hi).2, if_neg (hn hi)]
  · rw [(pr_ge hP hi).2.1, if_neg (fun e => hs e.symm)]
theorem FR.pos {σ : St} {M : Nat} {cs : List Cl} {v : Int32} (h : FR σ M cs) : FR (sF σ 1 2 v) M cs := by
  have e : pMe M = 4 + 3 * M := rfl
  exact FR.fr (fun j _ => gF_np (by omega)) rfl rfl h
/-- what a clause's reading gives, on both sides -/
def Res (rb rm : Int32 × St) (σ τ : St) (M L k c : Nat) (cs : List Cl) : Prop := ∃ (i' : Nat) (σ' τ' : St), i' ≤ L ∧ BW σ σ' M ∧ gF σ' 1 2 = nI i' ∧ ((rb = (0, σ') ∧ rm = (nI i', τ') ∧ MW τ τ' M) ∨ (rb = (1, σ') ∧ CW τ τ' c ∧ FR σ' M (cs ++ [cl1 τ' c]) ∧ ∃ st dg, rm = Fl i' st k dg τ' ∧ wholeP st (gA τ' 3 c) (gA τ' 5 c) ∧ (i' < L → dgt (gA τ' 1 i') → XF τ' i' st k dg M)))
theorem Res.lift {rb rm : Int32 × St} {σ σ1 τ τ1 : St} {M L k c : Nat} {cs : List Cl} (hc : c = 10 * M + k) (hk : k < 10) (hb : BW σ σ1 M) (hm : CW τ τ1 c) (h : Res rb rm σ1 τ1 M L k c cs) : Res rb rm σ τ M L k c cs := by
  obtain ⟨i', σ', τ', h1, h2, h3, h4⟩ := h
  refine ⟨i', σ', τ', h1, hb.trans h2, h3, ?_⟩
  rcases h4 with ⟨a, b, d⟩ | ⟨a, b, d⟩
  · exact Or.inl ⟨a, b, (hm.mw hc hk).trans d⟩
  · exact Or.inr ⟨a, hm.trans b, d⟩
theorem cl_set {σ τ : St} {i M L k c mo : Nat} {Lt : Int32} {cs : List Cl} (fin : Int32 → St → St) (hP : PR σ τ i M L) (hk : k < 10) (hc : c = 10 * M + k) (hmo : mo ≤ 11) (hgr : M_m_greatest Lt = nI mo) (h3 : gA τ 3 c = Lt) (h4 : gA τ 4 c = 0) (h5 : gA τ 5 c = 0) (hF : FR σ M cs) (hl : ¬ Lt = 117 ∧ ¬ Lt = 97)
    (hfin : ∀ (w : Nat) (σ8 : St), w ≤ mo → FR σ8 M cs → FR (fin (nI w) σ8) M (cs ++ [(Lt, nI w, 0)]) ∧ BW σ8 (fin (nI w) σ8) M ∧ gF (fin (nI w) σ8) 1 2 = gF σ8 1 2) :
    Res (pb (M_readNumber σ 0 (nI mo)) (fun r1 σ2 => (if r1 = (-1) then (0, σ2) else (1, fin r1 σ2)))) (Fl i 1 k 0 τ) σ τ M L k c cs := by
  obtain ⟨d, w, i1, τ1, r1, r2, r3, r4, r5, r6, r7, r8, r9, r10⟩ := num1 (M := M) (L := L) (k := k) (mo := mo) (c := c) (Lt := Lt) hk hc hmo hgr 4 0 0 i σ τ rfl hP h3 h4 h5 (Nat.zero_le _)
  have hrd : M_readNumber σ 0 (nI mo) = ((if d = 0 then -1 else nI w), sF σ 1 2 (nI i1)) := r1
  rw [if_pos (show (0 : Nat) = 0 from rfl)] at r2
  have r2' : Fl i 1 k 0 τ = Fl i1 (if d = 0 then 1 else 2) k (nI d) τ1 := r2
  have hP1 : PR (sF σ 1 2 (nI i1)) τ1 i1 M L := hP.up r3 r9
  by_cases hd : d = 0
  · subst hd
    obtain ⟨τ2, x1, x2⟩ := xf_no (st := 1) (dg := nI 0) hP1 hk hc (Or.inl rfl) (fun a b => xf_dig1 hP1 hk hc a b (Or.inl rfl) (by rw [r4, hgr]; exact r10 a b))
    exact ⟨i1, sF σ 1 2 (nI i1), τ2, r9, BW.pos, gF_s _ _ _ _, Or.inl ⟨by rw [hrd, if_pos rfl, pb_mk, if_pos rfl], by rw [r2', if_pos rfl]; exact x1, (r3.mw hc hk).trans x2⟩⟩
  · obtain ⟨g1, g2, g3⟩ := hfin w (sF σ 1 2 (nI i1)) r7 hF.pos
    refine ⟨i1, fin (nI w) (sF σ 1 2 (nI i1)), τ1, r9, BW.pos.trans g2, by rw [g3]; exact gF_s _ _ _ _, Or.inr ⟨by rw [hrd, if_neg hd, pb_mk, if_neg (nI_m1 (by omega))], r3, ?_, 2, nI d, by rw [r2', if_neg hd], Or.inr (Or.inl ⟨rfl, by rw [r4]; exact hl⟩), fun a b => xf_dig1 hP1 hk hc a b (Or.inr rfl) (by rw [r4, hgr]; exact r10 a b)⟩⟩
    show FR _ M (cs ++ [(gA τ1 3 c, gA τ1 4 c, gA τ1 5 c)])
    rw [r4, r5, r6]
    exact g1
theorem cl_two {σ τ : St} {i M L k c lo : Nat} {Lt sep : Int32} {cs : List Cl} (fin : Int32 → Int32 → St → St) (hP : PR σ τ i M L) (hk : k < 10) (hc : c = 10 * M + k) (hlo : (lo = 1 ∧ Lt = 117) ∨ (lo = 0 ∧ Lt = 97)) (hsep : sep = if Lt = 117 then 42 else 58) (h3 : gA τ 3 c = Lt) (h4 : gA τ 4 c = 0) (h5 : gA τ 5 c = 0) (hF : FR σ M cs)
    (hfin : ∀ (w q : Nat) (σ8 : St), w ≤ 11 → q ≤ 9999 → FR σ8 M cs → FR (fin (nI w) (nI q) σ8) M (cs ++ [(Lt, nI w, nI q)]) ∧ BW σ8 (fin (nI w) (nI q) σ8) M ∧ gF (fin (nI w) (nI q) σ8) 1 2 = gF σ8 1 2) :
    Res (pb (M_readNumber σ 0 (nI 11)) (fun r1 σ2 => (if r1 = (-1) then (0, σ2) else (pb (M_take σ2 sep) (fun r4 σ5 => (if r4 = 0 then (0, σ5) else (pb (M_readNumber σ5 (nI lo) (nI 9999)) (fun r7 σ8 => (if r7 = (-1) then (0, σ8) else (1, fin r1 r7 σ8)))))))))) (Fl i 1 k 0 τ) σ τ M L k c cs := by
  have hgr : M_m_greatest Lt = nI 11 := by rcases hlo with ⟨_, rfl⟩ | ⟨_, rfl⟩ <;> rfl
  have hl : Lt = 117 ∨ Lt = 97 := hlo.imp And.right And.right
  have hsm : ¬ sep = -1 := by rw [hsep]; split <;> decide
  have hsd : ¬ dgt sep := by rw [hsep]; unfold dgt; split <;> decide
  obtain ⟨d, w, i1, τ1, r1, r2, r3, r4, r5, r6, r7, r8, r9, r10⟩ := num1 (M := M) (L := L) (k := k) (mo := 11) (c := c) (Lt := Lt) hk hc (by decide) hgr 4 0 0 i σ τ rfl hP h3 h4 h5 (Nat.zero_le _)
  have hrd : M_readNumber σ 0 (nI 11) = ((if d = 0 then -1 else nI w), sF σ 1 2 (nI i1)) := r1
  rw [if_pos (show (0 : Nat) = 0 from rfl)] at r2
  have r2' : Fl i 1 k 0 τ = Fl i1 (if d = 0 then 1 else 2) k (nI d) τ1 := r2
  have hP1 : PR (sF σ 1 2 (nI i1)) τ1 i1 M L := hP.up r3 r9
  have hxd : ∀ st : Int32, st = 1 ∨ st = 2 → i1 < L → dgt (gA τ1 1 i1) → XF τ1 i1 st k (nI d) M := fun st hst a b => xf_dig1 hP1 hk hc a b hst (by rw [r4, hgr]; exact r10 a b)
  by_cases hd : d = 0
  · subst hd
    obtain ⟨τ2, x1, x2⟩ := xf_no (st := 1) (dg := nI 0) hP1 hk hc (Or.inl rfl) (hxd 1 (Or.inl rfl))
    exact ⟨i1, sF σ 1 2 (nI i1), τ2, r9, BW.pos, gF_s _ _ _ _, Or.inl ⟨by rw [hrd, if_pos rfl, pb_mk, if_pos rfl], by rw [r2', if_pos rfl]; exact x1, (r3.mw hc hk).trans x2⟩⟩
  · rw [if_neg hd] at r2' hrd
    have hwm : ¬ nI w = -1 := nI_m1 (by omega)
    rw [hrd, pb_mk, if_neg hwm]
    by_cases hs : i1 < L ∧ gA τ1 1 i1 = sep
    · have hi1 := hs.1
      have hnd : ¬ dgt (gA τ1 1 i1) := by rw [hs.2]; exact hsd
      have hcx := pr_cx hP1 (k := k) (by omega)
      rw [← hc] at hcx
      have hfl : Fl i1 2 k (nI d) τ1 = Fl (i1 + 1) 3 k 0 τ1 := by
        rw [Fl_s hP1.i50, f_sep (pr_lt hP1 hi1).1 (by rw [hcx, r4]; exact hl) hnd, hcx, r4, if_pos (by rw [hs.2]; exact hsep), Fl_n hP1.i50]
      rw [take_y hP1 hi1 hs.2, pb_mk, if_neg (show ¬ (1 : Int32) = 0 by decide), sF_sF]
      have hP2 : PR (sF σ 1 2 (nI (i1 + 1))) τ1 (i1 + 1) M L := hP.up r3 (by omega)
      obtain ⟨d2, w2, i2, τ2, t1, t2, t3, t4, t5, t6, t7, t8, t9, t10⟩ := num2 (M := M) (L := L) (k := k) (c := c) (lo := lo) (Lt := Lt) hk hc hlo 4 0 0 (i1 + 1) (sF σ 1 2 (nI (i1 + 1))) τ1 rfl hP2 r4 r6 (by decide)
      have htd : M_readNumber (sF σ 1 2 (nI (i1 + 1))) (nI lo) (nI 9999) = ((if d2 = 0 then -1 else if nI lo ≤ nI w2 then nI w2 else -1), sF (sF σ 1 2 (nI (i1 + 1))) 1 2 (nI i2)) := t1
      rw [sF_sF] at htd
      rw [if_pos (show (0 : Nat) = 0 from rfl)] at t2
      have t2' : Fl i 1 k 0 τ = Fl i2 (if d2 = 0 then 3 else 4) k (nI d2) τ2 := by rw [r2', hfl]; exact t2
      have hP3 : PR (sF σ 1 2 (nI i2)) τ2 i2 M L := hP.up (r3.trans t3) t9
      have hyd : ∀ st : Int32, st = 3 ∨ st = 4 → i2 < L → dgt (gA τ2 1 i2) → XF τ2 i2 st k (nI d2) M := fun st hst a b => xf_dig2 hP3 hk hc a b hst (t10 a b)
      rw [htd, pb_mk]
      by_cases hd2 : d2 = 0
      · subst hd2
        obtain ⟨τ3, x1, x2⟩ := xf_no (st := 3) (dg := nI 0) hP3 hk hc (Or.inr (Or.inl rfl)) (hyd 3 (Or.inl rfl))
        exact ⟨i2, sF σ 1 2 (nI i2), τ3, t9, BW.pos, gF_s _ _ _ _, Or.inl ⟨by rw [if_pos rfl, if_pos rfl], by rw [t2', if_pos rfl]; exact x1, ((r3.trans t3).mw hc hk).trans x2⟩⟩
      · rw [if_neg hd2] at t2'
        rw [if_neg hd2]
        by_cases hlw : nI lo ≤ nI w2
        · rw [if_pos hlw, if_neg (nI_m1 (by omega))]
          obtain ⟨g1, g2, g3⟩ := hfin w w2 (sF σ 1 2 (nI i2)) r7 t7 hF.pos
          refine ⟨i2, fin (nI w) (nI w2) (sF σ 1 2 (nI i2)), τ2, t9, BW.pos.trans g2, by rw [g3]; exact gF_s _ _ _ _, Or.inr ⟨rfl, r3.trans t3, ?_, 4, nI d2, t2', Or.inr (Or.inr ⟨rfl, ?_⟩), hyd 4 (Or.inr rfl)⟩⟩
          · show FR _ M (cs ++ [(gA τ2 3 c, gA τ2 4 c, gA τ2 5 c)])
            rw [t4, t5, t6, r5]
            exact g1
          · rcases hlo with ⟨e1, e2⟩ | ⟨e1, e2⟩
            · right
              rw [t6]
              intro z
              have z1 := (nI_le_iff (a := w2) (b := 0) (by omega) (by decide)).mp z
              have z2 := (nI_le_iff (a := lo) (b := w2) (by omega) (by omega)).mp hlw
              omega
            · left; rw [t4]; exact e2
        · rw [if_neg hlw, if_pos rfl]
          have e1 : lo = 1 ∧ Lt = 117 := by
            rcases hlo with h | h
            · exact h
            · exact absurd ((nI_le_iff (a := lo) (b := w2) (by omega) (by omega)).mpr (by omega)) hlw
          have e2 : w2 = 0 := by
            rcases Nat.eq_zero_or_pos w2 with h | h
            · exact h
            · exact absurd ((nI_le_iff (a := lo) (b := w2) (by omega) (by omega)).mpr (by omega)) hlw
          obtain ⟨τ3, x1, x2⟩ := xf_no (st := 4) (dg := nI d2) hP3 hk hc (Or.inr (Or.inr ⟨rfl, by rw [t4, e1.2]; decide, by rw [t6, e2]; decide⟩)) (hyd 4 (Or.inr rfl))
          exact ⟨i2, sF σ 1 2 (nI i2), τ3, t9, BW.pos, gF_s _ _ _ _, Or.inl ⟨rfl, by rw [t2']; exact x1, ((r3.trans t3).mw hc hk).trans x2⟩⟩
    · obtain ⟨τ3, x1, x2⟩ := xf_sep (dg := nI d) hP1 hk hc (by rw [r4]; exact hl) (hxd 2 (Or.inr rfl)) (fun a b => hs ⟨a, by rw [b, r4]; exact hsep.symm⟩)
      rw [take_n hP1 (fun a b => hs ⟨a, b⟩) hsm, pb_mk, if_pos rfl]
      exact ⟨i1, sF σ 1 2 (nI i1), τ3, r9, BW.pos, gF_s _ _ _ _, Or.inl ⟨rfl, by rw [r2']; exact x1, (r3.mw hc hk).trans x2⟩⟩

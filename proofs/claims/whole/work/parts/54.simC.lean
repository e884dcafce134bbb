/-! goods apart and on shelves; rights and trials -/
theorem ixN {k : Int32} {K a b : Nat} (hk : k = nI K) (h : K * a + b < 2 ^ 31) : (k * nI a + nI b).toNatClampNeg = K * a + b := by
  rw [hk, pk_mul K a, nI_add (K * a) b, nI_clamp h]
theorem Rel.f0 {σ σ' μ μ' : St} (hR : Rel σ μ) (h : same σ σ' 0) (hf : ∀ k, gF μ' 0 k = gF μ 0 k) : RCt σ' μ' := ⟨(h.1 6).trans (hR.ct.1.trans (hf 3).symm), (h.1 7).trans (hR.ct.2.trans (hf 10).symm)⟩
theorem Rel.fd {σ σ' μ μ' : St} (hR : Rel σ μ) (h : same σ σ' 1) (h2 : same σ σ' 2) (hf : ∀ k, gF μ' 0 k = gF μ 0 k) (hm : gA μ' 1 = gA μ 1) : RPd σ' μ' := ⟨(h.1 1).trans (hR.pd.1.trans (hf 1).symm), fun k hk => by rw [h2.2.2, hm]; exact hR.pd.2 k hk⟩
theorem Rel.fl {σ σ' μ μ' : St} (hR : Rel σ μ) (h : same σ σ' 0) (h2 : same σ σ' 94) (hf : ∀ k, gF μ' 0 k = gF μ 0 k) (hm : gA μ' 20 = gA μ 20) : RPl σ' μ' := ⟨(h.1 8).trans (hR.pl.1.trans (hf 23).symm), fun k hk => by rw [h2.2.2, hm]; exact hR.pl.2 k hk⟩
theorem Rel.goods {σ σ' μ μ' : St} (hR : Rel σ μ) (hs : ∀ i, i < 82 ∨ 94 ≤ i → same σ σ' i) (hm : ∀ p, p ≤ 14 ∨ 20 ≤ p → gA μ' p = gA μ p) (hf : ∀ k, gF μ' 0 k = gF μ 0 k) (hI : IM μ') (hg : ∀ g, g < 12 → RGo σ' μ' g) : Rel σ' μ' :=
  ⟨⟨hR.ib.kg (fun i a => hs i (by omega)), hI⟩, hR.f0 (hs 0 (by decide)) hf, hR.fd (hs 1 (by decide)) (hs 2 (by decide)) hf (hm 1 (by decide)), hR.fM (fun i a b => hs i (by omega)) (fun p a b => hm p (by omega)) (hf 3), hR.fP (fun i a b => hs i (by omega)) (fun p a b => hm p (by omega)), hg, hR.fl (hs 0 (by decide)) (hs 94 (by decide)) hf (hm 20 (by decide))⟩
theorem sim_apart : S_apart Rel := by
  intro σ μ p1 p2 hR
  have h0 : Rel σ (sF μ 0 0 0) := hR.k0
  rcases good (σ := σ) p1 with ⟨a, b⟩ | ⟨i, hi, rfl, a, b⟩
  · have hB : M_apart σ p1 p2 = .error "java/lang/IndexOutOfBoundsException" := by unfold M_apart; rw [b]; rfl
    have hM : M_m_apart μ p1 p2 = (0, sF μ 0 0 1) := by unfold M_m_apart; simp only [vb_eq]; rw [a, if_pos rfl, goes_1 rfl, pb_mk, if_pos rfl]
    rw [hB, hM]; exact ⟨rfl, hR.k0⟩
  rcases good (σ := σ) p2 with ⟨a2, b2⟩ | ⟨j, hj, rfl, a2, b2⟩
  · have hB : M_apart σ (nI i) p2 = .error "java/lang/IndexOutOfBoundsException" := by unfold M_apart; rw [b, xb_ok, b2]; rfl
    have hM : M_m_apart μ (nI i) p2 = (0, sF μ 0 0 1) := by unfold M_m_apart; simp only [vb_eq]; rw [a, if_neg (show ¬ (1 : Int32) = 0 by decide), a2, if_pos rfl, goes_1 rfl, pb_mk, if_pos rfl]
    rw [hB, hM]; exact ⟨rfl, hR.k0⟩
  have hc : (nI i).toNatClampNeg = i := nI_clamp (by omega)
  have hc2 : (nI j).toNatClampNeg = j := nI_clamp (by omega)
  have hM : M_m_apart μ (nI i) (nI j) = if nI i = nI j then (0, sF μ 0 0 0) else if gA μ 18 i = -1 then (1, sA (sA (sF μ 0 0 0) 19 (12 * i + j) 1) 19 (12 * j + i) 1) else if gA μ 18 i = gA μ 18 j then (0, sF μ 0 0 0) else (1, sA (sA (sF μ 0 0 0) 19 (12 * i + j) 1) 19 (12 * j + i) 1) := by
    unfold M_m_apart
    simp only [vb_eq]
    rw [a, if_neg (show ¬ (1 : Int32) = 0 by decide), a2, if_neg (show ¬ (1 : Int32) = 0 by decide), goes_0 (by decide) (by decide) (by decide), pb_mk, if_neg (show ¬ (1 : Int32) = 0 by decide), hc, hc2, ixN (k := 12) (K := 12) (a := i) (b := j) rfl (by omega), ixN (k := 12) (K := 12) (a := j) (b := i) rfl (by omega), gA_sF, gA_sF]
  have hB : M_apart σ (nI i) (nI j) = if nI i = nI j then .ok (0, σ) else if gA μ 18 i = -1 then .ok (1, sF (sF σ (pGo i) 4 (M_with (gF σ (pGo i) 4) (nI j) 1)) (pGo j) 4 (M_with (gF (sF σ (pGo i) 4 (M_with (gF σ (pGo i) 4) (nI j) 1)) (pGo j) 4) (nI i) 1)) else if gA μ 18 i = gA μ 18 j then .ok (0, σ) else .ok (1, sF (sF σ (pGo i) 4 (M_with (gF σ (pGo i) 4) (nI j) 1)) (pGo j) 4 (M_with (gF (sF σ (pGo i) 4 (M_with (gF σ (pGo i) 4) (nI j) 1)) (pGo j) 4) (nI i) 1)) := by
    unfold M_apart
    rw [b, xb_ok, b2, xb_ok, (hR.go hi).2.2.2.2.1, (hR.go hj).2.2.2.2.1]
  rw [hB, hM]
  by_cases c0 : nI i = nI j
  · rw [if_pos c0, if_pos c0]; exact ⟨rfl, rfl, h0⟩
  rw [if_neg c0, if_neg c0]
  have hij : i ≠ j := fun q => c0 (by rw [q])
  have main : Rel (sF (sF σ (pGo i) 4 (M_with (gF σ (pGo i) 4) (nI j) 1)) (pGo j) 4 (M_with (gF (sF σ (pGo i) 4 (M_with (gF σ (pGo i) 4) (nI j) 1)) (pGo j) 4) (nI i) 1)) (sA (sA (sF μ 0 0 0) 19 (12 * i + j) 1) 19 (12 * j + i) 1) := by
    have ei : pGo i = 82 + i := rfl
    have ej : pGo j = 82 + j := rfl
    refine h0.goods (fun k hk => (same.rf.F (by omega)).F (by omega)) (fun p hp => (gA_ne (by omega)).trans (gA_ne (by omega))) (fun _ => rfl) ((h0.im.kA (by decide) (by decide) (by decide) (by decide) (by decide)).kA (by decide) (by decide) (by decide) (by decide) (by decide)) (fun g hg => ?_)
    obtain ⟨g0, g12, g3, g4, g5, g6, g7⟩ := h0.go hg
    have eg : pGo g = 82 + g := rfl
    have e19 : ∀ z, z < 12 → gA (sA (sA (sF μ 0 0 0) 19 (12 * i + j) 1) 19 (12 * j + i) 1) 19 (12 * g + z) = if (g = i ∧ z = j) ∨ (g = j ∧ z = i) then 1 else gA (sF μ 0 0 0) 19 (12 * g + z) := by
      intro z hz
      by_cases q1 : g = i ∧ z = j
      · rw [if_pos (Or.inl q1), q1.1, q1.2, gA_nj (by omega), gA_s]
      · by_cases q2 : g = j ∧ z = i
        · rw [if_pos (Or.inr q2), q2.1, q2.2, gA_s]
        · rw [if_neg (by omega), gA_nj (by omega), gA_nj (by omega)]
    have fo : ∀ k, k ≠ 4 → gF (sF (sF σ (pGo i) 4 (M_with (gF σ (pGo i) 4) (nI j) 1)) (pGo j) 4 (M_with (gF (sF σ (pGo i) 4 (M_with (gF σ (pGo i) 4) (nI j) 1)) (pGo j) 4) (nI i) 1)) (pGo g) k = gF σ (pGo g) k := fun k hk => by rw [gF_nj hk, gF_nj hk]
    refine ⟨(fo 0 (by decide)).trans g0, g12, g3, g4, (fo 3 (by decide)).trans g5, fun z hz => ?_, ?_⟩
    · rw [e19 z hz, gF_np (a := pGo j) (by omega)]
      by_cases q1 : g = i
      · subst q1
        rw [gF_np (by omega), gF_s, bt_w1 _ (by omega) (by omega), g6 z hz]
        by_cases q2 : z = j
        · rw [if_pos (Or.inl ⟨rfl, q2⟩)]; simp [q2]
        · rw [if_neg (by omega)]; simp [q2]
      · by_cases q2 : g = j
        · subst q2
          rw [gF_s, bt_w1 _ (by omega) (by omega), g6 z hz]
          by_cases q3 : z = i
          · rw [if_pos (Or.inr ⟨rfl, q3⟩)]; simp [q3]
          · rw [if_neg (by omega)]; simp [q3]
        · rw [if_neg (by omega), gF_np (by omega), gF_np (by omega)]; exact g6 z hz
    · rw [e19 g hg, if_neg (by omega)]; exact g7
  by_cases c1 : gA μ 18 i = -1
  · rw [if_pos c1, if_pos c1]; exact ⟨rfl, rfl, main⟩
  rw [if_neg c1, if_neg c1]
  by_cases c2 : gA μ 18 i = gA μ 18 j
  · rw [if_pos c2, if_pos c2]; exact ⟨rfl, rfl, h0⟩
  · rw [if_neg c2, if_neg c2]; exact ⟨rfl, rfl, main⟩
theorem goodsOn_h {σ : St} {p : Int32} : ∀ (n i : Nat) (x : Int32), i + n = 12 → ∀ z, z < 12 → bt (M_goodsOn_h4 (n + 1) i x σ p) z = if z < i then bt x z else decide (gF σ (pGo z) 3 = p) := by
  intro n
  induction n with
  | zero =>
    intro i x hi z hz
    rw [M_goodsOn_h4, if_pos (by rw [show i = 12 by omega]; decide), if_pos (by omega)]
  | succ n ih =>
    intro i x hi z hz
    rw [M_goodsOn_h4, if_neg (show ¬ (12 : Int32) ≤ nI i from nI_lt' (b := 12) (by omega) (by decide))]
    by_cases c : gF σ (pGo i) 3 = p
    · rw [if_pos c, ih (i + 1) _ (by omega) z hz, bt_w1 _ (by omega) (by omega)]
      by_cases q : z = i
      · subst q; rw [if_pos (by omega), if_neg (by omega)]; simp [c]
      · by_cases q2 : z < i
        · rw [if_pos (by omega), if_pos q2]; simp [q]
        · rw [if_neg (by omega), if_neg q2]
    · rw [if_neg c, ih (i + 1) _ (by omega) z hz, bt_w0 _ (by omega) (by omega)]
      by_cases q : z = i
      · subst q; rw [if_pos (by omega), if_neg (by omega)]; simp [c]
      · by_cases q2 : z < i
        · rw [if_pos (by omega), if_pos q2]; simp [q]
        · rw [if_neg (by omega), if_neg q2]
theorem goodsOn_bt (σ : St) (p : Int32) {z : Nat} (hz : z < 12) : bt (M_goodsOn σ p) z = decide (gF σ (pGo z) 3 = p) := by
  unfold M_goodsOn
  rw [goodsOn_h 12 0 0 rfl z hz, if_neg (by omega)]
def putP (μ : St) (g : Nat) (p : Int32) (z : Nat) : Bool := !decide (z = g) && (decide (gA μ 18 z = p) && !decide (gA μ 19 (12 * g + z) = 0))
theorem put_h {μ : St} {g : Nat} {p : Int32} (hg : g < 12) (hp : ¬ p = -1) : ∀ (n i : Nat), i + n = 12 → M_m_put_h37 (n + 1) i μ (nI g) p = match ff (putP μ g p) n i with
    | none => (0, sA μ 18 g p)
    | some z => (1 + nI z, μ) := by
  intro n
  induction n with
  | zero =>
    intro i hi
    rw [M_m_put_h37, if_pos (by rw [show i = 12 by omega]; decide), nI_clamp (by omega)]
    rfl
  | succ n ih =>
    intro i hi
    rw [M_m_put_h37, if_neg (show ¬ (12 : Int32) ≤ nI i from nI_lt' (b := 12) (by omega) (by decide)), if_neg hp, ixN (k := 12) (K := 12) (a := g) (b := i) rfl (by omega), ih (i + 1) (by omega), ff]
    by_cases c1 : i = g
    · rw [if_pos (by rw [c1]), if_neg (by simp [putP, c1])]
    · rw [if_neg (fun q => c1 ((nI_eq (by omega) (by omega)).mp q))]
      by_cases c2 : gA μ 18 i = p
      · rw [if_pos c2]
        by_cases c3 : gA μ 19 (12 * g + i) = 0
        · rw [if_pos c3, if_neg (by simp [putP, c3])]
        · rw [if_neg c3, if_pos (by simp [putP, c1, c2, c3])]
      · rw [if_neg c2, if_neg (by simp [putP, c2])]
theorem put_m1 {μ : St} {g : Nat} (hg : g < 12) : ∀ (n i : Nat), i + n = 12 → M_m_put_h37 (n + 1) i μ (nI g) (-1) = (0, sA μ 18 g (-1)) := by
  intro n
  induction n with
  | zero =>
    intro i hi
    rw [M_m_put_h37, if_pos (by rw [show i = 12 by omega]; decide), nI_clamp (by omega)]
  | succ n ih =>
    intro i hi
    rw [M_m_put_h37, if_neg (show ¬ (12 : Int32) ≤ nI i from nI_lt' (b := 12) (by omega) (by decide)), if_pos rfl, ih (i + 1) (by omega)]
theorem Rel.shelf {σ μ : St} {g : Nat} {p : Int32} (h0 : Rel σ μ) (hg : g < 12) : Rel (sF σ (pGo g) 3 p) (sA μ 18 g p) := by
  have eg : pGo g = 82 + g := rfl
  refine h0.goods (fun k hk => same_sF (by omega)) (fun p hp => gA_ne (by omega)) (fun _ => rfl) (h0.im.kA (by decide) (by decide) (by decide) (by decide) (by decide)) (fun z hz => ?_)
  have ez : pGo z = 82 + z := rfl
  obtain ⟨g0, g12, g3, g4, g5, g6, g7⟩ := h0.go hz
  by_cases q : z = g
  · subst q
    exact ⟨(gF_nj (by decide)).trans g0, g12, g3, g4, by rw [gF_s, gA_s], fun k hk => by rw [gF_nj (by decide)]; exact g6 k hk, g7⟩
  · exact ⟨(gF_np (by omega)).trans g0, g12, g3, g4, by rw [gF_np (by omega), gA_nj q]; exact g5, fun k hk => by rw [gF_np (by omega)]; exact g6 k hk, g7⟩
theorem sim_put : S_put Rel := by
  intro σ μ p1 p2 hR
  have h0 : Rel σ (sF μ 0 0 0) := hR.k0
  rcases good (σ := σ) p1 with ⟨a, b⟩ | ⟨g, hg, rfl, a, b⟩
  · have hB : M_put σ p1 p2 = .error "java/lang/IndexOutOfBoundsException" := by unfold M_put; rw [b]; rfl
    have hM : M_m_put μ p1 p2 = (0, sF μ 0 0 1) := by unfold M_m_put; simp only [vb_eq]; rw [a, if_pos rfl, goes_1 rfl, pb_mk, if_pos rfl]
    rw [hB, hM]; exact ⟨rfl, hR.k0⟩
  have hMg : M_m_put μ (nI g) p2 = if p2 < -1 then (0, sF μ 0 0 1) else if 5 < p2 then (0, sF μ 0 0 1) else M_m_put_h37 13 0 (sF μ 0 0 0) (nI g) p2 := by
    unfold M_m_put
    simp only [vb_eq]
    rw [a, if_neg (show ¬ (1 : Int32) = 0 by decide)]
    by_cases q1 : p2 < -1
    · rw [if_pos q1, if_pos q1, goes_1 rfl, pb_mk, if_pos rfl]
    · rw [if_neg q1, if_neg q1]
      by_cases q2 : 5 < p2
      · rw [if_pos q2, if_pos q2, goes_1 rfl, pb_mk, if_pos rfl]
      · rw [if_neg q2, if_neg q2, goes_0 (by decide) (by decide) (by decide), pb_mk, if_neg (show ¬ (1 : Int32) = 0 by decide)]
  have hBg : M_put σ (nI g) p2 = if p2 = -1 then .ok (0, sF σ (pGo g) 3 p2) else xb (M_checkPlace σ p2 6) (fun _ => if M_lowest (gF σ (pGo g) 4 &&& M_goodsOn σ p2) = -1 then .ok (0, sF σ (pGo g) 3 p2) else .ok (1 + M_lowest (gF σ (pGo g) 4 &&& M_goodsOn σ p2), σ)) := by
    unfold M_put
    rw [b, xb_ok]
  rw [hBg, hMg]
  by_cases c0 : p2 = -1
  · subst c0
    rw [if_pos rfl, if_neg (show ¬ (-1 : Int32) < -1 by decide), if_neg (show ¬ (5 : Int32) < -1 by decide), put_m1 hg 12 0 rfl]
    exact ⟨rfl, rfl, h0.shelf hg⟩
  rw [if_neg c0]
  rcases place σ p2 6 with ⟨a2, b2⟩ | ⟨a2, b2, d1, d2⟩
  · rw [b2]
    unfold M_m_below vb at a2
    by_cases c1 : p2 < 0
    · have c1' : p2 < -1 := by
        have h1 := lt_toInt c1
        have h2 : p2.toInt ≠ (-1 : Int32).toInt := fun q => c0 (Int32.toInt_inj.mp q)
        rw [show (-1 : Int32).toInt = -1 by decide] at h2
        rw [show (0 : Int32).toInt = 0 by decide] at h1
        exact Int32.lt_iff_toInt_lt.mpr (by rw [show (-1 : Int32).toInt = -1 by decide]; omega)
      rw [if_pos c1']
      exact ⟨rfl, hR.k0⟩
    · rw [if_neg c1] at a2
      have c2 : (6 : Int32) ≤ p2 := by
        by_cases q : (6 : Int32) ≤ p2
        · exact q
        · rw [if_neg q] at a2; cases a2
      have h2 := le_toInt c2
      rw [show (6 : Int32).toInt = 6 by decide] at h2
      have n1 : ¬ p2 < -1 := fun q => by have := lt_toInt q; rw [show (-1 : Int32).toInt = -1 by decide] at this; omega
      have n2 : 5 < p2 := Int32.lt_iff_toInt_lt.mpr (by rw [show (5 : Int32).toInt = 5 by decide]; omega)
      rw [if_neg n1, if_pos n2]
      exact ⟨rfl, hR.k0⟩
  · rw [show (6 : Int32).toInt = 6 by decide] at d2
    have n1 : ¬ p2 < -1 := fun q => by have := lt_toInt q; rw [show (-1 : Int32).toInt = -1 by decide] at this; omega
    have n2 : ¬ 5 < p2 := fun q => by have := lt_toInt q; rw [show (5 : Int32).toInt = 5 by decide] at this; omega
    rw [b2, xb_ok, if_neg n1, if_neg n2, put_h hg c0 12 0 rfl, low_ff]
    have e : ff (bt (gF σ (pGo g) 4 &&& M_goodsOn σ p2)) 12 0 = ff (putP (sF μ 0 0 0) g p2) 12 0 := by
      apply ff_congr
      intro k _ hk
      have hk : k < 12 := by omega
      rw [bt_and, goodsOn_bt σ p2 hk, (h0.go hg).2.2.2.2.2.1 k hk, (h0.go hk).2.2.2.2.1]
      unfold putP
      by_cases q : k = g
      · subst q; rw [(h0.go hg).2.2.2.2.2.2]; simp
      · simp [q, Bool.and_comm]
    rw [e]
    cases hq : ff (putP (sF μ 0 0 0) g p2) 12 0 with
    | none =>
      rw [if_pos (show oI none = -1 from rfl)]
      exact ⟨rfl, rfl, h0.shelf hg⟩
    | some z =>
      have hz := (ff_some _ _ hq).2.1
      rw [if_neg (fun q => by have := (oI_ne (x := some z) (fun k hk => by cases hk; omega)).mp q; cases this)]
      exact ⟨rfl, rfl, h0⟩

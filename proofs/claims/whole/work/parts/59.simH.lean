/-! reason, done -/
theorem hour (σ : St) (p : Int32) : (M_m_isHour p = 0 ∧ M_checkHour σ p 0 = .error "java/lang/IllegalArgumentException") ∨ (M_m_isHour p = 1 ∧ M_checkHour σ p 0 = .ok () ∧ 0 ≤ p.toInt ∧ p.toInt ≤ 1000000) := by
  unfold M_m_isHour vb M_checkHour
  by_cases h1 : p < 0
  · rw [if_pos h1, if_pos h1]; exact Or.inl ⟨rfl, rfl⟩
  · rw [if_neg h1, if_neg h1]
    have e1 := nlt_toInt h1
    rw [show (0 : Int32).toInt = 0 by decide] at e1
    by_cases h2 : p ≤ 1000000
    · have e2 := le_toInt h2
      rw [show (1000000 : Int32).toInt = 1000000 by decide] at e2
      rw [if_pos h2, if_neg (fun q => by have := lt_toInt q; rw [show (1000000 : Int32).toInt = 1000000 by decide] at this; omega)]
      exact Or.inr ⟨rfl, rfl, e1, e2⟩
    · rw [if_neg h2, if_pos (Int32.lt_iff_toInt_lt.mpr (nle_toInt h2))]; exact Or.inl ⟨rfl, rfl⟩
theorem sim_reason : S_reason Rel := by
  intro σ μ p1 p2 p3 p4 hR
  have h0 : Rel σ (sF μ 0 0 0) := hR.k0
  rcases obj hR p1 with ⟨a, b⟩ | ⟨o, ho, rfl, hlo, a, b⟩
  · have hB : M_reason σ p1 p2 p3 p4 = .error "java/lang/IndexOutOfBoundsException" := by unfold M_reason; rw [b]; rfl
    have hM : M_m_reason μ p1 p2 p3 p4 = (0, sF μ 0 0 1) := by unfold M_m_reason; simp only [vb_eq]; rw [a, if_pos rfl, goes_1 rfl, pb_mk, if_pos rfl]
    rw [hB, hM]; exact ⟨rfl, hR.k0⟩
  rcases meth hR p2 with ⟨a2, b2⟩ | ⟨m, hm, rfl, hlm, a2, b2⟩
  · have hB : M_reason σ (nI o) p2 p3 p4 = .error "java/lang/IndexOutOfBoundsException" := by unfold M_reason; rw [b, xb_ok, b2]; rfl
    have hM : M_m_reason μ (nI o) p2 p3 p4 = (0, sF μ 0 0 1) := by unfold M_m_reason; simp only [vb_eq]; rw [a, if_neg (show ¬ (1 : Int32) = 0 by decide), a2, if_pos rfl, goes_1 rfl, pb_mk, if_pos rfl]
    rw [hB, hM]; exact ⟨rfl, hR.k0⟩
  rcases plc (σ := σ) (N := 8) p3 (by decide) with ⟨a3, b3⟩ | ⟨p, hp, rfl, a3, b3⟩
  · have hB : M_reason σ (nI o) (nI m) p3 p4 = .error "java/lang/IndexOutOfBoundsException" := by unfold M_reason; rw [b, xb_ok, b2, xb_ok, show (8 : Int32) = nI 8 from rfl, b3]; rfl
    have hM : M_m_reason μ (nI o) (nI m) p3 p4 = (0, sF μ 0 0 1) := by unfold M_m_reason; simp only [vb_eq]; rw [a, if_neg (show ¬ (1 : Int32) = 0 by decide), a2, if_neg (show ¬ (1 : Int32) = 0 by decide), show M_m_below p3 8 = 0 from a3, if_pos rfl, goes_1 rfl, pb_mk, if_pos rfl]
    rw [hB, hM]; exact ⟨rfl, hR.k0⟩
  rcases hour σ p4 with ⟨a4, b4⟩ | ⟨a4, b4, hh⟩
  · have hB : M_reason σ (nI o) (nI m) (nI p) p4 = .error "java/lang/IllegalArgumentException" := by unfold M_reason; rw [b, xb_ok, b2, xb_ok, show (8 : Int32) = nI 8 from rfl, b3, xb_ok, b4]; rfl
    have hM : M_m_reason μ (nI o) (nI m) (nI p) p4 = (0, sF μ 0 0 2) := by unfold M_m_reason; simp only [vb_eq]; rw [a, if_neg (show ¬ (1 : Int32) = 0 by decide), a2, if_neg (show ¬ (1 : Int32) = 0 by decide), show M_m_below (nI p) 8 = 1 from a3, if_neg (show ¬ (1 : Int32) = 0 by decide), a4, goes_2 (by decide) rfl, pb_mk, if_pos rfl]
    rw [hB, hM]; exact ⟨rfl, hR.k0⟩
  have hB : M_reason σ (nI o) (nI m) (nI p) p4 = .ok (M_reasonAgainst σ o m (nI p) p4) := by unfold M_reason; rw [b, xb_ok, b2, xb_ok, show (8 : Int32) = nI 8 from rfl, b3, xb_ok, b4, xb_ok]
  have hM : M_m_reason μ (nI o) (nI m) (nI p) p4 = (M_reasonAgainst σ o m (nI p) p4, sF μ 0 0 0) := by
    unfold M_m_reason; simp only [vb_eq]
    rw [a, if_neg (show ¬ (1 : Int32) = 0 by decide), a2, if_neg (show ¬ (1 : Int32) = 0 by decide), show M_m_below (nI p) 8 = 1 from a3, if_neg (show ¬ (1 : Int32) = 0 by decide), a4, goes_0 (by decide) (by decide) (by decide), pb_mk, if_neg (show ¬ (1 : Int32) = 0 by decide), why_eq h0 ho hm hlm hp hh]
  rw [hB, hM]; exact ⟨rfl, rfl, h0⟩
/-! what goes -/
theorem used_cg {τ τ' : St} (h : ∀ p, 2 ≤ p → p ≤ 5 → gA τ' p = gA τ p) {j : Nat} {g : Int32} : ∀ (n i : Nat) (x : Int32), M_m_used_h8 n i x j τ' g = M_m_used_h8 n i x j τ g := by
  intro n
  induction n with
  | zero => intro i x; rfl
  | succ n ih =>
    intro i x
    rw [M_m_used_h8, M_m_used_h8, h 2 (by decide) (by decide), h 3 (by decide) (by decide), h 4 (by decide) (by decide), h 5 (by decide) (by decide)]
    simp only [vb_eq, ih]
theorem used_c {τ τ' : St} (h : ∀ p, 2 ≤ p → p ≤ 5 → gA τ' p = gA τ p) (a g : Int32) : M_m_used τ' a g = M_m_used τ a g := used_cg h _ _ _
def finS (τ : St) (k o : Nat) (m h p s2 : Int32) : St := sA (sA (sA (sA (sA τ 11 k m) 12 k h) 13 k p) 14 k s2) 10 o (gA (sA (sA (sA (sA τ 11 k m) 12 k h) 13 k p) 14 k s2) 10 o + 1)
def TG (τ τ' : St) (i : Nat) (U : Nat → Int32) : Prop := gF τ' = gF τ ∧ (∀ p, p ≠ 15 → gA τ' p = gA τ p) ∧ (∀ p, p ≠ 17 → gL τ' p = gL τ p) ∧ (∀ g, gA τ' 15 g = if i ≤ g ∧ g < 12 then gA τ 15 g - U g else gA τ 15 g) ∧ ∀ g, gL τ' 17 g = if i ≤ g ∧ g < 12 then gL τ 17 g + (U g).toInt64 else gL τ 17 g
theorem tg_m {p1 p2 p3 p4 p5 x7 x10 : Int32} : ∀ (n i : Nat) (τ : St), i + n = 12 → ∃ τ', M_m_done_h198 (n + 1) i x7 x10 τ p4 p1 p2 p5 p3 = (0, finS τ' ((30 * p1) + x7).toNatClampNeg p1.toNatClampNeg p2 p5 p3 (if x10 = 0 then (-1) else p4)) ∧ TG τ τ' i (fun g => M_m_used τ p2 (nI g)) := by
  intro n
  induction n with
  | zero =>
    intro i τ hi
    refine ⟨τ, ?_, rfl, fun _ _ => rfl, fun _ _ => rfl, fun g => by rw [if_neg (by omega)], fun g => by rw [if_neg (by omega)]⟩
    rw [M_m_done_h198, if_pos (by rw [show i = 12 by omega]; decide), vb_eq]
    rfl
  | succ n ih =>
    intro i τ hi
    rw [M_m_done_h198, if_neg (show ¬ (12 : Int32) ≤ nI i from nI_lt' (b := 12) (by omega) (by decide))]
    rw [used_c (τ := τ) (τ' := sA τ 15 i _) (fun p a b => gA_ne (by omega))]
    generalize hU : M_m_used τ p2 (nI i) = U
    obtain ⟨τ', e, t1, t2, t3, t4, t5⟩ := ih (i + 1) (sL (sA τ 15 i (gA τ 15 i - U)) 17 i (gL (sA τ 15 i (gA τ 15 i - U)) 17 i + U.toInt64)) (by omega)
    have hUg : ∀ g : Nat, M_m_used (sL (sA τ 15 i (gA τ 15 i - U)) 17 i (gL (sA τ 15 i (gA τ 15 i - U)) 17 i + U.toInt64)) p2 (nI g) = M_m_used τ p2 (nI g) := fun g => used_c (fun p a b => show gA (sA τ 15 i (gA τ 15 i - U)) p = gA τ p from gA_ne (by omega)) _ _
    simp only [hUg] at t4 t5
    refine ⟨τ', e, t1.trans rfl, fun p hp => (t2 p hp).trans (gA_ne (σ := τ) hp), fun p hp => (t3 p hp).trans (sL_ne hp), fun g => ?_, fun g => ?_⟩
    · rw [t4 g]
      by_cases q : g = i
      · subst q
        rw [if_neg (by omega), if_pos (by omega), show gA (sL (sA τ 15 g (gA τ 15 g - U)) 17 g (gL (sA τ 15 g (gA τ 15 g - U)) 17 g + U.toInt64)) 15 g = gA τ 15 g - U from gA_s _ _ _ _, ← hU]
      · rw [show gA (sL (sA τ 15 i (gA τ 15 i - U)) 17 i (gL (sA τ 15 i (gA τ 15 i - U)) 17 i + U.toInt64)) 15 g = gA τ 15 g from gA_nj q]
        by_cases q2 : i + 1 ≤ g ∧ g < 12
        · rw [if_pos q2, if_pos (by omega)]
        · rw [if_neg q2, if_neg (by omega)]
    · rw [t5 g]
      by_cases q : g = i
      · subst q
        rw [if_neg (by omega), if_pos (by omega), gL_s, ← hU]; rfl
      · rw [gL_nj q]
        by_cases q2 : i + 1 ≤ g ∧ g < 12
        · rw [if_pos q2, if_pos (by omega)]; rfl
        · rw [if_neg q2, if_neg (by omega)]; rfl
def TB (σ σ' : St) (i : Nat) (U : Nat → Int32) : Prop := (∀ q, ¬ (82 + i ≤ q ∧ q < 94) → same σ σ' q) ∧ ∀ g, i ≤ g → g < 12 → (∀ j, j ≠ 0 → gF σ' (pGo g) j = gF σ (pGo g) j) ∧ gF σ' (pGo g) 0 = gF σ (pGo g) 0 + -(U g) ∧ (∀ j, j ≠ 2 → gL σ' (pGo g) j = gL σ (pGo g) j) ∧ gL σ' (pGo g) 2 = gL σ (pGo g) 2 - (-(U g)).toInt64
theorem tg_b {m : Nat} (hm : m < 12) : ∀ (n i : Nat) (σ : St), i + n = 12 → (∀ g, g < 12 → -(gA σ (pMe m + 1) g) ≤ 0) → TB σ (M_takeWhatGoes_h2 (n + 1) i σ m) i (gA σ (pMe m + 1)) := by
  have em : pMe m = 4 + 3 * m := rfl
  intro n
  induction n with
  | zero =>
    intro i σ hi _
    rw [M_takeWhatGoes_h2, if_pos (by rw [show i = 12 by omega]; decide)]
    exact ⟨fun _ _ => same.rf, fun g a b => by omega⟩
  | succ n ih =>
    intro i σ hi hU
    rw [M_takeWhatGoes_h2, if_neg (show ¬ (12 : Int32) ≤ nI i from nI_lt' (b := 12) (by omega) (by decide)), vb_eq]
    have e1 : M_changeBy σ i (-(gA σ (pMe m + 1) i)) = sL (sF σ (pGo i) 0 (gF σ (pGo i) 0 + -(gA σ (pMe m + 1) i))) (pGo i) 2 (gL σ (pGo i) 2 - (-(gA σ (pMe m + 1) i)).toInt64) := by
      unfold M_changeBy
      rw [if_pos (hU i (by omega))]; rfl
    rw [e1]
    have ei : pGo i = 82 + i := rfl
    obtain ⟨t1, t2⟩ := ih (i + 1) (sL (sF σ (pGo i) 0 (gF σ (pGo i) 0 + -(gA σ (pMe m + 1) i))) (pGo i) 2 (gL σ (pGo i) 2 - (-(gA σ (pMe m + 1) i)).toInt64)) (by omega) hU
    refine ⟨fun q hq => ?_, fun g h1 h2 => ?_⟩
    · exact ((same.rf.F (by omega)).L (by omega)).trans (t1 q (by omega))
    · have eg : pGo g = 82 + g := rfl
      by_cases q : g = i
      · subst q
        have s := t1 (pGo g) (by omega)
        refine ⟨fun j hj => ?_, ?_, fun j hj => ?_, ?_⟩
        · rw [s.1 j, gF_sL, gF_nj hj]
        · rw [s.1 0, gF_sL, gF_s]
        · rw [s.2.1 j, gL_nj hj, gL_sF]
        · rw [s.2.1 2, gL_s]
      · obtain ⟨u1, u2, u3, u4⟩ := t2 g (by omega) h2
        refine ⟨fun j hj => ?_, ?_, fun j hj => ?_, ?_⟩
        · rw [u1 j hj, gF_sL, gF_np (by omega)]
        · rw [u2, gF_sL, gF_np (by omega)]; rfl
        · rw [u3 j hj, gL_np (by omega), gL_sF]
        · rw [u4, gL_np (by omega), gL_sF]; rfl
theorem usum_bd {g : Int32} : ∀ (cs : List Cl) (x : Int32), (∀ c ∈ cs, WFc c) → 0 ≤ x.toInt → x.toInt + 9999 * cs.length ≤ 1000000 → 0 ≤ (cs.foldl (fun a c => if c.1 = 117 ∧ c.2.1 = g then a + c.2.2 else a) x).toInt := by
  intro cs
  induction cs with
  | nil => intro x _ h _; exact h
  | cons c cs ih =>
    intro x hw h0 h1
    rw [List.length_cons] at h1
    have hwc := (hw c List.mem_cons_self).2
    have hws : ∀ c ∈ cs, WFc c := fun q hq => hw q (List.mem_cons_of_mem _ hq)
    rw [List.foldl_cons]
    by_cases c1 : c.1 = 117 ∧ c.2.1 = g
    · rw [if_pos c1]
      have e := add_toInt (x := x) (y := c.2.2) (by omega) (by omega)
      exact ih _ hws (by omega) (by omega)
    · rw [if_neg c1]; exact ih _ hws h0 (by omega)
theorem usum_nn {cs : List Cl} {g : Int32} (hw : ∀ c ∈ cs, WFc c) (hl : cs.length ≤ 10) : 0 ≤ (usum cs g).toInt := usum_bd cs 0 hw (by decide) (by rw [show (0 : Int32).toInt = 0 by decide]; omega)
theorem neg_toInt {a : Int32} (h : 0 ≤ a.toInt) : (-a).toInt = -a.toInt := by
  rw [Int32.toInt_neg]
  have := Int32.toInt_lt a
  apply Int.bmod_eq_of_le <;> omega
theorem neg_le0 {a : Int32} (h : 0 ≤ a.toInt) : -a ≤ 0 := Int32.le_iff_toInt_le.mpr (by rw [neg_toInt h, show (0 : Int32).toInt = 0 by decide]; omega)
theorem sub_neg64 {x : Int64} {a : Int32} (h : 0 ≤ a.toInt) : x - (-a).toInt64 = x + a.toInt64 := by
  have e : (-a).toInt64 = -(a.toInt64) := by
    apply Int64.toInt_inj.mp
    have := Int32.toInt_lt a
    rw [Int32.toInt_toInt64, neg_toInt h, Int64.toInt_neg, Int32.toInt_toInt64]
    symm
    apply Int.bmod_eq_of_le <;> omega
  rw [e, Int64.sub_eq_add_neg, Int64.neg_neg]
/-- what goes has gone, on both sides -/
theorem Rel.take {σ σ' μ μ' : St} {U : Nat → Int32} (hR : Rel σ μ) (hb : TB σ σ' 0 U) (hm : TG μ μ' 0 U) (hU : ∀ g, g < 12 → 0 ≤ (U g).toInt ∧ (U g).toInt ≤ (gA μ 15 g).toInt) : Rel σ' μ' := by
  obtain ⟨b1, b2⟩ := hb
  obtain ⟨m1, m2, m3, m4, m5⟩ := hm
  refine hR.goods (fun i hi => b1 i (by omega)) (fun p hp => m2 p (by omega)) (fun k => by rw [m1]) ?_ (fun g hg => ?_)
  · have h := hR.im
    unfold IM at h ⊢
    rw [m1, m2 2 (by decide), m2 8 (by decide), m2 10 (by decide), m2 6 (by decide), m2 22 (by decide)]
    exact h
  · obtain ⟨g0, ⟨g1, g2⟩, g3, g4, g5, g6, g7⟩ := hR.go hg
    obtain ⟨c1, c2, c3, c4⟩ := b2 g (Nat.zero_le _) hg
    have hu := hU g hg
    have e15 : gA μ' 15 g = gA μ 15 g - U g := by rw [m4 g, if_pos ⟨Nat.zero_le _, hg⟩]
    have es := sub_toInt (x := gA μ 15 g) (y := U g) (by omega) (by omega)
    refine ⟨?_, ?_, ?_, ?_, ?_, fun z hz => ?_, ?_⟩
    · rw [c2, e15, g0, Int32.sub_eq_add_neg]
    · rw [e15, es]; omega
    · rw [c3 1 (by decide), m3 16 (by decide)]; exact g3
    · rw [c4, m5 g, if_pos ⟨Nat.zero_le _, hg⟩, g4, sub_neg64 hu.1]
    · rw [c1 3 (by decide), m2 18 (by decide)]; exact g5
    · rw [c1 4 (by decide), m2 19 (by decide)]; exact g6 z hz
    · rw [m2 19 (by decide)]; exact g7

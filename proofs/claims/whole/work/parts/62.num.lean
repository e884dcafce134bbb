/-! both readings of a number -/
theorem sF_self (σ : St) (i j : Nat) : sF σ i j (gF σ i j) = σ := by
  unfold sF u2 gF
  refine Prod.ext ?_ rfl
  funext a b
  show (if a = i ∧ b = j then σ.1 i j else σ.1 a b) = σ.1 a b
  by_cases h : a = i ∧ b = j
  · rw [if_pos h, h.1, h.2]
  · rw [if_neg h]
theorem sF_sF (σ : St) (i j : Nat) (v w : Int32) : sF (sF σ i j v) i j w = sF σ i j w := by
  unfold sF u2
  refine Prod.ext ?_ rfl
  funext a b
  show (if a = i ∧ b = j then w else if a = i ∧ b = j then v else σ.1 a b) = if a = i ∧ b = j then w else σ.1 a b
  by_cases h : a = i ∧ b = j
  · rw [if_pos h, if_pos h]
  · rw [if_neg h, if_neg h, if_neg h]
def PR (σ τ : St) (i M L : Nat) : Prop := gF σ 1 2 = nI i ∧ i ≤ L ∧ L ≤ 50 ∧ 0 < L ∧ gF σ 1 1 = nI L ∧ gF τ 0 1 = nI L ∧ gF τ 0 3 = nI M ∧ M < 12 ∧ ∀ j, j < 50 → gA σ 2 j = gA τ 1 j
def Fl (i : Nat) (st : Int32) (k : Nat) (dg : Int32) (τ : St) : Int32 × St := M_m_fault_h9 (51 - i) i st (nI k) dg τ
theorem Fl_s {i k : Nat} {st dg : Int32} {τ : St} (h : i ≤ 50) : Fl i st k dg τ = M_m_fault_h9 ((50 - i) + 1) i st (nI k) dg τ := by
  unfold Fl
  rw [show 51 - i = (50 - i) + 1 by omega]
theorem Fl_n {i k : Nat} {st dg : Int32} {τ : St} (h : i ≤ 50) : M_m_fault_h9 (50 - i) (i + 1) st (nI k) dg τ = Fl (i + 1) st k dg τ := by
  unfold Fl
  rw [show 51 - (i + 1) = 50 - i by omega]
theorem pr_cx {σ τ : St} {i M L k : Nat} (h : PR σ τ i M L) (hk : k < 1000) : cx τ (nI k) = 10 * M + k := by
  unfold cx
  rw [h.2.2.2.2.2.2.1]
  have := h.2.2.2.2.2.2.2.1
  exact ixN (k := 10) (K := 10) (a := M) (b := k) rfl (by omega)
theorem pr_lt {σ τ : St} {i M L : Nat} (h : PR σ τ i M L) (hi : i < L) : ¬ gF τ 0 1 ≤ nI i ∧ M_signHere σ = gA τ 1 i := by
  obtain ⟨h1, h2, h3, h4, h5, h6, h7, h8, h9⟩ := h
  have q : ¬ nI L ≤ nI i := nI_lt' hi (by omega)
  refine ⟨by rw [h6]; exact q, ?_⟩
  unfold M_signHere
  rw [h5, h1, if_neg q, nI_clamp (by omega), h9 i (by omega)]
theorem pr_ge {σ τ : St} {i M L : Nat} (h : PR σ τ i M L) (hi : ¬ i < L) : gF τ 0 1 ≤ nI i ∧ M_signHere σ = -1 ∧ i = L ∧ ¬ gF τ 0 1 = 0 := by
  obtain ⟨h1, h2, h3, h4, h5, h6, h7, h8, h9⟩ := h
  have e : i = L := by omega
  have q : nI L ≤ nI i := nI_le (by omega) (by omega)
  refine ⟨by rw [h6]; exact q, ?_, e, ?_⟩
  · unfold M_signHere
    rw [h5, h1, if_pos q]
  · rw [h6]; exact nI_ne0 h4 (by omega)
theorem dg_iff (s : Int32) : (M_isDigit s = 0 ∧ ¬ dgt s) ∨ (M_isDigit s = 1 ∧ dgt s ∧ ∃ d, d < 10 ∧ s = nI (48 + d)) := by
  unfold M_isDigit dgt
  by_cases c1 : s < 48
  · rw [if_pos c1]; exact Or.inl ⟨rfl, fun q => q.1 c1⟩
  · rw [if_neg c1]
    by_cases c2 : 57 < s
    · rw [if_pos c2]; exact Or.inl ⟨rfl, fun q => q.2 c2⟩
    · rw [if_neg c2]
      have a := nlt_toInt c1
      have b := nlt_toInt c2
      rw [show (48 : Int32).toInt = 48 by decide] at a
      rw [show (57 : Int32).toInt = 57 by decide] at b
      obtain ⟨j, hj, e⟩ := x_nI (x := s) (N := 58) (by omega) (by omega) (by decide)
      rw [e, nI_toInt (by omega)] at a
      exact Or.inr ⟨rfl, ⟨c1, c2⟩, j - 48, by omega, by rw [e]; congr 1; omega⟩
theorem nI_sub (a b : Nat) : nI (a + b) - nI b = nI a := by
  rw [← nI_add, Int32.add_sub_cancel]
theorem v_m (w d : Nat) : ((10 * nI w) + nI (48 + d)) - 48 = nI (10 * w + d) := by
  rw [show (10 : Int32) = nI 10 from rfl, pk_mul 10 w, nI_add, show 10 * w + (48 + d) = (10 * w + d) + 48 by omega]
  exact nI_sub _ 48
theorem v_c (w d : Nat) : (nI w * 10) + (nI (48 + d) - 48) = nI (10 * w + d) := by
  rw [show (10 : Int32) = nI 10 from rfl, pk_mul w 10, Nat.add_comm 48 d, show nI (d + 48) - 48 = nI d from nI_sub d 48, nI_add]
  congr 1
  omega
theorem nI_lt_iff {a b : Nat} (ha : a < 2 ^ 31) (hb : b < 2 ^ 31) : nI a < nI b ↔ a < b := by
  rw [Int32.lt_iff_toInt_lt, nI_toInt ha, nI_toInt hb]; omega
theorem nI_le_iff {a b : Nat} (ha : a < 2 ^ 31) (hb : b < 2 ^ 31) : nI a ≤ nI b ↔ a ≤ b := by
  rw [Int32.le_iff_toInt_le, nI_toInt ha, nI_toInt hb]; omega
/-- a clause's place is written, nothing else -/
def CW (τ τ' : St) (c : Nat) : Prop := gF τ' = gF τ ∧ gL τ' = gL τ ∧ (∀ p, p < 3 ∨ 5 < p → gA τ' p = gA τ p) ∧ ∀ p q, q ≠ c → gA τ' p q = gA τ p q
theorem CW.rf {τ : St} {c : Nat} : CW τ τ c := ⟨rfl, rfl, fun _ _ => rfl, fun _ _ _ => rfl⟩
theorem CW.trans {a b d : St} {c : Nat} (h : CW a b c) (g : CW b d c) : CW a d c := ⟨g.1.trans h.1, g.2.1.trans h.2.1, fun p hp => (g.2.2.1 p hp).trans (h.2.2.1 p hp), fun p q hq => (g.2.2.2 p q hq).trans (h.2.2.2 p q hq)⟩
theorem CW.set {τ : St} {c p : Nat} {v : Int32} (hp : 3 ≤ p ∧ p ≤ 5) : CW τ (sA τ p c v) c := ⟨rfl, rfl, fun q hq => gA_ne (by omega), fun r q hq => gA_nj hq⟩
theorem PR.up {σ τ τ' : St} {i i' M L c : Nat} (h : PR σ τ i M L) (hc : CW τ τ' c) (hi : i' ≤ L) : PR (sF σ 1 2 (nI i')) τ' i' M L := by
  obtain ⟨h1, h2, h3, h4, h5, h6, h7, h8, h9⟩ := h
  refine ⟨rfl, hi, h3, h4, h5, by rw [hc.1]; exact h6, by rw [hc.1]; exact h7, h8, fun j hj => ?_⟩
  rw [hc.2.2.1 1 (by decide)]
  exact h9 j hj
theorem PR.self {σ τ : St} {i M L : Nat} (h : PR σ τ i M L) : sF σ 1 2 (nI i) = σ := by rw [← h.1, sF_self]
theorem num_x {d w : Nat} {lo : Int32} {τ : St} (hlo : lo = 0 ∨ lo = 1) (hd : d < 100) (hw : w < 100000) : (if nI d = 0 then ((-1 : Int32), τ) else (if lo ≤ nI w then (nI w, τ) else ((-1), τ))) = ((if d = 0 then (-1) else if lo ≤ nI w then nI w else -1), τ) := by
  by_cases c : d = 0
  · subst c; rfl
  · rw [if_neg (show ¬ nI d = 0 from nI_ne0 (by omega) (by omega)), if_neg c]
    split <;> rfl
theorem num1 {M L k mo c : Nat} {Lt : Int32} (hk : k < 10) (hc : c = 10 * M + k) (hmo : mo ≤ 11) (hgr : M_m_greatest Lt = nI mo) : ∀ (e d w i : Nat) (σ τ : St), d + e = 4 → PR σ τ i M L → gA τ 3 c = Lt → gA τ 4 c = nI w → gA τ 5 c = 0 → w ≤ mo →
    ∃ (d' w' i' : Nat) (τ' : St), M_readNumber_h5 (e + 1) d (nI w) σ 0 (nI mo) = ((if d' = 0 then -1 else nI w'), sF σ 1 2 (nI i')) ∧ Fl i (if d = 0 then 1 else 2) k (nI d) τ = Fl i' (if d' = 0 then 1 else 2) k (nI d') τ' ∧ CW τ τ' c ∧ gA τ' 3 c = Lt ∧ gA τ' 4 c = nI w' ∧ gA τ' 5 c = 0 ∧ w' ≤ mo ∧ d' ≤ 4 ∧ i' ≤ L ∧ (i' < L → dgt (gA τ' 1 i') → 5 ≤ nI d' + 1 ∨ nI mo < ((10 * gA τ' 4 c) + gA τ' 1 i') - 48) := by
  intro e
  induction e with
  | zero =>
    intro d w i σ τ hd hP h3 h4 h5 hw
    have hd4 : d = 4 := by omega
    subst hd4
    refine ⟨4, w, i, τ, ?_, rfl, CW.rf, h3, h4, h5, hw, Nat.le_refl _, hP.2.1, fun _ _ => Or.inl (by decide)⟩
    rw [M_readNumber_h5, if_pos (show (4 : Int32) ≤ nI 4 by decide), num_x (Or.inl rfl) (by decide) (by omega), hP.self, if_neg (show ¬ (4 : Nat) = 0 by decide), if_neg (show ¬ (4 : Nat) = 0 by decide), if_pos (show (0 : Int32) ≤ nI w from (nI_le_iff (a := 0) (by decide) (by omega)).mpr (Nat.zero_le _))]
  | succ e ih =>
    intro d w i σ τ hd hP h3 h4 h5 hw
    have h0w : (0 : Int32) ≤ nI w := (nI_le_iff (a := 0) (by decide) (by omega)).mpr (Nat.zero_le _)
    have hx : ∀ A, M_isDigit (M_signHere σ) = 0 ∨ (M_isDigit (M_signHere σ) = 1 ∧ nI mo < (nI w * 10) + (M_signHere σ - 48)) → A = M_readNumber_h5 (e + 1 + 1) d (nI w) σ 0 (nI mo) → A = ((if d = 0 then -1 else nI w), sF σ 1 2 (nI i)) := by
      intro A hA eA
      rw [eA, M_readNumber_h5, if_neg (show ¬ (4 : Int32) ≤ nI d from nI_lt' (b := 4) (by omega) (by decide))]
      rcases hA with hA | ⟨hA, hB⟩
      · rw [if_pos hA, num_x (Or.inl rfl) (by omega) (by omega), hP.self, if_pos h0w]
      · rw [if_neg (by rw [hA]; decide), if_pos hB, num_x (Or.inl rfl) (by omega) (by omega), hP.self, if_pos h0w]
    by_cases hi : i < L
    · obtain ⟨q1, q2⟩ := pr_lt hP hi
      rcases dg_iff (gA τ 1 i) with ⟨b1, b2⟩ | ⟨b1, b2, dv, hdv, es⟩
      · exact ⟨d, w, i, τ, hx _ (Or.inl (by rw [q2]; exact b1)) rfl, rfl, CW.rf, h3, h4, h5, hw, by omega, hP.2.1, fun _ z => absurd z b2⟩
      · by_cases hv : mo < 10 * w + dv
        · refine ⟨d, w, i, τ, hx _ (Or.inr ⟨by rw [q2]; exact b1, by rw [q2, es, v_c]; exact (nI_lt_iff (by omega) (by omega)).mpr hv⟩) rfl, rfl, CW.rf, h3, h4, h5, hw, by omega, hP.2.1, fun _ _ => Or.inr ?_⟩
          rw [h4, es, v_m]
          exact (nI_lt_iff (by omega) (by omega)).mpr hv
        · have hP2 : PR (sF σ 1 2 (nI (i + 1))) (sA (sA τ 4 c (nI (10 * w + dv))) 5 c 0) (i + 1) M L := hP.up ((CW.set (by omega)).trans (CW.set (by omega))) (by omega)
          obtain ⟨d', w', i', τ', r1, r2, r3, r4, r5, r6, r7, r8, r9, r10⟩ := ih (d + 1) (10 * w + dv) (i + 1) (sF σ 1 2 (nI (i + 1))) (sA (sA τ 4 c (nI (10 * w + dv))) 5 c 0) (by omega) hP2 (by rw [gA_np (by decide), gA_np (by decide)]; exact h3) (by rw [gA_np (by decide), gA_s]) (by rw [gA_s]) (by omega)
          refine ⟨d', w', i', τ', ?_, ?_, ((CW.set (by omega)).trans (CW.set (by omega))).trans r3, r4, r5, r6, r7, r8, r9, r10⟩
          · have hrc : M_readNumber_h5 (e + 1) (d + 1) (nI (10 * w + dv)) (sF σ 1 2 (nI (i + 1))) 0 (nI mo) = ((if d' = 0 then -1 else nI w'), sF σ 1 2 (nI i')) := by rw [r1, sF_sF]
            rw [M_readNumber_h5, if_neg (show ¬ (4 : Int32) ≤ nI d from nI_lt' (b := 4) (by omega) (by decide)), q2, if_neg (by rw [b1]; decide), es, v_c, if_neg (fun z => hv ((nI_lt_iff (by omega) (by omega)).mp z)), hP.1, nI_p1, if_pos (show (0 : Int32) ≤ nI (10 * w + dv) from (nI_le_iff (a := 0) (by decide) (by omega)).mpr (Nat.zero_le _)), hrc]
            split <;> rfl
          · have hst : (if d = 0 then (1 : Int32) else 2) = 1 ∨ (if d = 0 then (1 : Int32) else 2) = 2 := by split; exact Or.inl rfl; exact Or.inr rfl
            have hcx := pr_cx hP (k := k) (by omega)
            rw [← hc] at hcx
            have hL50 : i ≤ 50 := by have := hP.2.2.1; omega
            rw [Fl_s hL50, f_dig1 (v := nI (10 * w + dv)) q1 b2 hst (by rw [hcx, h4, es, v_m]), hcx, h3, hgr, if_neg (fun z => z.elim (fun z1 => by rw [nI_p1] at z1; have := (nI_le_iff (a := 5) (by decide) (by omega)).mp z1; omega) (fun z2 => hv ((nI_lt_iff (by omega) (by omega)).mp z2))), Fl_n hL50, nI_p1]
            rw [if_neg (show ¬ d + 1 = 0 by omega)] at r2
            exact r2
    · obtain ⟨q1, q2, q3, q4⟩ := pr_ge hP hi
      exact ⟨d, w, i, τ, hx _ (Or.inl (by rw [q2]; decide)) rfl, rfl, CW.rf, h3, h4, h5, hw, by omega, hP.2.1, fun z => absurd z hi⟩
theorem pw10 : ∀ d, d ≤ 3 → 10 ^ (d + 1) ≤ 10000 := by decide
theorem num2 {M L k c lo : Nat} {Lt : Int32} (hk : k < 10) (hc : c = 10 * M + k) (hlo : (lo = 1 ∧ Lt = 117) ∨ (lo = 0 ∧ Lt = 97)) : ∀ (e d w i : Nat) (σ τ : St), d + e = 4 → PR σ τ i M L → gA τ 3 c = Lt → gA τ 5 c = nI w → w < 10 ^ d →
    ∃ (d' w' i' : Nat) (τ' : St), M_readNumber_h5 (e + 1) d (nI w) σ (nI lo) (nI 9999) = ((if d' = 0 then -1 else if nI lo ≤ nI w' then nI w' else -1), sF σ 1 2 (nI i')) ∧ Fl i (if d = 0 then 3 else 4) k (nI d) τ = Fl i' (if d' = 0 then 3 else 4) k (nI d') τ' ∧ CW τ τ' c ∧ gA τ' 3 c = Lt ∧ gA τ' 4 c = gA τ 4 c ∧ gA τ' 5 c = nI w' ∧ w' ≤ 9999 ∧ d' ≤ 4 ∧ i' ≤ L ∧ (i' < L → dgt (gA τ' 1 i') → 5 ≤ nI d' + 1 ∨ (gA τ' 3 c = 117 ∧ ¬ 0 < ((10 * gA τ' 5 c) + gA τ' 1 i') - 48 ∧ 4 ≤ nI d' + 1)) := by
  have hlo1 : nI lo = 0 ∨ nI lo = 1 := by rcases hlo with ⟨h, -⟩ | ⟨h, -⟩ <;> rw [h]; exact Or.inr rfl; exact Or.inl rfl
  intro e
  induction e with
  | zero =>
    intro d w i σ τ hd hP h3 h5 hw
    have hd4 : d = 4 := by omega
    subst hd4
    have hw' : w ≤ 9999 := by have : (10 : Nat) ^ 4 = 10000 := by decide
                              omega
    refine ⟨4, w, i, τ, ?_, rfl, CW.rf, h3, rfl, h5, hw', Nat.le_refl _, hP.2.1, fun _ _ => Or.inl (by decide)⟩
    rw [M_readNumber_h5, if_pos (show (4 : Int32) ≤ nI 4 by decide), num_x hlo1 (by decide) (by omega), hP.self]
  | succ e ih =>
    intro d w i σ τ hd hP h3 h5 hw
    have hp10 := pw10 d (by omega)
    rw [Nat.pow_succ] at hp10
    have hw9 : 10 * w + 9 ≤ 9999 := by omega
    have hxx : M_isDigit (M_signHere σ) = 0 → M_readNumber_h5 (e + 1 + 1) d (nI w) σ (nI lo) (nI 9999) = ((if d = 0 then -1 else if nI lo ≤ nI w then nI w else -1), sF σ 1 2 (nI i)) := by
      intro hA
      rw [M_readNumber_h5, if_neg (show ¬ (4 : Int32) ≤ nI d from nI_lt' (b := 4) (by omega) (by decide)), if_pos hA, num_x hlo1 (by omega) (by omega), hP.self]
    by_cases hi : i < L
    · obtain ⟨q1, q2⟩ := pr_lt hP hi
      rcases dg_iff (gA τ 1 i) with ⟨b1, b2⟩ | ⟨b1, b2, dv, hdv, es⟩
      · exact ⟨d, w, i, τ, hxx (by rw [q2]; exact b1), rfl, CW.rf, h3, rfl, h5, by omega, by omega, hP.2.1, fun _ z => absurd z b2⟩
      · have hv : ¬ nI 9999 < nI (10 * w + dv) := fun z => by have := (nI_lt_iff (by decide) (by omega)).mp z; omega
        by_cases hst3 : d = 3 ∧ ¬ lo ≤ 10 * w + dv
        · have e1 : lo = 1 ∧ Lt = 117 := by
            rcases hlo with h | h
            · exact h
            · exact absurd (show lo ≤ 10 * w + dv by omega) hst3.2
          have e2 : 10 * w + dv = 0 := by omega
          refine ⟨d, w, i, τ, ?_, rfl, CW.rf, h3, rfl, h5, by omega, by omega, hP.2.1, fun _ _ => Or.inr ⟨by rw [h3]; exact e1.2, by rw [h5, es, v_m, e2]; decide, by rw [hst3.1]; decide⟩⟩
          rw [M_readNumber_h5, if_neg (show ¬ (4 : Int32) ≤ nI d from nI_lt' (b := 4) (by omega) (by decide)), q2, if_neg (by rw [b1]; decide), es, v_c, if_neg hv, if_pos (by rw [hst3.1]; rfl), if_neg (fun z => hst3.2 ((nI_le_iff (by omega) (by omega)).mp z)), num_x hlo1 (by omega) (by omega), hP.self]
        · have hP2 : PR (sF σ 1 2 (nI (i + 1))) (sA (sA τ 4 c (gA τ 4 c)) 5 c (nI (10 * w + dv))) (i + 1) M L := hP.up ((CW.set (by omega)).trans (CW.set (by omega))) (by omega)
          obtain ⟨d', w', i', τ', r1, r2, r3, r4, r5, r6, r7, r8, r9, r10⟩ := ih (d + 1) (10 * w + dv) (i + 1) (sF σ 1 2 (nI (i + 1))) (sA (sA τ 4 c (gA τ 4 c)) 5 c (nI (10 * w + dv))) (by omega) hP2 (by rw [gA_np (by decide), gA_np (by decide)]; exact h3) (by rw [gA_s]) (by rw [Nat.pow_succ]; omega)
          refine ⟨d', w', i', τ', ?_, ?_, ((CW.set (by omega)).trans (CW.set (by omega))).trans r3, r4, by rw [r5, gA_np (by decide), gA_s], r6, r7, r8, r9, r10⟩
          · have hrc : M_readNumber_h5 (e + 1) (d + 1) (nI (10 * w + dv)) (sF σ 1 2 (nI (i + 1))) (nI lo) (nI 9999) = ((if d' = 0 then -1 else if nI lo ≤ nI w' then nI w' else -1), sF σ 1 2 (nI i')) := by rw [r1, sF_sF]
            rw [M_readNumber_h5, if_neg (show ¬ (4 : Int32) ≤ nI d from nI_lt' (b := 4) (by omega) (by decide)), q2, if_neg (by rw [b1]; decide), es, v_c, if_neg hv, hP.1, nI_p1, hrc]
            by_cases c3 : nI d = 3
            · have d3 : d = 3 := (nI_eq (b := 3) (by omega) (by omega)).mp c3
              have : nI lo ≤ nI (10 * w + dv) := (nI_le_iff (by omega) (by omega)).mpr (by omega)
              rw [if_pos c3, if_pos this]
            · rw [if_neg c3]
          · have hst : (if d = 0 then (3 : Int32) else 4) = 3 ∨ (if d = 0 then (3 : Int32) else 4) = 4 := by split; exact Or.inl rfl; exact Or.inr rfl
            have hcx := pr_cx hP (k := k) (by omega)
            rw [← hc] at hcx
            have hL50 : i ≤ 50 := by have := hP.2.2.1; omega
            rw [Fl_s hL50, f_dig2 (v := nI (10 * w + dv)) q1 b2 hst (by rw [hcx, h5, es, v_m]), hcx, h3, if_neg (fun z => z.elim (fun z1 => by rw [nI_p1] at z1; have := (nI_le_iff (a := 5) (by decide) (by omega)).mp z1; omega) (fun z2 => by
              obtain ⟨y1, y2, y3⟩ := z2
              rw [nI_p1] at y3
              have y4 := (nI_le_iff (a := 4) (by decide) (by omega)).mp y3
              have d3 : d = 3 := by omega
              have y5 : lo = 1 := by
                rcases hlo with h | h
                · exact h.1
                · rw [h.2] at y1; exact absurd y1 (by decide)
              exact y2 ((nI_lt_iff (a := 0) (by decide) (by omega)).mpr (by omega)))), Fl_n hL50, nI_p1]
            rw [if_neg (show ¬ d + 1 = 0 by omega)] at r2
            exact r2
    · obtain ⟨q1, q2, q3, q4⟩ := pr_ge hP hi
      exact ⟨d, w, i, τ, hxx (by rw [q2]; decide), rfl, CW.rf, h3, rfl, h5, by omega, by omega, hP.2.1, fun z => absurd z hi⟩

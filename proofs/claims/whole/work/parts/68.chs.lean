/-! the methods that are chosen for a plan -/
theorem Rel.pln {σ σ' μ μ' : St} (hR : Rel σ μ) (hs : ∀ i, i ≠ 0 → i ≠ 94 → i ≠ 95 → same σ σ' i) (h0 : ∀ j, j ≠ 8 → gF σ' 0 j = gF σ 0 j) (hm : ∀ p, p < 20 → gA μ' p = gA μ p) (hf : ∀ k, k ≠ 23 → gF μ' 0 k = gF μ 0 k) (hL : gL μ' = gL μ) (hIB : IB σ') (hIM : IM μ') (hP : RPl σ' μ') : Rel σ' μ' := by
  refine ⟨⟨hIB, hIM⟩, ⟨?_, ?_⟩, ⟨?_, fun k hk => ?_⟩, hR.fM (fun i a b => hs i (by omega) (by omega) (by omega)) (fun p a b => hm p (by omega)) (hf 3 (by decide)), hR.fP (fun i a b => hs i (by omega) (by omega) (by omega)) (fun p a b => hm p (by omega)), hR.fG (fun i a b => hs i (by omega) (by omega) (by omega)) (fun p a b => hm p (by omega)) (by rw [hL]) (by rw [hL]), hP⟩
  · rw [h0 6 (by decide), hf 3 (by decide)]; exact hR.ct.1
  · rw [h0 7 (by decide), hf 10 (by decide)]; exact hR.ct.2
  · rw [(hs 1 (by decide) (by decide) (by decide)).1 1, hf 1 (by decide)]; exact hR.pd.1
  · rw [(hs 2 (by decide) (by decide) (by decide)).2.2, hm 1 (by decide)]; exact hR.pd.2 k hk
theorem Rel.k21 {σ μ : St} {j : Nat} {v : Int32} (hR : Rel σ μ) : Rel σ (sA μ 21 j v) := Rel.pln hR (fun _ _ _ _ => same.rf) (fun _ _ => rfl) (fun p hp => gA_ne (by omega)) (fun _ _ => rfl) rfl hR.ib (hR.im.kA (by decide) (by decide) (by decide) (by decide) (by decide)) hR.pl
def ch (τ : St) (k : Nat) : Nat := (gA τ 21 k).toNatClampNeg
def CH (st : Nat → Bool) (τ : St) (i c : Nat) : Prop := (∀ k, k < c → gA τ 21 k = nI (ch τ k) ∧ ch τ k < i ∧ st (ch τ k) = true) ∧ (∀ m, m < i → st m = true → ∃ k, k < c ∧ ch τ k = m) ∧ ∀ k k', k < k' → k' < c → ch τ k < ch τ k'
theorem CH.skip {st : Nat → Bool} {τ : St} {i c : Nat} (h : CH st τ i c) (hi : st i = false) : CH st τ (i + 1) c := by
  refine ⟨fun k hk => ?_, fun m hm hs => ?_, h.2.2⟩
  · obtain ⟨a, b, d⟩ := h.1 k hk; exact ⟨a, by omega, d⟩
  · by_cases e : m = i
    · subst e; rw [hi] at hs; cases hs
    · exact h.2.1 m (by omega) hs
theorem CH.put {st : Nat → Bool} {τ : St} {i c : Nat} (h : CH st τ i c) (hi : st i = true) (h12 : i < 12) : CH st (sA τ 21 c (nI i)) (i + 1) (c + 1) := by
  have e1 : ch (sA τ 21 c (nI i)) c = i := by unfold ch; rw [gA_s, nI_clamp (by omega)]
  have e2 : ∀ k, k ≠ c → ch (sA τ 21 c (nI i)) k = ch τ k := fun k hk => by unfold ch; rw [gA_nj hk]
  refine ⟨fun k hk => ?_, fun m hm hs => ?_, fun k k' h1 h2 => ?_⟩
  · by_cases e : k = c
    · subst e; rw [e1, gA_s]; exact ⟨rfl, by omega, hi⟩
    · obtain ⟨a, b, d⟩ := h.1 k (by omega)
      rw [e2 k e, gA_nj e]; exact ⟨a, by omega, d⟩
  · by_cases e : m = i
    · subst e; exact ⟨c, by omega, e1⟩
    · obtain ⟨k, hk, e3⟩ := h.2.1 m (by omega) hs
      exact ⟨k, by omega, by rw [e2 k (by omega)]; exact e3⟩
  · by_cases e : k' = c
    · subst e
      rw [e1, e2 k (by omega)]
      exact (h.1 k (by omega)).2.1
    · rw [e2 k' e, e2 k (by omega)]
      exact h.2.2 k k' h1 (by omega)
def FIN (p1 x4 x5 : Int32) (τ : St) : Int32 × St := (if x4 ≤ 10 then (if x5 = 0 then ((-1), τ) else (pb (M_m_orders τ p1 x4) (fun r11 σ12 => (if r11 = 0 then ((-1), σ12) else (T_plan σ12 p1 x4))))) else ((-2), τ))
def stp (σ : St) (o : Nat) (X : Int32) (z : Nat) : Bool := bt X z && !bt (gF σ (pPi o) 6) z
theorem ch53 {σ : St} {o N : Nat} {X : Int32} (ho : o < 10) (hN : N ≤ 12) : ∀ (n i : Nat) (x5 : Int32) (τ : St), i + n = 12 → Rel σ τ → gF τ 0 3 = nI N → (crd (stp σ o X) i ≤ 10 → CH (stp σ o X) τ i (crd (stp σ o X) i)) → ∃ (τ' : St) (x5' : Int32), M_m_plan_h53 (n + 1) i X (nI (crd (stp σ o X) i)) x5 τ (nI o) = FIN (nI o) (nI (crd (stp σ o X) 12)) x5' τ' ∧ (¬ x5' = 0 ↔ ¬ x5 = 0 ∧ ∀ z, i ≤ z → z < 12 → stp σ o X z = true → z < N ∧ M_firstPartOf σ o (gF σ (pMe z) 2) = -1) ∧ Rel σ τ' ∧ gF τ' = gF τ ∧ (crd (stp σ o X) 12 ≤ 10 → CH (stp σ o X) τ' 12 (crd (stp σ o X) 12)) ∧ (∀ p, p ≠ 21 → gA τ' p = gA τ p) ∧ gL τ' = gL τ := by
  intro n
  induction n with
  | zero =>
    intro i x5 τ hi hR h3 hC
    have e : i = 12 := by omega
    subst e
    refine ⟨τ, x5, ?_, ⟨fun h => ⟨h, fun z h1 h2 => by omega⟩, fun h => h.1⟩, hR, rfl, hC, fun _ _ => rfl, rfl⟩
    rw [M_m_plan_h53, if_pos (show (12 : Int32) ≤ nI 12 by decide)]
    rfl
  | succ n ih =>
    intro i x5 τ hi hR h3 hC
    have hci := crd_le (P := stp σ o X) i
    have hlat : M_m_latest τ (nI o) (nI i) = -1 ↔ bt (gF σ (pPi o) 6) i = false := by
      rw [m_lat hR.im ho, ← lat_m1 hR ho (by omega)]
      simp
    rw [M_m_plan_h53, if_neg (show ¬ (12 : Int32) ≤ nI i from nI_lt' (b := 12) (by omega) (by decide)), shr_bt X (by omega)]
    have hcs : crd (stp σ o X) (i + 1) = crd (stp σ o X) i + (if stp σ o X i then 1 else 0) := rfl
    by_cases hs : stp σ o X i = true
    · have hs2 : bt X i = true ∧ bt (gF σ (pPi o) 6) i = false := by
        unfold stp at hs
        rw [Bool.and_eq_true] at hs
        exact ⟨hs.1, by simpa using hs.2⟩
      rw [if_pos hs2.1, if_pos rfl, if_pos (hlat.mpr hs2.2), vb_eq]
      rw [if_pos hs] at hcs
      generalize hy : (if x5 = 0 then (0 : Int32) else (if gF τ 0 3 ≤ nI i then 0 else (if M_m_barred τ (nI o) (nI i) = -1 then 1 else 0))) = y
      have hyy : ¬ y = 0 ↔ ¬ x5 = 0 ∧ i < N ∧ M_firstPartOf σ o (gF σ (pMe i) 2) = -1 := by
        rw [← hy]
        by_cases a : x5 = 0
        · rw [if_pos a]; exact ⟨fun q => absurd rfl q, fun q => absurd a q.1⟩
        · rw [if_neg a, h3]
          by_cases b : N ≤ i
          · rw [if_pos ((nI_le_iff (by omega) (by omega)).mpr b)]; exact ⟨fun q => absurd rfl q, fun q => by omega⟩
          · rw [if_neg (fun q => b ((nI_le_iff (by omega) (by omega)).mp q)), m_barred hR ho (by omega) (by rw [h3, nI_toInt (by omega)]; omega)]
            by_cases d : M_firstPartOf σ o (gF σ (pMe i) 2) = -1
            · rw [if_pos d]; exact ⟨fun _ => ⟨a, by omega, d⟩, fun _ => by decide⟩
            · rw [if_neg d]; exact ⟨fun q => absurd rfl q, fun q => absurd q.2.2 d⟩
      have fin : ∀ x5' : Int32, (¬ x5' = 0 ↔ ¬ y = 0 ∧ ∀ z, i + 1 ≤ z → z < 12 → stp σ o X z = true → z < N ∧ M_firstPartOf σ o (gF σ (pMe z) 2) = -1) → (¬ x5' = 0 ↔ ¬ x5 = 0 ∧ ∀ z, i ≤ z → z < 12 → stp σ o X z = true → z < N ∧ M_firstPartOf σ o (gF σ (pMe z) 2) = -1) := by
        intro x5' h
        rw [h, hyy]
        constructor
        · rintro ⟨⟨a, b, d⟩, f⟩
          refine ⟨a, fun z h1 h2 h4 => ?_⟩
          by_cases e : z = i
          · subst e; exact ⟨b, d⟩
          · exact f z (by omega) h2 h4
        · rintro ⟨a, f⟩
          obtain ⟨b, d⟩ := f i (Nat.le_refl _) (by omega) hs
          exact ⟨⟨a, b, d⟩, fun z h1 h2 h4 => f z (by omega) h2 h4⟩
      by_cases c10 : 10 ≤ crd (stp σ o X) i
      · rw [if_pos (show (10 : Int32) ≤ nI (crd (stp σ o X) i) from (nI_le_iff (a := 10) (by decide) (by omega)).mpr c10), nI_p1, ← hcs]
        obtain ⟨τ', x5', r1, r2, r3, r4, r5, r6, r7⟩ := ih (i + 1) y τ (by omega) hR h3 (fun q => by omega)
        exact ⟨τ', x5', r1, fin x5' r2, r3, r4, r5, r6, r7⟩
      · rw [if_neg (show ¬ (10 : Int32) ≤ nI (crd (stp σ o X) i) from nI_lt' (b := 10) (by omega) (by decide)), nI_p1, ← hcs, nI_clamp (by omega)]
        have hC1 := (hC (by omega)).put hs (by omega)
        rw [← hcs] at hC1
        obtain ⟨τ', x5', r1, r2, r3, r4, r5, r6, r7⟩ := ih (i + 1) y (sA τ 21 (crd (stp σ o X) i) (nI i)) (by omega) hR.k21 h3 (fun _ => hC1)
        exact ⟨τ', x5', r1, fin x5' r2, r3, r4, r5, fun p hp => by rw [r6 p hp]; exact gA_ne hp, r7⟩
    · have hs0 : stp σ o X i = false := Bool.eq_false_iff.mpr hs
      rw [if_neg hs] at hcs
      replace hcs : crd (stp σ o X) (i + 1) = crd (stp σ o X) i := hcs
      have hx : (if (if bt X i = true then (1 : Int32) else 0) = 1 then (if M_m_latest τ (nI o) (nI i) = -1 then (vb ((if x5 = 0 then (0 : Int32) else (if (gF τ 0 3) ≤ (nI i) then 0 else (if (M_m_barred τ (nI o) (nI i)) = (-1) then 1 else 0)))) (fun (y16 : Int32) => (if 10 ≤ nI (crd (stp σ o X) i) then (M_m_plan_h53 (n + 1) (i + 1) X (nI (crd (stp σ o X) i) + 1) y16 τ (nI o)) else (M_m_plan_h53 (n + 1) (i + 1) X (nI (crd (stp σ o X) i) + 1) y16 (sA τ 21 (nI (crd (stp σ o X) i)).toNatClampNeg (nI i)) (nI o))))) else (M_m_plan_h53 (n + 1) (i + 1) X (nI (crd (stp σ o X) i)) x5 τ (nI o))) else (M_m_plan_h53 (n + 1) (i + 1) X (nI (crd (stp σ o X) i)) x5 τ (nI o))) = M_m_plan_h53 (n + 1) (i + 1) X (nI (crd (stp σ o X) (i + 1))) x5 τ (nI o) := by
        rw [hcs]
        by_cases a : bt X i = true
        · rw [if_pos a, if_pos rfl, if_neg (fun q => hs (by unfold stp; rw [a, hlat.mp q]; rfl))]
        · rw [if_neg a, if_neg (show ¬ (0 : Int32) = 1 by decide)]
      rw [hx]
      obtain ⟨τ', x5', r1, r2, r3, r4, r5, r6, r7⟩ := ih (i + 1) x5 τ (by omega) hR h3 (fun q => by rw [hcs] at q ⊢; exact (hC q).skip hs0)
      refine ⟨τ', x5', r1, ?_, r3, r4, r5, r6, r7⟩
      rw [r2]
      constructor
      · rintro ⟨a, f⟩
        refine ⟨a, fun z h1 h2 h4 => ?_⟩
        by_cases e : z = i
        · subst e; rw [hs0] at h4; cases h4
        · exact f z (by omega) h2 h4
      · rintro ⟨a, f⟩
        exact ⟨a, fun z h1 h2 h4 => f z (by omega) h2 h4⟩
/-! the component's counting and testing -/
theorem bc0 : ∀ a, a < 64 → ∀ b, b < 64 → M_bitCount (nI (64 * a + b)) = nI (crd (64 * a + b).testBit 12) := by decide +kernel
theorem crd_cg {P Q : Nat → Bool} : ∀ n, (∀ z, z < n → P z = Q z) → crd P n = crd Q n := by
  intro n
  induction n with
  | zero => intro _; rfl
  | succ n ih => intro h; rw [crd, crd, ih (fun z hz => h z (by omega)), h n (by omega)]
theorem b12_nI {x : Int32} (h : b12 x) : ∃ s, s < 4096 ∧ x = nI s := by
  have e : x = nI x.toBitVec.toNat := Int32.toBitVec_inj.mp (by
    show x.toBitVec = BitVec.ofNat 32 x.toBitVec.toNat
    rw [BitVec.ofNat_toNat]; simp)
  refine ⟨x.toBitVec.toNat, ?_, e⟩
  apply Nat.lt_pow_two_of_testBit (n := 12)
  intro i hi
  have := h i hi
  unfold bt at this
  rw [BitVec.testBit_toNat]; exact this
theorem bitCount_b {x : Int32} (h : b12 x) : M_bitCount x = nI (crd (bt x) 12) := by
  obtain ⟨s, hs, rfl⟩ := b12_nI h
  have e : s = 64 * (s / 64) + s % 64 := by omega
  have := bc0 (s / 64) (by omega) (s % 64) (by omega)
  rw [← e] at this
  rw [this]
  congr 1
  exact crd_cg 12 (fun z hz => (bt_nI s (by omega)).symm)
theorem fp_b {σ μ : St} (hR : Rel σ μ) {o : Nat} (ho : o < 10) {x : Int32} : ∀ (n i : Nat), i + n = 8 → (M_firstPartOf_h2 (n + 1) i σ o x = -1 ↔ ∀ k, i ≤ k → k < np μ o → bt x (gA μ 9 (8 * o + k)).toNatClampNeg = false) := by
  obtain ⟨r1, r2, r3, r4, r5⟩ := (hR.pi ho).1
  obtain ⟨hn, en⟩ := np_le hR.im ho
  intro n
  induction n with
  | zero =>
    intro i hi
    rw [M_firstPartOf_h2, r1, en, if_pos ((nI_le_iff (by omega) (by omega)).mpr (show np μ o ≤ i by omega))]
    exact ⟨fun _ k h1 h2 => by omega, fun _ => rfl⟩
  | succ n ih =>
    intro i hi
    rw [M_firstPartOf_h2, r1, en]
    by_cases c : np μ o ≤ i
    · rw [if_pos ((nI_le_iff (by omega) (by omega)).mpr c)]
      exact ⟨fun _ k h1 h2 => by omega, fun _ => rfl⟩
    · rw [if_neg (fun q => c ((nI_le_iff (by omega) (by omega)).mp q)), r2 i (by omega)]
      obtain ⟨j, hj, e, ec⟩ := vin_nI (r3 i (by omega)) (by decide)
      rw [e, has_bt x (by omega)]
      cases hb : bt x j
      · rw [if_pos (by rfl), ih (i + 1) (by omega)]
        constructor
        · intro f k h1 h2
          by_cases q : k = i
          · subst q; rw [ec]; exact hb
          · exact f k (by omega) h2
        · intro f k h1 h2; exact f k (by omega) h2
      · rw [if_neg (by decide)]
        constructor
        · intro q; exact absurd q (nI_m1 (by omega))
        · intro f; have := f i (Nat.le_refl _) (by omega); rw [ec, hb] at this; cases this
theorem fp_iff {σ μ : St} (hR : Rel σ μ) {o : Nat} (ho : o < 10) {x : Int32} : M_firstPartOf σ o x = -1 ↔ x &&& gF σ (pPi o) 5 = 0 := by
  obtain ⟨r1, r2, r3, r4, r5⟩ := (hR.pi ho).1
  obtain ⟨hn, en⟩ := np_le hR.im ho
  have h := fp_b hR ho (x := x) 8 0 rfl
  rw [show M_firstPartOf σ o x = M_firstPartOf_h2 (8 + 1) 0 σ o x from rfl, h, bt_z]
  constructor
  · intro f z hz
    rw [bt_and]
    rcases Nat.lt_or_ge z 12 with q | q
    · rw [r4 z q]
      cases ha : anyP μ o (np μ o) (nI z)
      · exact Bool.and_false _
      · unfold anyP at ha
        obtain ⟨k, hk, e⟩ := List.any_eq_true.mp ha
        have e' : gA μ 9 (8 * o + k) = nI z := of_decide_eq_true e
        have := f k (Nat.zero_le _) (List.mem_range.mp hk)
        rw [e', nI_clamp (by omega)] at this
        rw [this]; rfl
    · rw [r5 z q, Bool.and_false]
  · intro f k _ hk
    obtain ⟨j, hj, e, ec⟩ := vin_nI (r3 k hk) (by decide)
    have := f j (by omega)
    rw [bt_and, r4 j (by omega), show anyP μ o (np μ o) (nI j) = true from List.any_eq_true.mpr ⟨k, List.mem_range.mpr hk, by rw [e]; simp⟩, Bool.and_true] at this
    rw [ec]; exact this
theorem mbd {σ μ : St} (hR : Rel σ μ) {o z N : Nat} (ho : o < 10) (hz : z < 12) (hN : N ≤ 12) (h6 : gF σ 0 6 = nI N) : ¬ M_mayBeDone σ o (nI z) = 0 ↔ z < N ∧ M_firstPartOf σ o (gF σ (pMe z) 2) = -1 ∧ (gF σ (pMe z) 3) &&& (gF σ (pPi o) 6) = 0 := by
  rw [fp_iff hR ho]
  unfold M_mayBeDone
  rw [h6, nI_clamp (by omega)]
  by_cases a : N ≤ z
  · rw [if_pos ((nI_le_iff (by omega) (by omega)).mpr a)]
    exact ⟨fun q => absurd rfl q, fun q => by omega⟩
  · rw [if_neg (fun q => a ((nI_le_iff (by omega) (by omega)).mp q))]
    by_cases b : gF σ (pMe z) 2 &&& gF σ (pPi o) 5 = 0
    · rw [if_pos b]
      by_cases d : gF σ (pMe z) 3 &&& gF σ (pPi o) 6 = 0
      · rw [if_pos d]; exact ⟨fun _ => ⟨by omega, b, d⟩, fun _ => by decide⟩
      · rw [if_neg d]; exact ⟨fun q => absurd rfl q, fun q => absurd q.2.2 d⟩
    · rw [if_neg b]; exact ⟨fun q => absurd rfl q, fun q => absurd q.2.1 b⟩
theorem emb {σ : St} {o : Nat} {x : Int32} : ∀ (n i : Nat), i + n = 12 → (¬ M_eachMayBeDone_h2 (n + 1) i x σ o = 0 ↔ ∀ z, i ≤ z → z < 12 → bt x z = true → ¬ M_mayBeDone σ o (nI z) = 0) := by
  intro n
  induction n with
  | zero =>
    intro i hi
    rw [M_eachMayBeDone_h2, if_pos (show (12 : Int32) ≤ nI i from (nI_le_iff (a := 12) (by decide) (by omega)).mpr (by omega))]
    exact ⟨fun _ z h1 h2 => by omega, fun _ => by decide⟩
  | succ n ih =>
    intro i hi
    rw [M_eachMayBeDone_h2, if_neg (show ¬ (12 : Int32) ≤ nI i from nI_lt' (b := 12) (by omega) (by decide)), has_bt x (by omega)]
    cases hb : bt x i
    · rw [if_pos (by rfl), ih (i + 1) (by omega)]
      constructor
      · intro f z h1 h2 h3
        by_cases e : z = i
        · subst e; rw [hb] at h3; cases h3
        · exact f z (by omega) h2 h3
      · intro f z h1 h2 h3; exact f z (by omega) h2 h3
    · rw [if_neg (by decide)]
      by_cases d : M_mayBeDone σ o (nI i) = 0
      · rw [if_pos d]
        exact ⟨fun q => absurd rfl q, fun f => absurd d (f i (Nat.le_refl _) (by omega) hb)⟩
      · rw [if_neg d, ih (i + 1) (by omega)]
        constructor
        · intro f z h1 h2 h3
          by_cases e : z = i
          · subst e; exact d
          · exact f z (by omega) h2 h3
        · intro f z h1 h2 h3; exact f z (by omega) h2 h3

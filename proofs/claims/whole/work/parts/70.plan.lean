/-! the order, and the call plan -/
theorem pl_keep {o n : Nat} : ∀ (f s z : Nat) (τ : St), (∀ p, p ≠ 20 → gA (pl171 f s z τ o n) p = gA τ p) ∧ gF (pl171 f s z τ o n) = gF τ ∧ gL (pl171 f s z τ o n) = gL τ ∧ ∀ q, q < s ∨ n ≤ q → gA (pl171 f s z τ o n) 20 q = gA τ 20 q := by
  intro f
  induction f with
  | zero => intro s z τ; exact ⟨fun _ _ => rfl, rfl, rfl, fun _ _ => rfl⟩
  | succ f ih =>
    intro s z τ
    rw [pl171]
    by_cases c : n ≤ s
    · rw [if_pos c]; exact ⟨fun _ _ => rfl, rfl, rfl, fun _ _ => rfl⟩
    · rw [if_neg c]
      obtain ⟨r1, r2, r3, r4⟩ := ih (s + 1) (z ||| 2 ^ (pl181 11 0 τ o n z)) (sA τ 20 s (gA τ 21 (pl181 11 0 τ o n z)))
      exact ⟨fun p hp => by rw [r1 p hp]; exact gA_ne hp, r2, r3, fun q hq => by rw [r4 q (by omega)]; exact gA_nj (by omega)⟩
theorem pl181_least {τ : St} {o n S k : Nat} (hk : nxt τ o n S k) : ∀ (f i : Nat), i ≤ k → k < i + f → (∀ j, i ≤ j → j < k → ¬ nxt τ o n S j) → pl181 f i τ o n S = k := by
  intro f
  induction f with
  | zero => intro i h1 h2; omega
  | succ f ih =>
    intro i h1 h2 h3
    by_cases e : i = k
    · subst e; exact pl181_y hk
    · rw [pl181_n (h3 i (Nat.le_refl _) (by omega))]
      exact ih (i + 1) (by omega) (by omega) (fun j a b => h3 j (by omega) b)
theorem cnt_full : ∀ n, n < 11 → ∀ S, S < 1024 → S < 2 ^ n → cnt S = n → S = 2 ^ n - 1 := by decide +kernel
theorem cnt_or {S k : Nat} (hS : S < 1024) (hk : k < 10) (h : S.testBit k = false) : cnt (S ||| 2 ^ k) = cnt S + 1 := by
  refine cnt_up S hS k hk ?_
  rw [Nat.testBit_eq_decide_div_mod_eq] at h
  have := of_decide_eq_false h
  omega
def TT (σ τ : St) (o n : Nat) (c : Nat → Nat) (E : Nat → Prop) : Prop := (∀ S, S < 2 ^ n → ∀ k, k < n → (nxt τ o n S k ↔ Nx n (aa σ c) (bb σ c) (ccl σ o c) E S k)) ∧ ∀ k, k < n → gA τ 21 k = nI (c k)
theorem TT.set {σ τ : St} {o n s : Nat} {c : Nat → Nat} {E : Nat → Prop} {v : Int32} (h : TT σ τ o n c E) : TT σ (sA τ 20 s v) o n c E := ⟨fun S hS k hk => by rw [nxt_eq (eqX.set τ s v) (gA_np (by decide))]; exact h.1 S hS k hk, fun k hk => by rw [gA_np (by decide)]; exact h.2 k hk⟩
theorem run_y {σ : St} {o N n : Nat} {X : Int32} {c : Nat → Nat} (h : PC σ o N n X c) (h6 : gF σ 0 6 = nI N) {E : Nat → Prop} (hE : EE n (aa σ c) (bb σ c) (ccl σ o c) E) : ∀ (f i S : Nat) (L : Int32) (σ' τ : St), f + i = 10 → i ≤ n → cnt S = i → S < 2 ^ n → LB n c L S → gF σ' = gF σ → TT σ τ o n c E → E S →
    ∃ σ'', (∀ p, p ≠ 95 → gA σ'' p = gA σ' p) ∧ gF σ'' = gF σ' ∧ gL σ'' = gL σ' ∧ (∀ s, s < i → gA σ'' 95 s = gA σ' 95 s) ∧ M_putInOrder_h5 (f + 1) i L σ' (nI n) = (1, σ'') ∧ ∀ s, i ≤ s → s < n → gA σ'' 95 s = gA (pl171 (f + 1) i S τ o n) 20 s := by
  have hn := h.n10
  have hpw : 2 ^ n ≤ 1024 := pw_le (by omega)
  intro f
  induction f with
  | zero =>
    intro i S L σ' τ hf hi hcn hS hL hg hT hES
    refine ⟨σ', fun _ _ => rfl, rfl, rfl, fun _ _ => rfl, ?_, fun s a b => by omega⟩
    rw [M_putInOrder_h5, if_pos ((nI_le_iff (by omega) (by omega)).mpr (show n ≤ i by omega))]
  | succ f ih =>
    intro i S L σ' τ hf hi hcn hS hL hg hT hES
    by_cases e : i = n
    · refine ⟨σ', fun _ _ => rfl, rfl, rfl, fun _ _ => rfl, ?_, fun s a b => by omega⟩
      rw [M_putInOrder_h5, if_pos ((nI_le_iff (by omega) (by omega)).mpr (show n ≤ i by omega))]
    · have hin : i < n := by omega
      have hnf : S ≠ 2 ^ n - 1 := fun q => by
        have := cnt_all n (by omega)
        rw [← q, hcn] at this
        omega
      rcases pick h h6 hg hL with ⟨r1, r2⟩ | ⟨k, hk, r1, r2, r3⟩
      · rcases (hE S hS).mp hES with q | ⟨k, q⟩
        · exact absurd q hnf
        · exact absurd ((nx_iff hE hS hES).mp q) (r2 k)
      · have hNx := (nx_iff hE hS hES).mpr r2
        have hnx := (hT.1 S hS k hk).mpr hNx
        have hpl : pl181 11 0 τ o n S = k := pl181_least hnx 11 0 (Nat.zero_le _) (by omega) (fun j _ hj q => r3 j hj ((nx_iff hE hS hES).mp ((hT.1 S hS j (by omega)).mp q)))
        have hck : c k < 12 := by have := (h.c1 k hk).1; have := h.N12; omega
        obtain ⟨σ'', s1, s2, s3, s4, s5, s6⟩ := ih (i + 1) (S ||| 2 ^ k) (M_with L (nI (c k)) 0) (sA σ' 95 i (nI (c k))) (sA τ 20 i (nI (c k))) (by omega) (by omega) (by rw [cnt_or (by omega) (by omega) r2.2.1, hcn]) (or_ltn hS hk) (hL.next hk (fun k hk => by have := (h.c1 k hk).1; have := h.N12; omega) (fun j k => h.inj)) hg hT.set hNx.2.2.1
        refine ⟨σ'', fun p hp => by rw [s1 p hp]; exact gA_ne hp, s2, s3, fun s hs => by rw [s4 s (by omega)]; exact gA_nj (by omega), ?_, fun s a b => ?_⟩
        · rw [M_putInOrder_h5, if_neg (fun w => by have := (nI_le_iff (by omega) (by omega)).mp w; omega), if_neg (show ¬ (10 : Int32) ≤ nI i from nI_lt' (b := 10) (by omega) (by decide)), r1, if_neg (nI_m1 (by omega)), s5]
        · have ep : pl171 (f + 1 + 1) i S τ o n = pl171 (f + 1) (i + 1) (S ||| 2 ^ k) (sA τ 20 i (nI (c k))) o n := by
            rw [pl171, if_neg (show ¬ n ≤ i by omega), hpl, hT.2 k hk]
          rw [ep]
          by_cases es : s = i
          · subst es
            rw [s4 s (by omega), gA_s, (pl_keep (o := o) (n := n) (f + 1) (s + 1) (S ||| 2 ^ k) (sA τ 20 s (nI (c k)))).2.2.2 s (by omega), gA_s]
          · exact s6 s (by omega) b
theorem run_n {σ : St} {o N n : Nat} {X : Int32} {c : Nat → Nat} (h : PC σ o N n X c) (h6 : gF σ 0 6 = nI N) {E : Nat → Prop} (hE : EE n (aa σ c) (bb σ c) (ccl σ o c) E) (hcl : ∀ k, k < n → ccl σ o c k) : ∀ (f i S : Nat) (L : Int32) (σ' : St), f + i = 10 → i ≤ n → cnt S = i → S < 2 ^ n → LB n c L S → gF σ' = gF σ → (∀ j, j < n → S.testBit j = false → ∀ i, i < n → bb σ c j i → S.testBit i = false) → ¬ E S →
    ∃ σ'', (∀ p, p ≠ 95 → gA σ'' p = gA σ' p) ∧ gF σ'' = gF σ' ∧ gL σ'' = gL σ' ∧ M_putInOrder_h5 (f + 1) i L σ' (nI n) = (0, σ'') := by
  have hn := h.n10
  have hpw : 2 ^ n ≤ 1024 := pw_le (by omega)
  intro f
  induction f with
  | zero =>
    intro i S L σ' hf hi hcn hS hL hg hV hES
    have e : i = n := by omega
    exact absurd ((hE S hS).mpr (Or.inl (cnt_full n (by omega) S (by omega) hS (by omega)))) hES
  | succ f ih =>
    intro i S L σ' hf hi hcn hS hL hg hV hES
    by_cases e : i = n
    · exact absurd ((hE S hS).mpr (Or.inl (cnt_full n (by omega) S (by omega) hS (by omega)))) hES
    · rcases pick h h6 hg hL with ⟨r1, r2⟩ | ⟨k, hk, r1, r2, r3⟩
      · refine ⟨σ', fun _ _ => rfl, rfl, rfl, ?_⟩
        rw [M_putInOrder_h5, if_neg (fun w => by have := (nI_le_iff (by omega) (by omega)).mp w; omega), if_neg (show ¬ (10 : Int32) ≤ nI i from nI_lt' (b := 10) (by omega) (by decide)), r1, if_pos rfl]
      · have hck : c k < 12 := by have := (h.c1 k hk).1; have := h.N12; omega
        obtain ⟨σ'', s1, s2, s3, s4⟩ := ih (i + 1) (S ||| 2 ^ k) (M_with L (nI (c k)) 0) (sA σ' 95 i (nI (c k))) (by omega) (by omega) (by rw [cnt_or (by omega) (by omega) r2.2.1, hcn]) (or_ltn hS hk) (hL.next hk (fun k hk => by have := (h.c1 k hk).1; have := h.N12; omega) (fun j k => h.inj)) hg (fun j hj hb q hq hbb => by
            obtain ⟨f1, f2⟩ := or_f hb
            exact or_i (hV j hj f1 q hq hbb) (fun w => by subst w; exact r2.2.2.2 j hj (fun w => f2 w.symm) f1 hbb)) (fun w => hES ((hE S hS).mpr (Or.inr ⟨k, hk, r2.2.1, w, r2.2.2.1, fun j hj hb => hV k hk r2.2.1 j hj hb, hcl k hk⟩)))
        refine ⟨σ'', fun p hp => by rw [s1 p hp]; exact gA_ne hp, s2, s3, ?_⟩
        rw [M_putInOrder_h5, if_neg (fun w => by have := (nI_le_iff (by omega) (by omega)).mp w; omega), if_neg (show ¬ (10 : Int32) ≤ nI i from nI_lt' (b := 10) (by omega) (by decide)), r1, if_neg (nI_m1 (by omega)), s4]
/-! orders keeps the longs -/
theorem o33_L {j2 z j1 : Nat} : ∀ (n i : Nat) (τ : St), gL (M_m_orders_h33 n i τ j2 z j1) = gL τ := by
  intro n
  induction n with
  | zero => intro i τ; rfl
  | succ n ih =>
    intro i τ
    rw [M_m_orders_h33]
    by_cases c : nI j2 ≤ nI i
    · rw [if_pos c]
    · rw [if_neg c, vb_eq, vb_eq, ih]; rfl
theorem o6_L {j2 j1 : Nat} : ∀ (i : Nat) (τ : St), gL (M_m_orders_h6 i τ j2 j1).2 = gL τ := by
  intro i
  induction i with
  | zero => intro τ; rfl
  | succ i ih => intro τ; rw [M_m_orders_h6, vb_eq, vb_eq, ih, o33_L]; rfl
/-- which masks are methods -/
theorem bt_ushrN (x : Int32) {N : Nat} (hN : N < 32) (j : Nat) : bt ((x.toUInt32 >>> ((nI N).toUInt32 &&& Int32.toUInt32 31)).toInt32) j = bt x (N + j) := by
  rw [sh_u N hN]
  show ((x.toUInt32 >>> UInt32.ofNat N).toBitVec).getLsbD j = x.toBitVec.getLsbD (N + j)
  rw [UInt32.toBitVec_shiftRight]
  show (x.toBitVec >>> ((UInt32.ofNat N).toBitVec % 32#32)).getLsbD j = _
  rw [BitVec.ushiftRight_eq', sh_b N hN, BitVec.getLsbD_ushiftRight]
theorem mk_c {x : Int32} {N : Nat} (hN : N ≤ 12) : (x.toUInt32 >>> ((nI N).toUInt32 &&& Int32.toUInt32 31)).toInt32 = 0 ↔ ∃ s, s < 2 ^ N ∧ x = nI s := by
  have hp : 2 ^ N ≤ 4096 := Nat.pow_le_pow_right (by decide) hN
  rw [bt_z]
  constructor
  · intro h
    have hb : ∀ z, N ≤ z → bt x z = false := fun z hz => by
      rcases Nat.lt_or_ge z 32 with q | q
      · have := h (z - N) (by omega)
        rw [bt_ushrN x (by omega), show N + (z - N) = z by omega] at this
        exact this
      · exact bt_big q
    obtain ⟨s, hs, e⟩ := b12_nI (x := x) (fun z hz => hb z (by omega))
    refine ⟨s, ?_, e⟩
    apply Nat.lt_pow_two_of_testBit
    intro i hi
    rcases Nat.lt_or_ge i 32 with q | q
    · rw [← bt_nI s q, ← e]; exact hb i hi
    · exact Nat.testBit_lt_two_pow (Nat.lt_of_lt_of_le (show s < 2 ^ 12 from hs) (Nat.pow_le_pow_right (by decide) (by omega)))
  · rintro ⟨s, hs, rfl⟩ k hk
    rw [bt_ushrN _ (by omega)]
    rcases Nat.lt_or_ge (N + k) 32 with q | q
    · rw [bt_nI s q]
      exact Nat.testBit_lt_two_pow (Nat.lt_of_lt_of_le hs (Nat.pow_le_pow_right (by decide) (by omega)))
    · exact bt_big q
theorem mk_sh : ∀ N, N < 13 → (1 : Int32) <<< (nI N &&& 31) = nI (2 ^ N) := by decide +kernel
theorem mk_m {x : Int32} {N : Nat} (hN : N ≤ 12) : (¬ x < 0 ∧ ¬ ((1 : Int32) <<< (nI N &&& 31)) ≤ x) ↔ ∃ s, s < 2 ^ N ∧ x = nI s := by
  have hp : 2 ^ N ≤ 4096 := Nat.pow_le_pow_right (by decide) hN
  rw [mk_sh N (by omega)]
  constructor
  · rintro ⟨h1, h2⟩
    obtain ⟨s, hs, e⟩ := nI_of h1
    refine ⟨s, ?_, e⟩
    rcases Nat.lt_or_ge s (2 ^ N) with q | q
    · exact q
    · exact absurd (by rw [e]; exact nI_le q (by omega)) h2
  · rintro ⟨s, hs, rfl⟩
    exact ⟨nI_pos (by omega), nI_lt' hs (by omega)⟩
theorem sim_plan : S_plan Rel := by
  intro σ μ p1 p2 hR
  have er : M_m_plan μ p1 p2 = if (if M_m_isObject μ p1 = 0 then (0 : Int32) else (if p2 < 0 then 0 else (if ((1 : Int32) <<< ((gF μ 0 3) &&& 31)) ≤ p2 then 0 else 1))) = 0 then (0, sF μ 0 0 1) else M_m_plan_h53 13 0 (M_m_closed (sF μ 0 0 0) p2) 0 1 (sF μ 0 0 0) p1 := by
    rw [M_m_plan, vb_eq]
    generalize (if M_m_isObject μ p1 = 0 then (0 : Int32) else (if p2 < 0 then 0 else (if ((1 : Int32) <<< ((gF μ 0 3) &&& 31)) ≤ p2 then 0 else 1))) = y
    by_cases c : y = 0
    · rw [if_pos c, goes_1 c, pb_mk, if_pos rfl]
    · rw [if_neg c, goes_0 c (by decide) (by decide), pb_mk, if_neg (show ¬ (1 : Int32) = 0 by decide)]
  have hI := hR.im.2.1
  obtain ⟨N, hN13, eN⟩ := x_nI (N := 13) hI.1 (by omega) (by decide)
  have hN : N ≤ 12 := by omega
  have h6 : gF σ 0 6 = nI N := hR.ct.1.trans eN
  rcases obj hR p1 with ⟨a, b⟩ | ⟨o, ho, rfl, -, a, b⟩
  · have hB : M_plan σ p1 p2 = .error "java/lang/IndexOutOfBoundsException" := by rw [M_plan, b, xb_er]
    have hM : M_m_plan μ p1 p2 = (0, sF μ 0 0 1) := by rw [er, if_pos a, if_pos rfl]
    rw [hB, hM]
    exact ⟨rfl, hR.k0⟩
  · by_cases hp : ∃ s, s < 2 ^ N ∧ p2 = nI s
    · have hc := (mk_c (x := p2) hN).mpr hp
      obtain ⟨m1, m2⟩ := (mk_m (x := p2) hN).mpr hp
      have hM0 : M_m_plan μ (nI o) p2 = M_m_plan_h53 13 0 (M_m_closed (sF μ 0 0 0) p2) 0 1 (sF μ 0 0 0) (nI o) := by
        rw [er, eN, if_neg (by rw [if_neg (by rw [a]; decide), if_neg m1, if_neg m2]; decide)]
      have hR0 : Rel σ (sF μ 0 0 0) := hR.k0
      have e30 : gF (sF μ 0 0 0) 0 3 = nI N := eN
      have hp12 : b12 p2 := by
        obtain ⟨s, hs, rfl⟩ := hp
        intro z hz
        rcases Nat.lt_or_ge z 32 with q | q
        · rw [bt_nI s q]
          exact Nat.testBit_lt_two_pow (Nat.lt_of_lt_of_le hs (Nat.pow_le_pow_right (by decide) (by omega)))
        · exact bt_big q
      obtain ⟨x1, x2, x3, x4⟩ := clo_eq hR0 hN e30 hp12
      generalize M_m_closed (sF μ 0 0 0) p2 = X at hM0 x1 x2 x3 x4
      have hst : ∀ z, bt (X &&& (gF σ (pPi o) 6 ^^^ (-1))) z = true ↔ stp σ o X z = true := fun z => by
        rw [bt_and]
        rcases Nat.lt_or_ge z 32 with q | q
        · rw [bt_not _ q]; rfl
        · unfold stp; rw [bt_big q, Bool.false_and, Bool.false_and]
      have hst12 : ∀ z, stp σ o X z = true → z < 12 := fun z hz => by
        rcases Nat.lt_or_ge z 12 with q | q
        · exact q
        · unfold stp at hz; rw [x2 z q] at hz; cases hz
      have hs12 : b12 (X &&& (gF σ (pPi o) 6 ^^^ (-1))) := fun z hz => not_t (fun w => by have := hst12 z ((hst z).mp w); omega)
      have hbc := bitCount_b hs12
      rw [crd_cg 12 (Q := stp σ o X) (fun z _ => by
        cases w : stp σ o X z
        · exact not_t (fun v => by rw [(hst z).mp v] at w; cases w)
        · exact (hst z).mpr w)] at hbc
      have hnn := crd_le (P := stp σ o X) 12
      obtain ⟨τ, x5, t1, t2, t3, t4, t5, t6, t7⟩ := ch53 (σ := σ) (X := X) ho hN 12 0 1 (sF μ 0 0 0) rfl hR0 e30 (fun _ => ⟨fun k hk => absurd hk (by show ¬ k < 0; omega), fun m hm => by omega, fun k k' h1 h2 => absurd h2 (by show ¬ k' < 0; omega)⟩)
      have hM1 : M_m_plan μ (nI o) p2 = FIN (nI o) (nI (crd (stp σ o X) 12)) x5 τ := hM0.trans t1
      have hB0 : M_plan σ (nI o) p2 = if nI (crd (stp σ o X) 12) ≤ 10 then (if (M_eachMayBeDone σ o (X &&& (gF σ (pPi o) 6 ^^^ (-1)))) = 0 then .ok ((-1), σ) else (pb (M_putInOrder σ (X &&& (gF σ (pPi o) 6 ^^^ (-1))) (nI (crd (stp σ o X) 12))) (fun r8 σ9 => (if r8 = 0 then .ok ((-1), σ9) else .ok (nI (crd (stp σ o X) 12), (sF (cpA σ9 95 94 (0 : Int32).toNatClampNeg (0 : Int32).toNatClampNeg (nI (crd (stp σ o X) 12)).toNatClampNeg) 0 8 (nI (crd (stp σ o X) 12)))))))) else .ok ((-2), σ) := by
        rw [M_plan, b, xb_ok, h6, if_pos hc, x1, hbc]
      have z0 : gF τ 0 0 = 0 := by rw [t4]; exact gF_s _ _ _ _
      have z3 : gF τ 0 3 = nI N := by rw [t4]; exact e30
      generalize hn : crd (stp σ o X) 12 = n at hM1 hB0 hnn t5
      by_cases c10 : n ≤ 10
      · have c10' : nI n ≤ 10 := (nI_le_iff (b := 10) (by omega) (by decide)).mpr c10
        rw [if_pos c10'] at hB0
        have hM2 : M_m_plan μ (nI o) p2 = if x5 = 0 then ((-1), τ) else (pb (M_m_orders τ (nI o) (nI n)) (fun r11 σ12 => (if r11 = 0 then ((-1), σ12) else (T_plan σ12 (nI o) (nI n))))) := by rw [hM1, FIN, if_pos c10']
        have hemb := emb (σ := σ) (o := o) (x := X &&& (gF σ (pPi o) 6 ^^^ (-1))) 12 0 rfl
        have hemb2 : ¬ M_eachMayBeDone σ o (X &&& (gF σ (pPi o) 6 ^^^ (-1))) = 0 ↔ ∀ z, z < 12 → stp σ o X z = true → z < N ∧ M_firstPartOf σ o (gF σ (pMe z) 2) = -1 ∧ (gF σ (pMe z) 3) &&& (gF σ (pPi o) 6) = 0 := by
          rw [show M_eachMayBeDone σ o (X &&& (gF σ (pPi o) 6 ^^^ (-1))) = M_eachMayBeDone_h2 (12 + 1) 0 (X &&& (gF σ (pPi o) 6 ^^^ (-1))) σ o from rfl, hemb]
          constructor
          · intro f z hz hs; exact (mbd hR0 ho hz hN h6).mp (f z (Nat.zero_le _) hz ((hst z).mpr hs))
          · intro f z _ hz hs; exact (mbd hR0 ho hz hN h6).mpr (f z hz ((hst z).mp hs))
        have fail : M_eachMayBeDone σ o (X &&& (gF σ (pPi o) 6 ^^^ (-1))) = 0 → M_plan σ (nI o) p2 = .ok ((-1), σ) := fun w => by rw [hB0, if_pos w]
        by_cases c5 : x5 = 0
        · have hM3 : M_m_plan μ (nI o) p2 = ((-1), τ) := by rw [hM2, if_pos c5]
          have hB3 := fail (Classical.byContradiction (fun w => by
            have f := hemb2.mp w
            exact (t2.mpr ⟨by decide, fun z _ hz hs => ⟨(f z hz hs).1, (f z hz hs).2.1⟩⟩) c5))
          rw [hB3, hM3]
          exact ⟨z0, rfl, t3⟩
        · have hok := (t2.mp c5).2
          have hCH := t5 c10
          have hPC : PC σ o N n X (ch τ) := ⟨c10, hN, ho, fun k hk => ⟨(hok _ (Nat.zero_le _) (hCH.1 k hk).2.1 (hCH.1 k hk).2.2).1, (hCH.1 k hk).2.2⟩, hCH.2.1, hCH.2.2, x4, fun m hm z hz => ((hR.me (by omega)).2 (by rw [eN, nI_toInt (by omega)]; omega)).2.2.2.1 z hz⟩
          have hord : M_m_orders τ (nI o) (nI n) = N_m_orders τ o n := by rw [M_m_orders, nI_clamp (by omega), nI_clamp (by omega)]
          obtain ⟨d1, d2, d3⟩ := dp_iff (j1 := o) (j2 := n) c10 τ
          have dI : IM (N_m_orders τ o n).2 := ord_I (2 ^ n) τ t3.im
          have dL : gL (N_m_orders τ o n).2 = gL τ := o6_L (2 ^ n) τ
          generalize N_m_orders τ o n = R at hord d1 d2 d3 dI dL
          obtain ⟨r, ω⟩ := R
          have dA : ∀ p, p ≠ 22 → gA ω p = gA τ p := fun p hp => funext (fun k => d1.1 p k hp)
          have dF : gF ω = gF τ := funext (fun i => funext (fun j => d1.2 i j))
          have hω : Rel σ ω := Rel.pln t3 (fun _ _ _ _ => same.rf) (fun _ _ => rfl) (fun p hp => dA p (by omega)) (fun k _ => by show gF ω 0 k = gF τ 0 k; rw [dF]) dL t3.ib dI ⟨by show gF σ 0 8 = gF ω 0 23; rw [dF]; exact t3.pl.1, fun k hk => by show gA σ 94 k = gA ω 20 k; rw [dA 20 (by decide)]; exact t3.pl.2 k hk⟩
          have hc21 : ∀ k, k < n → gA ω 21 k = nI (ch τ k) := fun k hk => by rw [dA 21 (by decide)]; exact (hCH.1 k hk).1
          have hnx : ∀ S, S < 2 ^ n → ∀ k, k < n → (nxt ω o n S k ↔ Nx n (aa σ (ch τ)) (bb σ (ch τ)) (ccl σ o (ch τ)) (fun S => gA ω 22 S ≠ 0) S k) := fun S hS k hk => nx_nxt hPC hω (by rw [dF]; exact z3) hc21 hS hk
          have hE : EE n (aa σ (ch τ)) (bb σ (ch τ)) (ccl σ o (ch τ)) (fun S => gA ω 22 S ≠ 0) := fun S hS => by
            show gA ω 22 S ≠ 0 ↔ _
            rw [d3 S hS]
            constructor
            · rintro (q | ⟨k, hk, q⟩)
              · exact Or.inl q
              · exact Or.inr ⟨k, (hnx S hS k hk).mp q⟩
            · rintro (q | ⟨k, q⟩)
              · exact Or.inl q
              · exact Or.inr ⟨k, q.1, (hnx S hS k q.1).mpr q⟩
          have hM3 : M_m_plan μ (nI o) p2 = if r = 0 then ((-1), ω) else T_plan ω (nI o) (nI n) := by rw [hM2, if_neg c5, hord, pb_mk]
          have d2' : r = gA ω 22 0 := d2
          have w0 : gF ω 0 0 = 0 := by rw [dF]; exact z0
          have hp0 : 0 < 2 ^ n := Nat.pos_of_ne_zero (by simp)
          have zb : ∀ j, (0 : Nat).testBit j = false := fun j => Nat.zero_testBit j
          by_cases hcl : ∀ k, k < n → ccl σ o (ch τ) k
          · have hemb3 : ¬ M_eachMayBeDone σ o (X &&& (gF σ (pPi o) 6 ^^^ (-1))) = 0 := hemb2.mpr (fun z hz hs => by
              obtain ⟨q1, q2⟩ := hok z (Nat.zero_le _) hz hs
              obtain ⟨k, hk, e⟩ := hPC.c2 z hz hs
              refine ⟨q1, q2, bt_z.mpr (fun y _ => ?_)⟩
              rw [bt_and]
              rcases Nat.lt_or_ge y 12 with v | v
              · cases w : bt (gF σ (pMe z) 3) y
                · rfl
                · rw [Bool.true_and]
                  have := hcl k hk y v
                  rw [e] at this
                  exact this w
              · rw [(hR.pi ho).2.2.2.2.2.1 y v, Bool.and_false])
            rw [if_neg hemb3] at hB0
            have hLB : LB n (ch τ) (X &&& (gF σ (pPi o) 6 ^^^ (-1))) 0 := fun z => by
              rw [hst z]
              constructor
              · intro w
                obtain ⟨k, hk, e⟩ := hPC.c2 z (hst12 z w) w
                exact ⟨k, hk, zb k, e⟩
              · rintro ⟨j, hj, -, e⟩
                rw [← e]; exact (hPC.c1 j hj).2
            by_cases hr : r = 0
            · obtain ⟨σ'', s1, s2, s3, s4⟩ := run_n hPC h6 hE hcl 10 0 0 (X &&& (gF σ (pPi o) 6 ^^^ (-1))) σ rfl (Nat.zero_le _) rfl hp0 hLB rfl (fun j _ _ i _ _ => zb i) (fun w => w (d2'.symm.trans hr))
              have hB3 : M_plan σ (nI o) p2 = .ok ((-1), σ'') := by
                rw [hB0, show M_putInOrder σ (X &&& (gF σ (pPi o) 6 ^^^ (-1))) (nI n) = (0, σ'') from s4, pb_mk, if_pos rfl]
              have hM4 : M_m_plan μ (nI o) p2 = ((-1), ω) := by rw [hM3, if_pos hr]
              rw [hB3, hM4]
              have hsm : ∀ i, i ≠ 95 → same σ σ'' i := fun i hi => ⟨fun j => by rw [s2], fun j => by rw [s3], s1 i hi⟩
              exact ⟨w0, rfl, Rel.pln hω (fun i _ _ h3 => hsm i h3) (fun j _ => (hsm 0 (by decide)).1 j) (fun _ _ => rfl) (fun _ _ => rfl) rfl (by unfold IB IP; rw [s2]; exact hω.ib) hω.im ⟨by rw [s2]; exact hω.pl.1, fun k hk => by rw [s1 94 (by decide)]; exact hω.pl.2 k hk⟩⟩
            · obtain ⟨σ'', s1, s2, s3, s4, s5, s6⟩ := run_y hPC h6 hE 10 0 0 (X &&& (gF σ (pPi o) 6 ^^^ (-1))) σ ω rfl (Nat.zero_le _) rfl hp0 hLB rfl ⟨hnx, hc21⟩ (fun w => hr (d2'.trans w))
              have hB3 : M_plan σ (nI o) p2 = .ok (nI n, sF (cpA σ'' 95 94 0 0 n) 0 8 (nI n)) := by
                rw [hB0, show M_putInOrder σ (X &&& (gF σ (pPi o) 6 ^^^ (-1))) (nI n) = (1, σ'') from s5, pb_mk, if_neg (show ¬ (1 : Int32) = 0 by decide), nI_clamp (by omega)]
                rfl
              have hM4 : M_m_plan μ (nI o) p2 = (nI n, sF (pl171 11 0 0 ω o n) 0 23 (nI n)) := by
                rw [hM3, if_neg hr, T_plan, nI_clamp (by omega), nI_clamp (by omega)]
              obtain ⟨k1, k2, k3, k4⟩ := pl_keep (o := o) (n := n) 11 0 0 ω
              rw [hB3, hM4]
              generalize pl171 11 0 0 ω o n = π at k1 k2 k3 k4 s6
              have hn1 : (nI n).toInt = (n : Int) := nI_toInt (by omega)
              have cA : ∀ p, p ≠ 94 → gA (sF (cpA σ'' 95 94 0 0 n) 0 8 (nI n)) p = gA σ'' p := fun p hp => by
                show (if p = 94 then va_cpy (σ''.2.2 95) (σ''.2.2 94) 0 0 n else σ''.2.2 p) = σ''.2.2 p
                rw [if_neg hp]
              have cF : ∀ i j, ¬ (i = 0 ∧ j = 8) → gF (sF (cpA σ'' 95 94 0 0 n) 0 8 (nI n)) i j = gF σ i j := fun i j hij => by
                rw [gF_sF, if_neg hij]
                show gF σ'' i j = gF σ i j
                rw [s2]
              refine ⟨?_, rfl, Rel.pln hω (fun i h0 h1 h2 => ⟨fun j => cF i j (fun q => h0 q.1), fun j => ?_, (cA i h1).trans (s1 i h2)⟩) (fun j hj => cF 0 j (fun q => hj q.2)) (fun p hp => k1 p (by omega)) (fun k hk => ?_) k3 ?_ ?_ ⟨rfl, fun k hk => ?_⟩⟩
              · show gF π 0 0 = 0
                rw [k2]; exact w0
              · show gL σ'' i j = gL σ i j
                rw [s3]
              · rw [gF_nj hk, k2]
              · have hb := hω.ib
                refine ⟨⟨?_, ?_, ?_, ?_⟩, ?_, ?_, ⟨?_, ?_⟩, fun q hq => ?_⟩
                · rw [cF 1 1 (by decide)]; exact hb.1.1
                · rw [cF 1 1 (by decide)]; exact hb.1.2.1
                · rw [cF 1 2 (by decide)]; exact hb.1.2.2.1
                · rw [cF 1 2 (by decide)]; exact hb.1.2.2.2
                · rw [cF 0 6 (by decide)]; exact hb.2.1
                · rw [cF 0 7 (by decide)]; exact hb.2.2.1
                · show 0 ≤ (nI n).toInt; omega
                · show (nI n).toInt ≤ 10; omega
                · have ep : pPi q = 41 + 4 * q := rfl
                  rw [cF _ 3 (fun w => by omega), cF _ 4 (fun w => by omega)]
                  exact hb.2.2.2.2 q hq
              · have hm := hω.im
                unfold IM at hm ⊢
                simp only [gF_sF, gA_sF, k2]
                rw [k1 2 (by decide), k1 8 (by decide), k1 10 (by decide), k1 6 (by decide), k1 22 (by decide)]
                exact ⟨hm.1, hm.2.1, hm.2.2.1, ⟨by show 0 ≤ (nI n).toInt; omega, by show (nI n).toInt ≤ 10; omega⟩, hm.2.2.2.2⟩
              · show (if (94 : Nat) = 94 then va_cpy (gA σ'' 95) (gA σ'' 94) 0 0 n else gA σ'' 94) k = gA π 20 k
                rw [if_pos rfl]
                by_cases q : k < n
                · rw [pk_cpy_in (Nat.zero_le _) (by omega), show 0 + (k - 0) = k by omega]
                  exact s6 k (Nat.zero_le _) q
                · rw [pk_cpy_out (by omega), k4 k (by omega), s1 94 (by decide)]
                  exact hω.pl.2 k hk
          · have hB3 := fail (Classical.byContradiction (fun w => hcl (fun k hk => by
              have q := hemb2.mp w (ch τ k) (hCH.1 k hk).2.1 (hCH.1 k hk).2.2
              intro z hz hb
              have v := bt_z.mp q.2.2 z (by omega)
              rw [bt_and, hb, Bool.true_and] at v
              exact v)))
            have hr : r = 0 := Classical.byContradiction (fun w => hcl (fun k hk => (e_later hE (2 ^ n - 0) 0 hp0 (Nat.le_refl _) (fun v => w (d2'.trans v)) k hk (zb k)).2))
            have hM4 : M_m_plan μ (nI o) p2 = ((-1), ω) := by rw [hM3, if_pos hr]
            rw [hB3, hM4]
            exact ⟨w0, rfl, hω⟩
      · have c10' : ¬ nI n ≤ 10 := fun w => c10 ((nI_le_iff (b := 10) (by omega) (by decide)).mp w)
        have hM3 : M_m_plan μ (nI o) p2 = ((-2), τ) := by rw [hM1, FIN, if_neg c10']
        rw [if_neg c10'] at hB0
        rw [hB0, hM3]
        exact ⟨z0, rfl, t3⟩
    · have hB : M_plan σ (nI o) p2 = .error "java/lang/IndexOutOfBoundsException" := by
        rw [M_plan, b, xb_ok, h6, if_neg (fun w => hp ((mk_c (x := p2) hN).mp w))]
      have hM : M_m_plan μ (nI o) p2 = (0, sF μ 0 0 1) := by
        rw [er, eN, if_pos]
        rw [if_neg (by rw [a]; decide)]
        by_cases q1 : p2 < 0
        · rw [if_pos q1]
        · rw [if_neg q1]
          by_cases q2 : ((1 : Int32) <<< (nI N &&& 31)) ≤ p2
          · rw [if_pos q2]
          · exact absurd ((mk_m hN).mp ⟨q1, q2⟩) hp
      rw [hB, hM]
      exact ⟨rfl, hR.k0⟩

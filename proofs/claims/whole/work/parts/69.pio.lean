/-! which may come next, on both sides -/
theorem FR.a97 {σ : St} {m : Nat} {cs : List Cl} (h : FR σ m cs) {z : Nat} (hz : z < 12) : anyC cs 97 (nI z) = bt (gF σ (pMe m) 4) z := (h.2.2.1 z hz).symm
theorem FR.a120 {σ : St} {m : Nat} {cs : List Cl} (h : FR σ m cs) {z : Nat} (hz : z < 12) : anyC cs 120 (nI z) = bt (gF σ (pMe m) 3) z := (h.2.1 z hz).symm
theorem mc_b (a b c d : Bool) : (if (if a = true then (1 : Int32) else 0) = 0 then (if (if b = true then (1 : Int32) else 0) = 0 then (1 : Int32) else (if (if (if c = true then (1 : Int32) else 0) = 1 then (1 : Int32) else (if d = true then 1 else 0)) = 0 then 1 else 0)) else (if (if (if c = true then (1 : Int32) else 0) = 1 then (1 : Int32) else (if d = true then 1 else 0)) = 0 then 0 else (if (if b = true then (1 : Int32) else 0) = 0 then 1 else (if (if (if c = true then (1 : Int32) else 0) = 1 then (1 : Int32) else (if d = true then 1 else 0)) = 0 then 1 else 0)))) = if ((!a || (c || d)) && (!b || (!c && !d))) = true then 1 else 0 := by
  cases a <;> cases b <;> cases c <;> cases d <;> rfl
theorem mc_i (a b c d : Bool) : ((!a || (c || d)) && (!b || (!c && !d))) = true ↔ (a = true → c = true ∨ d = true) ∧ (b = true → c = false ∧ d = false) := by
  cases a <;> cases b <;> cases c <;> cases d <;> simp
theorem mc6 {σ τ : St} (hR : Rel σ τ) {o m N : Nat} (ho : o < 10) (hN : N ≤ 12) (h3 : gF τ 0 3 = nI N) (hm : m < N) {p3 : Int32} : ∀ (n i : Nat) (x : Int32), i + n = 12 → (¬ M_m_mayCome_h6 (n + 1) i x p3 τ o m = 0 ↔ ¬ x = 0 ∧ ∀ z, i ≤ z → z < 12 → (bt (gF σ (pMe m) 4) z = true → bt p3 z = true ∨ bt (gF σ (pPi o) 6) z = true) ∧ (bt (gF σ (pMe m) 3) z = true → bt p3 z = false ∧ bt (gF σ (pPi o) 6) z = false)) := by
  have hF : FR σ m (CL τ m (nm τ m)) := (hR.me (by omega)).2 (by rw [h3, nI_toInt (by omega)]; omega)
  intro n
  induction n with
  | zero =>
    intro i x hi
    rw [M_m_mayCome_h6, if_pos (show (12 : Int32) ≤ nI i from (nI_le_iff (a := 12) (by decide) (by omega)).mpr (by omega))]
    exact ⟨fun h => ⟨h, fun z h1 h2 => by omega⟩, fun h => h.1⟩
  | succ n ih =>
    intro i x hi
    have hl : (if M_m_latest τ (nI o) (nI i) = -1 then (0 : Int32) else 1) = if bt (gF σ (pPi o) 6) i = true then 1 else 0 := by
      rw [m_lat hR.im ho, ← lat_m1 hR ho (by omega)]
      by_cases q : lat τ o (nr τ o) (nI i) = -1
      · simp [q]
      · simp [q]
    rw [M_m_mayCome_h6, if_neg (show ¬ (12 : Int32) ≤ nI i from nI_lt' (b := 12) (by omega) (by decide)), vb_eq, vb_eq, shr_bt p3 (by omega), hl, m_has_C hR.im (by omega) (nI_m1 (by omega)), m_has_C hR.im (by omega) (nI_m1 (by omega)), hF.a97 (by omega), hF.a120 (by omega), mc_b, ih (i + 1) _ (by omega)]
    by_cases hx : x = 0
    · rw [if_pos hx]; exact ⟨fun h => absurd rfl h.1, fun h => absurd hx h.1⟩
    · rw [if_neg hx]
      constructor
      · rintro ⟨h1, h2⟩
        refine ⟨hx, fun z q1 q2 => ?_⟩
        by_cases e : z = i
        · subst e
          rw [← mc_i]
          apply Classical.byContradiction
          intro q
          rw [if_neg q] at h1
          exact h1 rfl
        · exact h2 z (by omega) q2
      · rintro ⟨h1, h2⟩
        refine ⟨?_, fun z q1 q2 => h2 z (by omega) q2⟩
        rw [if_pos ((mc_i _ _ _ _).mpr (h2 i (Nat.le_refl _) (by omega)))]
        decide
theorem mo5 {τ : St} {n S : Nat} {c : Nat → Nat} (hn : n ≤ 10) (hc : ∀ k, k < n → gA τ 21 k = nI (c k) ∧ c k < 12) : ∀ (f i : Nat) (x : Int32), i + f = 10 → ∀ z, z < 12 → (bt (M_m_methodsOf_h5 (f + 1) i x (nI n) (nI S) τ) z = true ↔ bt x z = true ∨ ∃ j, i ≤ j ∧ j < n ∧ S.testBit j = true ∧ c j = z) := by
  intro f
  induction f with
  | zero =>
    intro i x hi z hz
    rw [M_m_methodsOf_h5, if_pos ((nI_le_iff (by omega) (by omega)).mpr (show n ≤ i by omega))]
    exact ⟨Or.inl, fun h => h.elim id (fun ⟨j, a, b, _⟩ => by omega)⟩
  | succ f ih =>
    intro i x hi z hz
    by_cases q : n ≤ i
    · rw [M_m_methodsOf_h5, if_pos ((nI_le_iff (by omega) (by omega)).mpr q)]
      exact ⟨Or.inl, fun h => h.elim id (fun ⟨j, a, b, _⟩ => by omega)⟩
    · obtain ⟨c1, c2⟩ := hc i (by omega)
      rw [M_m_methodsOf_h5, if_neg (fun w => q ((nI_le_iff (by omega) (by omega)).mp w)), vb_eq, shr_bt _ (by omega), bt_nI S (by omega), c1, ih (i + 1) _ (by omega) z hz]
      cases hb : S.testBit i
      · rw [if_neg (show ¬ (if false = true then (1 : Int32) else 0) = 1 by decide)]
        constructor
        · rintro (h | ⟨j, a, b, d⟩)
          · exact Or.inl h
          · exact Or.inr ⟨j, by omega, b, d⟩
        · rintro (h | ⟨j, a, b, d, e⟩)
          · exact Or.inl h
          · refine Or.inr ⟨j, ?_, b, d, e⟩
            by_cases w : j = i
            · subst w; rw [hb] at d; cases d
            · omega
      · rw [if_pos (show (if true = true then (1 : Int32) else 0) = 1 by decide), bt_or, bt_shl _ (by omega) _ (by omega), Bool.or_eq_true]
        constructor
        · rintro ((h | h) | ⟨j, a, b, d⟩)
          · exact Or.inl h
          · exact Or.inr ⟨i, Nat.le_refl _, by omega, hb, (of_decide_eq_true h).symm⟩
          · exact Or.inr ⟨j, by omega, b, d⟩
        · rintro (h | ⟨j, a, b, d, e⟩)
          · exact Or.inl (Or.inl h)
          · by_cases w : j = i
            · subst w; exact Or.inl (Or.inr (decide_eq_true e.symm))
            · exact Or.inr ⟨j, by omega, b, d, e⟩
/-- what is chosen: c k for k below n -/
structure PC (σ : St) (o N n : Nat) (X : Int32) (c : Nat → Nat) : Prop where
  n10 : n ≤ 10
  N12 : N ≤ 12
  o10 : o < 10
  c1 : ∀ k, k < n → c k < N ∧ stp σ o X (c k) = true
  c2 : ∀ m, m < 12 → stp σ o X m = true → ∃ k, k < n ∧ c k = m
  c3 : ∀ k k', k < k' → k' < n → c k < c k'
  x1 : ∀ m, m < N → bt X m = true → ∀ z, z < 12 → bt (gF σ (pMe m) 4) z = true → bt X z = true
  x2 : ∀ m, m < N → ∀ z, 12 ≤ z → bt (gF σ (pMe m) 4) z = false
theorem PC.inj {σ : St} {o N n : Nat} {X : Int32} {c : Nat → Nat} (h : PC σ o N n X c) {j k : Nat} (hj : j < n) (hk : k < n) (e : c j = c k) : j = k := by
  rcases Nat.lt_trichotomy j k with q | q | q
  · have := h.c3 j k q hk; omega
  · exact q
  · have := h.c3 k j q hj; omega
def aa (σ : St) (c : Nat → Nat) (k j : Nat) : Prop := bt (gF σ (pMe (c k)) 4) (c j) = true
def bb (σ : St) (c : Nat → Nat) (k j : Nat) : Prop := bt (gF σ (pMe (c k)) 3) (c j) = true
def ccl (σ : St) (o : Nat) (c : Nat → Nat) (k : Nat) : Prop := ∀ z, z < 12 → bt (gF σ (pMe (c k)) 3) z = true → bt (gF σ (pPi o) 6) z = false
theorem stp_t {σ : St} {o z : Nat} {X : Int32} : stp σ o X z = true ↔ bt X z = true ∧ bt (gF σ (pPi o) 6) z = false := by
  unfold stp
  rw [Bool.and_eq_true]
  simp
theorem nx_nxt {σ τ : St} {o N n : Nat} {X : Int32} {c : Nat → Nat} (h : PC σ o N n X c) (hR : Rel σ τ) (h3 : gF τ 0 3 = nI N) (hc : ∀ k, k < n → gA τ 21 k = nI (c k)) {S k : Nat} (hS : S < 2 ^ n) (hk : k < n) : nxt τ o n S k ↔ Nx n (aa σ c) (bb σ c) (ccl σ o c) (fun S => gA τ 22 S ≠ 0) S k := by
  have hn := h.n10
  have hN := h.N12
  have hpw : 2 ^ n ≤ 1024 := pw_le (by omega)
  have hck := h.c1 k hk
  have b1 : ((nI S) >>> ((nI k) &&& 31)) &&& 1 = 0 ↔ S.testBit k = false := by
    rw [shr_bt _ (by omega), bt_nI S (by omega)]
    cases S.testBit k <;> decide
  have cm : ∀ z, z < 12 → (bt (M_m_methodsOf τ (nI S) (nI n)) z = true ↔ ∃ j, j < n ∧ S.testBit j = true ∧ c j = z) := fun z hz => by
    have := mo5 (τ := τ) (S := S) (c := c) hn (fun k hk => ⟨hc k hk, by have := (h.c1 k hk).1; omega⟩) 10 0 0 rfl z hz
    rw [show M_m_methodsOf τ (nI S) (nI n) = M_m_methodsOf_h5 (10 + 1) 0 0 (nI n) (nI S) τ from rfl, this, bt_0]
    constructor
    · rintro (q | ⟨j, -, q⟩)
      · cases q
      · exact ⟨j, q⟩
    · rintro ⟨j, q⟩; exact Or.inr ⟨j, Nat.zero_le _, q⟩
  have hmc := mc6 hR h.o10 hN h3 hck.1 (p3 := M_m_methodsOf τ (nI S) (nI n)) 12 0 1 rfl
  have e1 : M_m_mayCome τ (nI o) (gA τ 21 k) (M_m_methodsOf τ (nI S) (nI n)) = M_m_mayCome_h6 (12 + 1) 0 1 (M_m_methodsOf τ (nI S) (nI n)) τ o (c k) := by
    have ho := h.o10
    rw [hc k hk, M_m_mayCome, nI_clamp (by omega), nI_clamp (by omega)]
    rfl
  have b3 : M_m_mayCome τ (nI o) (gA τ 21 k) (M_m_methodsOf τ (nI S) (nI n)) ≠ 0 ↔ May n (aa σ c) (bb σ c) (ccl σ o c) S k := by
    rw [e1]
    show ¬ _ = 0 ↔ _
    rw [hmc]
    constructor
    · rintro ⟨-, f⟩
      refine ⟨fun j hj ha => ?_, fun j hj hb => ?_, fun z hz hb => ((f z (Nat.zero_le _) hz).2 hb).2⟩
      · have hj12 : c j < 12 := by have := (h.c1 j hj).1; omega
        rcases (f (c j) (Nat.zero_le _) hj12).1 ha with q | q
        · obtain ⟨i, hi, hb, e⟩ := (cm _ hj12).mp q
          rw [h.inj hi hj e] at hb; exact hb
        · rw [(stp_t.mp (h.c1 j hj).2).2] at q; cases q
      · have hj12 : c j < 12 := by have := (h.c1 j hj).1; omega
        have q := ((f (c j) (Nat.zero_le _) hj12).2 hb).1
        exact not_t (fun w => by rw [(cm _ hj12).mpr ⟨j, hj, w, rfl⟩] at q; cases q)
    · rintro ⟨f1, f2, f3⟩
      refine ⟨by decide, fun z _ hz => ⟨fun ha => ?_, fun hb => ⟨not_t (fun w => ?_), f3 z hz hb⟩⟩⟩
      · cases hd : bt (gF σ (pPi o) 6) z
        · left
          have hx := h.x1 (c k) hck.1 (stp_t.mp hck.2).1 z hz ha
          obtain ⟨j, hj, e⟩ := h.c2 z hz (stp_t.mpr ⟨hx, hd⟩)
          exact (cm z hz).mpr ⟨j, hj, f1 j hj (by unfold aa; rw [e]; exact ha), e⟩
        · exact Or.inr rfl
      · obtain ⟨j, hj, hb2, e⟩ := (cm z hz).mp w
        have := f2 j hj (by unfold bb; rw [e]; exact hb)
        rw [hb2] at this; cases this
  unfold nxt Nx
  rw [b1, b3]
  exact ⟨fun ⟨q1, q2, q3⟩ => ⟨hk, q1, q2, q3⟩, fun ⟨_, q1, q2, q3⟩ => ⟨q1, q2, q3⟩⟩
/-! the component's choice -/
theorem htw {σ : St} {N m : Nat} {L : Int32} (hN : N ≤ 12) (h6 : gF σ 0 6 = nI N) (hm : m < 12) : ∀ (n i : Nat), i + n = 12 → (M_hasToWait_h2 (n + 1) i σ (nI m) L = 0 ↔ ∀ z, i ≤ z → z < N → z ≠ m → bt L z = true → bt (gF σ (pMe z) 3) m = false) := by
  intro n
  induction n with
  | zero =>
    intro i hi
    rw [M_hasToWait_h2, h6, if_pos ((nI_le_iff (by omega) (by omega)).mpr (show N ≤ i by omega))]
    exact ⟨fun _ z h1 h2 => by omega, fun _ => rfl⟩
  | succ n ih =>
    intro i hi
    rw [M_hasToWait_h2, h6]
    by_cases q : N ≤ i
    · rw [if_pos ((nI_le_iff (by omega) (by omega)).mpr q)]
      exact ⟨fun _ z h1 h2 => by omega, fun _ => rfl⟩
    · rw [if_neg (fun w => q ((nI_le_iff (by omega) (by omega)).mp w))]
      have skip : (i ≠ m → bt L i = true → bt (gF σ (pMe i) 3) m = false) → (M_hasToWait_h2 (n + 1) (i + 1) σ (nI m) L = 0 ↔ ∀ z, i ≤ z → z < N → z ≠ m → bt L z = true → bt (gF σ (pMe z) 3) m = false) := fun hs => by
        rw [ih (i + 1) (by omega)]
        constructor
        · intro f z h1 h2 h3 h4
          by_cases e : z = i
          · subst e; exact hs h3 h4
          · exact f z (by omega) h2 h3 h4
        · intro f z h1; exact f z (by omega)
      by_cases e : i = m
      · rw [if_pos (by rw [e])]; exact skip (fun w => absurd e w)
      · rw [if_neg (fun w => e ((nI_eq (by omega) (by omega)).mp w)), has_bt L (by omega)]
        cases hb : bt L i
        · rw [if_pos (by rfl)]; exact skip (fun _ w => by rw [hb] at w; cases w)
        · rw [if_neg (by decide), has_bt _ (by omega)]
          cases hd : bt (gF σ (pMe i) 3) m
          · rw [if_pos (by rfl)]; exact skip (fun _ _ => hd)
          · rw [if_neg (by decide)]
            constructor
            · intro w; exact absurd w (by decide)
            · intro f; have := f i (Nat.le_refl _) (by omega) e hb; rw [hd] at this; cases this
def GG (F : Nat → Nat → Int32) (N : Nat) (L : Int32) (m : Nat) : Prop := bt L m = true ∧ F (pMe m) 4 &&& L = 0 ∧ ∀ z, z < N → z ≠ m → bt L z = true → bt (F (pMe z) 3) m = false
theorem low2 {σ : St} {N : Nat} {L : Int32} (hN : N ≤ 12) (h6 : gF σ 0 6 = nI N) : ∀ (n i : Nat), i + n = 12 → (M_lowestThatMayComeNext_h2 (n + 1) i σ L = -1 ∧ ∀ m, i ≤ m → m < N → ¬ GG (gF σ) N L m) ∨ ∃ m, i ≤ m ∧ m < N ∧ M_lowestThatMayComeNext_h2 (n + 1) i σ L = nI m ∧ GG (gF σ) N L m ∧ ∀ m', i ≤ m' → m' < m → ¬ GG (gF σ) N L m' := by
  intro n
  induction n with
  | zero =>
    intro i hi
    rw [M_lowestThatMayComeNext_h2, h6, if_pos ((nI_le_iff (by omega) (by omega)).mpr (show N ≤ i by omega))]
    exact Or.inl ⟨rfl, fun m h1 h2 => by omega⟩
  | succ n ih =>
    intro i hi
    rw [M_lowestThatMayComeNext_h2, h6]
    by_cases q : N ≤ i
    · rw [if_pos ((nI_le_iff (by omega) (by omega)).mpr q)]
      exact Or.inl ⟨rfl, fun m h1 h2 => by omega⟩
    · rw [if_neg (fun w => q ((nI_le_iff (by omega) (by omega)).mp w))]
      have skip : ¬ GG (gF σ) N L i → (M_lowestThatMayComeNext_h2 (n + 1) (i + 1) σ L = -1 ∧ ∀ m, i ≤ m → m < N → ¬ GG (gF σ) N L m) ∨ ∃ m, i ≤ m ∧ m < N ∧ M_lowestThatMayComeNext_h2 (n + 1) (i + 1) σ L = nI m ∧ GG (gF σ) N L m ∧ ∀ m', i ≤ m' → m' < m → ¬ GG (gF σ) N L m' := fun hs => by
        rcases ih (i + 1) (by omega) with ⟨r1, r2⟩ | ⟨m, r1, r2, r3, r4, r5⟩
        · refine Or.inl ⟨r1, fun m h1 h2 => ?_⟩
          by_cases e : m = i
          · subst e; exact hs
          · exact r2 m (by omega) h2
        · refine Or.inr ⟨m, by omega, r2, r3, r4, fun m' h1 h2 => ?_⟩
          by_cases e : m' = i
          · subst e; exact hs
          · exact r5 m' (by omega) h2
      have hw := htw (σ := σ) (L := L) hN h6 (show i < 12 by omega) 12 0 rfl
      rw [has_bt L (by omega)]
      cases hb : bt L i
      · rw [if_pos (by rfl)]; exact skip (fun g => by rw [g.1] at hb; cases hb)
      · rw [if_neg (by decide)]
        by_cases ha : gF σ (pMe i) 4 &&& L = 0
        · rw [if_pos ha]
          by_cases hh : M_hasToWait σ (nI i) L = 0
          · rw [if_pos hh]
            exact Or.inr ⟨i, Nat.le_refl _, by omega, rfl, ⟨hb, ha, fun z => hw.mp hh z (Nat.zero_le _)⟩, fun m' h1 h2 => by omega⟩
          · rw [if_neg hh]; exact skip (fun g => hh (hw.mpr (fun z _ => g.2.2 z)))
        · rw [if_neg ha]; exact skip (fun g => ha g.2.1)
def LB (n : Nat) (c : Nat → Nat) (L : Int32) (S : Nat) : Prop := ∀ z, bt L z = true ↔ ∃ j, j < n ∧ S.testBit j = false ∧ c j = z
theorem gg_el {σ : St} {o N n : Nat} {X : Int32} {c : Nat → Nat} (h : PC σ o N n X c) {L : Int32} {S k : Nat} (hL : LB n c L S) (hk : k < n) : GG (gF σ) N L (c k) ↔ El n (aa σ c) (bb σ c) S k := by
  have hN := h.N12
  constructor
  · rintro ⟨g1, g2, g3⟩
    obtain ⟨j, hj, hb, e⟩ := (hL _).mp g1
    rw [h.inj hj hk e] at hb
    refine ⟨hk, hb, fun i hi ha => ?_, fun i hi hik hib hbb => ?_⟩
    · have q := (bt_z.mp g2) (c i) (by have := (h.c1 i hi).1; omega)
      rw [bt_and, show bt (gF σ (pMe (c k)) 4) (c i) = true from ha, Bool.true_and] at q
      cases hs : S.testBit i
      · rw [(hL (c i)).mpr ⟨i, hi, hs, rfl⟩] at q; cases q
      · rfl
    · have q := g3 (c i) (h.c1 i hi).1 (fun e => hik (h.inj hi hk e)) ((hL _).mpr ⟨i, hi, hib, rfl⟩)
      rw [show bt (gF σ (pMe (c i)) 3) (c k) = true from hbb] at q; cases q
  · rintro ⟨-, e2, e3, e4⟩
    refine ⟨(hL _).mpr ⟨k, hk, e2, rfl⟩, bt_z.mpr (fun z _ => ?_), fun z hz hzk hzL => ?_⟩
    · rw [bt_and]
      cases hz : bt L z
      · rw [Bool.and_false]
      · obtain ⟨j, hj, hb, e⟩ := (hL _).mp hz
        rw [Bool.and_true]
        exact not_t (fun w => by
          have := e3 j hj (by unfold aa; rw [e]; exact w)
          rw [hb] at this; cases this)
    · obtain ⟨j, hj, hb, e⟩ := (hL _).mp hzL
      subst e
      exact not_t (fun w => e4 j hj (fun q => hzk (by rw [q])) hb w)
theorem pick {σ σ' : St} {o N n : Nat} {X : Int32} {c : Nat → Nat} (h : PC σ o N n X c) (h6 : gF σ 0 6 = nI N) (hg : gF σ' = gF σ) {L : Int32} {S : Nat} (hL : LB n c L S) : (M_lowestThatMayComeNext σ' L = -1 ∧ ∀ k, ¬ El n (aa σ c) (bb σ c) S k) ∨ ∃ k, k < n ∧ M_lowestThatMayComeNext σ' L = nI (c k) ∧ El n (aa σ c) (bb σ c) S k ∧ ∀ j, j < k → ¬ El n (aa σ c) (bb σ c) S j := by
  have hl := low2 (σ := σ') (L := L) h.N12 (by rw [hg]; exact h6) 12 0 rfl
  rw [hg] at hl
  rcases hl with ⟨r1, r2⟩ | ⟨m, r1, r2, r3, r4, r5⟩
  · refine Or.inl ⟨r1, fun k hk => ?_⟩
    exact r2 (c k) (Nat.zero_le _) (h.c1 k hk.1).1 ((gg_el h hL hk.1).mpr hk)
  · obtain ⟨k, hk, hb, e⟩ := (hL _).mp r4.1
    subst e
    refine Or.inr ⟨k, hk, r3, (gg_el h hL hk).mp r4, fun j hj hE => ?_⟩
    exact r5 (c j) (Nat.zero_le _) (h.c3 j k hj hk) ((gg_el h hL hE.1).mpr hE)
theorem LB.next {n : Nat} {c : Nat → Nat} {L : Int32} {S k : Nat} (h : LB n c L S) (hk : k < n) (h12 : ∀ k, k < n → c k < 12) (inj : ∀ j k, j < n → k < n → c j = c k → j = k) : LB n c (M_with L (nI (c k)) 0) (S ||| 2 ^ k) := by
  intro z
  rcases Nat.lt_or_ge z 32 with q | q
  · rw [bt_w0 L (by have := h12 k hk; omega) q, Bool.and_eq_true, h z]
    constructor
    · rintro ⟨⟨j, hj, hb, e⟩, w⟩
      refine ⟨j, hj, or_i hb (fun e2 => ?_), e⟩
      subst e2; subst e; simp at w
    · rintro ⟨j, hj, hb, e⟩
      obtain ⟨f1, f2⟩ := or_f hb
      refine ⟨⟨j, hj, f1, e⟩, ?_⟩
      have : ¬ z = c k := fun e2 => f2 (inj k j hk hj (by rw [e, e2]))
      simp [this]
  · rw [bt_big q]
    constructor
    · intro w; cases w
    · rintro ⟨j, hj, hb, e⟩; have := h12 j hj; omega

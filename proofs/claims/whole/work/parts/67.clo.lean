/-! all that has to be done before -/
def crd (P : Nat → Bool) : Nat → Nat
  | 0 => 0
  | n + 1 => crd P n + (if P n then 1 else 0)
theorem crd_le {P : Nat → Bool} : ∀ n, crd P n ≤ n := by
  intro n
  induction n with
  | zero => exact Nat.le_refl _
  | succ n ih => rw [crd]; split <;> omega
theorem crd_mono {P Q : Nat → Bool} : ∀ n, (∀ z, z < n → P z = true → Q z = true) → crd P n ≤ crd Q n := by
  intro n
  induction n with
  | zero => intro _; exact Nat.le_refl _
  | succ n ih =>
    intro h
    have h1 := ih (fun z hz => h z (by omega))
    rw [crd, crd]
    by_cases q : P n = true
    · rw [if_pos q, if_pos (h n (by omega) q)]; omega
    · rw [if_neg q]; omega
theorem crd_lt {P Q : Nat → Bool} {z : Nat} (hP : P z = false) (hQ : Q z = true) : ∀ n, z < n → (∀ z, z < n → P z = true → Q z = true) → crd P n < crd Q n := by
  intro n
  induction n with
  | zero => intro h; omega
  | succ n ih =>
    intro hz h
    rw [crd, crd]
    by_cases e : z = n
    · subst e
      have h1 := crd_mono z (fun y hy => h y (by omega))
      rw [if_neg (by rw [hP]; decide), if_pos hQ]; omega
    · have h1 := ih (by omega) (fun z hz => h z (by omega))
      by_cases q : P n = true
      · rw [if_pos q, if_pos (h n (by omega) q)]; omega
      · rw [if_neg q]; omega
theorem crd_0 {P : Nat → Bool} : ∀ n, crd P n = 0 → ∀ z, z < n → P z = false := by
  intro n
  induction n with
  | zero => intro _ z hz; omega
  | succ n ih =>
    intro h z hz
    rw [crd] at h
    by_cases q : P n = true
    · rw [if_pos q] at h; omega
    · rw [if_neg q] at h
      by_cases e : z = n
      · subst e; exact Bool.eq_false_iff.mpr q
      · exact ih (by omega) z (by omega)
def it (f : Int32 → Int32) : Nat → Int32 → Int32
  | 0, x => x
  | n + 1, x => it f n (f x)
theorem it_id {f : Int32 → Int32} {x : Int32} (h : f x = x) : ∀ n, it f n x = x := by
  intro n
  induction n with
  | zero => rfl
  | succ n ih => rw [it, h, ih]
def b12 (x : Int32) : Prop := ∀ z, 12 ≤ z → bt x z = false
theorem it_fix {f : Int32 → Int32} (h1 : ∀ x z, bt x z = true → bt (f x) z = true) (h2 : ∀ x, b12 x → b12 (f x)) : ∀ (n : Nat) (x : Int32), b12 x → f (it f n x) = it f n x ∨ crd (bt x) 12 + n ≤ crd (bt (it f n x)) 12 := by
  intro n
  induction n with
  | zero => intro x _; exact Or.inr (Nat.le_refl _)
  | succ n ih =>
    intro x hx
    rw [it]
    by_cases e : f x = x
    · left
      rw [e, it_id e, e]
    · have hlt : crd (bt x) 12 < crd (bt (f x)) 12 := by
        have : ∃ z, z < 32 ∧ ¬ bt x z = bt (f x) z := by
          apply Classical.byContradiction
          intro hn
          apply e
          exact (bt_ext (fun k hk => Classical.byContradiction (fun hc => hn ⟨k, hk, hc⟩))).symm
        obtain ⟨z, hz, hne⟩ := this
        have hz12 : z < 12 := by
          rcases Nat.lt_or_ge z 12 with q | q
          · exact q
          · rw [hx z q, h2 x hx z q] at hne; exact absurd rfl hne
        have hP : bt x z = false := by
          cases h : bt x z
          · rfl
          · rw [h, h1 x z h] at hne; exact absurd rfl hne
        have hQ : bt (f x) z = true := by
          cases h : bt (f x) z
          · rw [h, hP] at hne; exact absurd rfl hne
          · rfl
        exact crd_lt hP hQ 12 hz12 (fun y _ hy => h1 x y hy)
      rcases ih (f x) (h2 x hx) with h | h
      · exact Or.inl h
      · right; omega
theorem it_12 {f : Int32 → Int32} (h1 : ∀ x z, bt x z = true → bt (f x) z = true) (h2 : ∀ x, b12 x → b12 (f x)) (h0 : f 0 = 0) {x : Int32} (hx : b12 x) : f (it f 12 x) = it f 12 x := by
  rcases it_fix h1 h2 12 x hx with h | h
  · exact h
  · have h3 := crd_le (P := bt (it f 12 x)) 12
    have h4 := crd_0 (P := bt x) 12 (by omega)
    have h5 : x = 0 := bt_z.mpr (fun k _ => by
      rcases Nat.lt_or_ge k 12 with q | q
      · exact h4 k q
      · exact hx k q)
    rw [h5, it_id h0, h0]
theorem it_sub {f : Int32 → Int32} (h1 : ∀ x z, bt x z = true → bt (f x) z = true) : ∀ (n : Nat) (x : Int32) (z : Nat), bt x z = true → bt (it f n x) z = true := by
  intro n
  induction n with
  | zero => intro x z h; exact h
  | succ n ih => intro x z h; rw [it]; exact ih _ z (h1 x z h)
theorem it_least {f : Int32 → Int32} {Q : Nat → Prop} (h : ∀ x, (∀ z, bt x z = true → Q z) → ∀ z, bt (f x) z = true → Q z) : ∀ (n : Nat) (x : Int32), (∀ z, bt x z = true → Q z) → ∀ z, bt (it f n x) z = true → Q z := by
  intro n
  induction n with
  | zero => intro x hx; exact hx
  | succ n ih => intro x hx; rw [it]; exact ih _ (h x hx)
/-- one round of the component's -/
theorem wa13 {σ : St} {N : Nat} (hN : N ≤ 12) (h6 : gF σ 0 6 = nI N) : ∀ (n i : Nat) (x : Int32), i + n = 12 → (∀ z, bt x z = true → bt (M_withAllAhead_h13 (n + 1) i x σ) z = true) ∧ (∀ m, i ≤ m → m < N → bt x m = true → ∀ z, bt (gF σ (pMe m) 4) z = true → bt (M_withAllAhead_h13 (n + 1) i x σ) z = true) ∧ ∀ Q : Nat → Prop, (∀ z, bt x z = true → Q z) → (∀ m, m < N → Q m → ∀ z, bt (gF σ (pMe m) 4) z = true → Q z) → ∀ z, bt (M_withAllAhead_h13 (n + 1) i x σ) z = true → Q z := by
  intro n
  induction n with
  | zero =>
    intro i x hi
    rw [M_withAllAhead_h13, h6, if_pos ((nI_le_iff (by omega) (by omega)).mpr (show N ≤ i by omega))]
    exact ⟨fun z h => h, fun m h1 h2 => by omega, fun Q h1 _ => h1⟩
  | succ n ih =>
    intro i x hi
    by_cases c : N ≤ i
    · rw [M_withAllAhead_h13, h6, if_pos ((nI_le_iff (by omega) (by omega)).mpr c)]
      exact ⟨fun z h => h, fun m h1 h2 => by omega, fun Q h1 _ => h1⟩
    · rw [M_withAllAhead_h13, h6, if_neg (fun q => c ((nI_le_iff (by omega) (by omega)).mp q)), has_bt x (by omega)]
      cases hb : bt x i
      · rw [if_pos (by rfl)]
        obtain ⟨r1, r2, r3⟩ := ih (i + 1) x (by omega)
        refine ⟨r1, fun m h1 h2 h3 => ?_, r3⟩
        by_cases e : m = i
        · subst e; rw [hb] at h3; cases h3
        · exact r2 m (by omega) h2 h3
      · rw [if_neg (by decide)]
        obtain ⟨r1, r2, r3⟩ := ih (i + 1) (x ||| gF σ (pMe i) 4) (by omega)
        refine ⟨fun z h => r1 z (by rw [bt_or, h]; rfl), fun m h1 h2 h3 z hz => ?_, fun Q q1 q2 => r3 Q (fun z hz => ?_) q2⟩
        · by_cases e : m = i
          · subst e; exact r1 z (by rw [bt_or, hz, Bool.or_true])
          · exact r2 m (by omega) h2 (by rw [bt_or, h3]; rfl) z hz
        · rw [bt_or, Bool.or_eq_true] at hz
          rcases hz with hz | hz
          · exact q1 z hz
          · exact q2 i (by omega) (q1 i hb) z hz
theorem wa4 {σ : St} : ∀ (n i : Nat) (x : Int32), i + n = 12 → M_withAllAhead_h4 (n + 1) i x σ = it (fun x => M_withAllAhead_h13 13 0 x σ) n x := by
  intro n
  induction n with
  | zero =>
    intro i x hi
    rw [M_withAllAhead_h4, if_pos (show (12 : Int32) ≤ nI i from (nI_le_iff (a := 12) (by decide) (by omega)).mpr (by omega)), it]
  | succ n ih =>
    intro i x hi
    rw [M_withAllAhead_h4, if_neg (show ¬ (12 : Int32) ≤ nI i from nI_lt' (b := 12) (by omega) (by decide)), vb_eq, ih (i + 1) _ (by omega), it]
/-- one round of the reference's -/
theorem cl13 {μ : St} {N : Nat} (hI : IM μ) (hN : N ≤ 12) (h3 : gF μ 0 3 = nI N) : ∀ (n i : Nat) (x : Int32), i + n = 144 → (∀ z, bt x z = true → bt (M_m_closed_h13 (n + 1) i x μ) z = true) ∧ (∀ t, i ≤ t → t < 144 → t / 12 < N → bt x (t / 12) = true → anyC (CL μ (t / 12) (nm μ (t / 12))) 97 (nI (t % 12)) = true → bt (M_m_closed_h13 (n + 1) i x μ) (t % 12) = true) ∧ ∀ Q : Nat → Prop, (∀ z, bt x z = true → Q z) → (∀ m, m < N → Q m → ∀ z, z < 12 → anyC (CL μ m (nm μ m)) 97 (nI z) = true → Q z) → ∀ z, bt (M_m_closed_h13 (n + 1) i x μ) z = true → Q z := by
  intro n
  induction n with
  | zero =>
    intro i x hi
    rw [M_m_closed_h13, if_pos (show (144 : Int32) ≤ nI i from (nI_le_iff (a := 144) (by decide) (by omega)).mpr (by omega))]
    exact ⟨fun z h => h, fun m h1 h2 => by omega, fun Q h1 _ => h1⟩
  | succ n ih =>
    intro i x hi
    have hm : i / 12 < 12 := by omega
    have hz : i % 12 < 12 := by omega
    rw [M_m_closed_h13, if_neg (show ¬ (144 : Int32) ≤ nI i from nI_lt' (b := 144) (by omega) (by decide)), vb_eq, vb_eq, shr_bt x (by omega), h3, m_has_C hI hm (nI_m1 (by omega))]
    by_cases c : bt x (i / 12) = true ∧ i / 12 < N ∧ anyC (CL μ (i / 12) (nm μ (i / 12))) 97 (nI (i % 12)) = true
    · obtain ⟨c1, c2, c3⟩ := c
      have e1 : (if (if bt x (i / 12) = true then (1 : Int32) else 0) = 1 then (if nI N ≤ nI (i / 12) then (0 : Int32) else (if (if anyC (CL μ (i / 12) (nm μ (i / 12))) 97 (nI (i % 12)) = true then (1 : Int32) else 0) = 0 then 0 else 1)) else 0) = 1 := by
        rw [if_pos c1, if_pos rfl, if_neg (show ¬ nI N ≤ nI (i / 12) from nI_lt' c2 (by omega)), if_pos c3, if_neg (show ¬ (1 : Int32) = 0 by decide)]
      rw [e1, if_neg (show ¬ (1 : Int32) = 0 by decide)]
      obtain ⟨r1, r2, r3⟩ := ih (i + 1) (x ||| ((1 : Int32) <<< ((nI (i % 12)) &&& 31))) (by omega)
      refine ⟨fun z h => r1 z (by rw [bt_or, h]; rfl), fun t h1 h2 h4 h5 h6 => ?_, fun Q q1 q2 => r3 Q (fun z hz' => ?_) q2⟩
      · by_cases e : t = i
        · subst e; exact r1 _ (by rw [bt_or, bt_shl _ (by omega) _ (by omega)]; simp)
        · exact r2 t (by omega) h2 h4 (by rw [bt_or, h5]; rfl) h6
      · rw [bt_or, Bool.or_eq_true] at hz'
        rcases hz' with hz' | hz'
        · exact q1 z hz'
        · have hz32 : z < 32 := by
            rcases Nat.lt_or_ge z 32 with q | q
            · exact q
            · rw [bt_big q] at hz'; cases hz'
          rw [bt_shl _ (by omega) _ hz32] at hz'
          have e : z = i % 12 := of_decide_eq_true hz'
          rw [e]
          exact q2 (i / 12) c2 (q1 _ c1) _ hz c3
    · have e0 : (if (if bt x (i / 12) = true then (1 : Int32) else 0) = 1 then (if nI N ≤ nI (i / 12) then (0 : Int32) else (if (if anyC (CL μ (i / 12) (nm μ (i / 12))) 97 (nI (i % 12)) = true then (1 : Int32) else 0) = 0 then 0 else 1)) else 0) = 0 := by
        by_cases c1 : bt x (i / 12) = true
        · rw [if_pos c1, if_pos rfl]
          by_cases c2 : nI N ≤ nI (i / 12)
          · rw [if_pos c2]
          · rw [if_neg c2]
            have c2' : i / 12 < N := by
              rcases Nat.lt_or_ge (i / 12) N with q | q
              · exact q
              · exact absurd ((nI_le_iff (by omega) (by omega)).mpr q) c2
            rw [if_neg (fun c3 => c ⟨c1, c2', c3⟩), if_pos rfl]
        · rw [if_neg c1, if_neg (show ¬ (0 : Int32) = 1 by decide)]
      rw [e0, if_pos rfl]
      obtain ⟨r1, r2, r3⟩ := ih (i + 1) x (by omega)
      refine ⟨r1, fun t h1 h2 h4 h5 h6 => ?_, r3⟩
      by_cases e : t = i
      · subst e; exact absurd ⟨h5, h4, h6⟩ c
      · exact r2 t (by omega) h2 h4 h5 h6
theorem cl4 {μ : St} : ∀ (n i : Nat) (x : Int32), i + n = 12 → M_m_closed_h4 (n + 1) i x μ = it (fun x => M_m_closed_h13 145 0 x μ) n x := by
  intro n
  induction n with
  | zero =>
    intro i x hi
    rw [M_m_closed_h4, if_pos (show (12 : Int32) ≤ nI i from (nI_le_iff (a := 12) (by decide) (by omega)).mpr (by omega)), it]
  | succ n ih =>
    intro i x hi
    rw [M_m_closed_h4, if_neg (show ¬ (12 : Int32) ≤ nI i from nI_lt' (b := 12) (by omega) (by decide)), vb_eq, ih (i + 1) _ (by omega), it]
theorem not_t {b : Bool} (h : b = true → False) : b = false := by
  cases b
  · rfl
  · exact absurd rfl h
theorem clo_eq {σ μ : St} (hR : Rel σ μ) {N : Nat} (hN : N ≤ 12) (h3 : gF μ 0 3 = nI N) {p : Int32} (hp : b12 p) : M_withAllAhead σ p = M_m_closed μ p ∧ b12 (M_m_closed μ p) ∧ (∀ z, bt p z = true → bt (M_m_closed μ p) z = true) ∧ ∀ m, m < N → bt (M_m_closed μ p) m = true → ∀ z, z < 12 → bt (gF σ (pMe m) 4) z = true → bt (M_m_closed μ p) z = true := by
  have h6 : gF σ 0 6 = nI N := hR.ct.1.trans h3
  have hF : ∀ m, m < N → FR σ m (CL μ m (nm μ m)) := fun m hm => (hR.me (by omega)).2 (by rw [h3, nI_toInt (by omega)]; omega)
  have hA : ∀ m, m < N → ∀ z, z < 12 → (bt (gF σ (pMe m) 4) z = true ↔ anyC (CL μ m (nm μ m)) 97 (nI z) = true) := fun m hm z hz => by rw [(hF m hm).2.2.1 z hz]
  have hA12 : ∀ m, m < N → ∀ z, bt (gF σ (pMe m) 4) z = true → z < 12 := fun m hm z hz => by
    rcases Nat.lt_or_ge z 12 with q | q
    · exact q
    · rw [(hF m hm).2.2.2.1 z q] at hz; cases hz
  have eB : M_withAllAhead σ p = it (fun x => M_withAllAhead_h13 13 0 x σ) 12 p := wa4 12 0 p rfl
  have eM : M_m_closed μ p = it (fun x => M_m_closed_h13 145 0 x μ) 12 p := cl4 12 0 p rfl
  have B := fun x => wa13 (σ := σ) hN h6 12 0 x rfl
  have M := fun x => cl13 (μ := μ) hR.im hN h3 144 0 x rfl
  have B12 : ∀ x, b12 x → b12 (M_withAllAhead_h13 13 0 x σ) := fun x hx z hz => not_t (fun h => by
    have := (B x).2.2 (fun z => z < 12) (fun z hz => by
      rcases Nat.lt_or_ge z 12 with q | q
      · exact q
      · rw [hx z q] at hz; cases hz) (fun m hm _ z hz => hA12 m hm z hz) z h
    omega)
  have M12 : ∀ x, b12 x → b12 (M_m_closed_h13 145 0 x μ) := fun x hx z hz => not_t (fun h => by
    have := (M x).2.2 (fun z => z < 12) (fun z hz => by
      rcases Nat.lt_or_ge z 12 with q | q
      · exact q
      · rw [hx z q] at hz; cases hz) (fun m hm _ z hz _ => hz) z h
    omega)
  have B0 : M_withAllAhead_h13 13 0 0 σ = 0 := bt_z.mpr (fun z _ => not_t (fun h => (B 0).2.2 (fun _ => False) (fun z hz => by rw [bt_0] at hz; cases hz) (fun _ _ q => q.elim) z h))
  have M0 : M_m_closed_h13 145 0 0 μ = 0 := bt_z.mpr (fun z _ => not_t (fun h => (M 0).2.2 (fun _ => False) (fun z hz => by rw [bt_0] at hz; cases hz) (fun _ _ q => q.elim) z h))
  have fB := it_12 (f := fun x => M_withAllAhead_h13 13 0 x σ) (fun x => (B x).1) B12 B0 hp
  have fM := it_12 (f := fun x => M_m_closed_h13 145 0 x μ) (fun x => (M x).1) M12 M0 hp
  rw [← eB] at fB
  rw [← eM] at fM
  have sB : ∀ z, bt p z = true → bt (M_withAllAhead σ p) z = true := by rw [eB]; exact it_sub (fun x => (B x).1) 12 p
  have sM : ∀ z, bt p z = true → bt (M_m_closed μ p) z = true := by rw [eM]; exact it_sub (fun x => (M x).1) 12 p
  have p12 : ∀ z, bt p z = true → z < 12 := fun z hz => by
    rcases Nat.lt_or_ge z 12 with q | q
    · exact q
    · rw [hp z q] at hz; cases hz
  have lB : ∀ z, bt (M_withAllAhead σ p) z = true → z < 12 := by
    rw [eB]
    exact it_least (fun x hx => (B x).2.2 (fun z => z < 12) hx (fun m hm _ z hz => hA12 m hm z hz)) 12 p p12
  have lM : ∀ z, bt (M_m_closed μ p) z = true → z < 12 := by
    rw [eM]
    exact it_least (fun x hx => (M x).2.2 (fun z => z < 12) hx (fun m hm _ z hz _ => hz)) 12 p p12
  have cB : ∀ m, m < N → bt (M_withAllAhead σ p) m = true → ∀ z, bt (gF σ (pMe m) 4) z = true → bt (M_withAllAhead σ p) z = true := fun m hm h z hz => by
    have := (B (M_withAllAhead σ p)).2.1 m (Nat.zero_le _) hm h z hz
    rw [show M_withAllAhead_h13 (12 + 1) 0 (M_withAllAhead σ p) σ = M_withAllAhead σ p from fB] at this
    exact this
  have cM : ∀ m, m < N → bt (M_m_closed μ p) m = true → ∀ z, z < 12 → anyC (CL μ m (nm μ m)) 97 (nI z) = true → bt (M_m_closed μ p) z = true := fun m hm h z hz hz2 => by
    have e1 : (12 * m + z) / 12 = m := by omega
    have e2 : (12 * m + z) % 12 = z := by omega
    have := (M (M_m_closed μ p)).2.1 (12 * m + z) (Nat.zero_le _) (by omega) (by omega) (by rw [e1]; exact h) (by rw [e1, e2]; exact hz2)
    rw [show M_m_closed_h13 (144 + 1) 0 (M_m_closed μ p) μ = M_m_closed μ p from fM, e2] at this
    exact this
  have BM : ∀ z, bt (M_withAllAhead σ p) z = true → bt (M_m_closed μ p) z = true := by
    rw [eB]
    exact it_least (fun x hx => (B x).2.2 (fun z => bt (M_m_closed μ p) z = true) hx (fun m hm h z hz => cM m hm h z (hA12 m hm z hz) ((hA m hm z (hA12 m hm z hz)).mp hz))) 12 p sM
  have MB : ∀ z, bt (M_m_closed μ p) z = true → bt (M_withAllAhead σ p) z = true := by
    rw [eM]
    exact it_least (fun x hx => (M x).2.2 (fun z => bt (M_withAllAhead σ p) z = true) hx (fun m hm h z hz hz2 => cB m hm h z ((hA m hm z hz).mpr hz2))) 12 p sB
  refine ⟨bt_ext (fun k hk => ?_), fun z hz => not_t (fun h => by have := lM z h; omega), sM, fun m hm h z hz hz2 => cM m hm h z hz ((hA m hm z hz).mp hz2)⟩
  cases h : bt (M_m_closed μ p) k
  · exact not_t (fun q => by rw [BM k q] at h; cases h)
  · exact MB k h

/-! bounds -/
theorem vin_lt {x : Int32} {n : Nat} (h : vp_in x n) : x.toNatClampNeg < n := by
  unfold vp_in at h; omega
theorem vin_of {x : Int32} {n : Nat} (h0 : 0 ≤ x.toInt) (h1 : x.toInt < n) : vp_in x n := vp_in_iff.mpr ⟨h0, h1⟩
theorem lp_lt {b : Int32} {i N : Nat} (hN : N < 2 ^ 31) (hb : b.toInt ≤ N) (hi : i ≤ N) (c : ¬ b ≤ nI i) : i < N := by
  rw [Int32.le_iff_toInt_le, nI_toInt (by omega)] at c
  omega
theorem nb01 {v : Int32} (h : v = 0 ∨ v = 1) : narrow .boolean (.int v) = .int v := by
  rcases h with rfl | rfl <;> rfl
/-! the component's invariants -/
def IP (σ : St) : Prop := 0 ≤ (gF σ 1 1).toInt ∧ (gF σ 1 1).toInt ≤ 50 ∧ 0 ≤ (gF σ 1 2).toInt ∧ (gF σ 1 2).toInt ≤ 50
def IB (σ : St) : Prop := IP σ ∧ (0 ≤ (gF σ 0 6).toInt ∧ (gF σ 0 6).toInt ≤ 12) ∧ (0 ≤ (gF σ 0 7).toInt ∧ (gF σ 0 7).toInt ≤ 10) ∧ (0 ≤ (gF σ 0 8).toInt ∧ (gF σ 0 8).toInt ≤ 10) ∧
  ∀ i, i < 10 → (0 ≤ (gF σ (pPi i) 3).toInt ∧ (gF σ (pPi i) 3).toInt ≤ 8) ∧ 0 ≤ (gF σ (pPi i) 4).toInt ∧ (gF σ (pPi i) 4).toInt ≤ 30
theorem IB.ip {σ : St} (h : IB σ) : IP σ := h.1
theorem IB.mc {σ : St} (h : IB σ) : (gF σ 0 6).toInt ≤ (12 : Nat) := h.2.1.2
theorem IB.pc {σ : St} (h : IB σ) : (gF σ 0 7).toInt ≤ (10 : Nat) := h.2.2.1.2
theorem IB.pl {σ : St} (h : IB σ) : (gF σ 0 8).toInt ≤ (10 : Nat) := h.2.2.2.1.2
theorem IB.ptc {σ : St} (h : IB σ) {i : Nat} (hi : i < 10) : (gF σ (pPi i) 3).toInt ≤ 8 := (h.2.2.2.2 i hi).1.2
theorem IB.rc {σ : St} (h : IB σ) {i : Nat} (hi : i < 10) : (gF σ (pPi i) 4).toInt ≤ 30 := (h.2.2.2.2 i hi).2.2
theorem IB.kA {σ : St} {p j : Nat} {v : Int32} (h : IB σ) : IB (sA σ p j v) := h
theorem lt_toInt {x y : Int32} (h : x < y) : x.toInt < y.toInt := Int32.lt_iff_toInt_lt.mp h
theorem nle_toInt {x y : Int32} (h : ¬ x ≤ y) : y.toInt < x.toInt := by
  rw [Int32.le_iff_toInt_le] at h; omega
theorem nlt_toInt {x y : Int32} (h : ¬ x < y) : y.toInt ≤ x.toInt := by
  rw [Int32.lt_iff_toInt_lt] at h; omega
theorem le_toInt {x y : Int32} (h : x ≤ y) : x.toInt ≤ y.toInt := Int32.le_iff_toInt_le.mp h
theorem IB.len_in {σ : St} (h : IB σ) (c : gF σ 1 1 < 50) : vp_in (gF σ 1 1) 50 := vin_of h.1.1 (by have := lt_toInt c; simpa using this)
theorem IB.mc_in {σ : St} (h : IB σ) (c : gF σ 0 6 < 12) : vp_in (gF σ 0 6) 12 := vin_of h.2.1.1 (by have := lt_toInt c; simpa using this)
theorem IB.part_in {σ : St} (h : IB σ) {i : Nat} (hi : i < 10) (c : gF σ (pPi i) 3 < 8) : vp_in (gF σ (pPi i) 3) 8 := vin_of (h.2.2.2.2 i hi).1.1 (by have := lt_toInt c; simpa using this)
theorem chk_ok {σ : St} {x b : Int32} (h : .ok () = M_checkPlace σ x b) : ¬ x < 0 ∧ x < b := by
  unfold M_checkPlace at h
  by_cases h1 : x < 0
  · rw [if_pos h1] at h; cases h
  · rw [if_neg h1] at h
    by_cases h2 : x < b
    · exact ⟨h1, h2⟩
    · rw [if_neg h2] at h; cases h
theorem vin_chk {σ : St} {x b : Int32} {N : Nat} (h : .ok () = M_checkPlace σ x b) (hb : b.toInt ≤ N) : vp_in x N := by
  obtain ⟨h1, h2⟩ := chk_ok h
  have h3 := nlt_toInt h1
  have h4 := lt_toInt h2
  exact vin_of (by simpa using h3) (by omega)
theorem mAt_ok {σ : St} {x : Int32} {i : Nat} (h : .ok i = M_methodAt σ x) : .ok () = M_checkPlace σ x (gF σ 0 6) ∧ i = x.toNatClampNeg := by
  unfold M_methodAt xb at h
  cases hc : M_checkPlace σ x (gF σ 0 6) with
  | error e => rw [hc] at h; cases h
  | ok u => rw [hc] at h; exact ⟨by cases u; rfl, by cases h; rfl⟩
theorem pAt_ok {σ : St} {x : Int32} {i : Nat} (h : .ok i = M_pieceAt σ x) : .ok () = M_checkPlace σ x (gF σ 0 7) ∧ i = x.toNatClampNeg := by
  unfold M_pieceAt xb at h
  cases hc : M_checkPlace σ x (gF σ 0 7) with
  | error e => rw [hc] at h; cases h
  | ok u => rw [hc] at h; exact ⟨by cases u; rfl, by cases h; rfl⟩
theorem gAt_ok {σ : St} {x : Int32} {i : Nat} (h : .ok i = M_goodAt σ x) : .ok () = M_checkPlace σ x 12 ∧ i = x.toNatClampNeg := by
  unfold M_goodAt xb at h
  cases hc : M_checkPlace σ x 12 with
  | error e => rw [hc] at h; cases h
  | ok u => rw [hc] at h; exact ⟨by cases u; rfl, by cases h; rfl⟩
theorem mAt_lt {σ : St} {x : Int32} {i : Nat} (hI : IB σ) (h : .ok i = M_methodAt σ x) : i < 12 := by
  obtain ⟨h1, rfl⟩ := mAt_ok h
  exact vin_lt (vin_chk h1 hI.mc)
theorem pAt_lt {σ : St} {x : Int32} {i : Nat} (hI : IB σ) (h : .ok i = M_pieceAt σ x) : i < 10 := by
  obtain ⟨h1, rfl⟩ := pAt_ok h
  exact vin_lt (vin_chk h1 hI.pc)
theorem gAt_lt {σ : St} {x : Int32} {i : Nat} (h : .ok i = M_goodAt σ x) : i < 12 := by
  obtain ⟨h1, rfl⟩ := gAt_ok h
  exact vin_lt (vin_chk (N := 12) h1 (by decide))
theorem vin_of_mAt {σ : St} {x : Int32} {i : Nat} (hI : IB σ) (h : .ok i = M_methodAt σ x) : vp_in x 12 := vin_chk (mAt_ok h).1 hI.mc
theorem mul4_toInt {x : Int32} (h0 : 0 ≤ x.toInt) (h1 : x.toInt < 30) (k : Int32) (hk0 : 0 ≤ k.toInt) (hk : k.toInt < 4) : (x * 4 + k).toInt = x.toInt * 4 + k.toInt := by
  rw [Int32.toInt_add, Int32.toInt_mul]
  have h4 : (4 : Int32).toInt = 4 := by decide
  rw [h4]
  have e1 : (x.toInt * 4).bmod (2 ^ 32) = x.toInt * 4 := by
    apply Int.bmod_eq_of_le <;> omega
  rw [e1]
  apply Int.bmod_eq_of_le <;> omega
theorem row_ink {x k : Int32} (hp : vp_in x 30) (hk0 : 0 ≤ k.toInt) (hk : k.toInt < 4) : vp_in (x * 4 + k) 120 := by
  obtain ⟨h0, h1⟩ := vp_in_iff.mp hp
  have h := mul4_toInt h0 (by omega) k hk0 hk
  exact vin_of (by omega) (by omega)
theorem row_in0 {x : Int32} (hp : vp_in x 30) : vp_in (x * 4) 120 := by
  have h := row_ink (k := 0) hp (by decide) (by decide)
  rwa [Int32.add_zero] at h
theorem row_in1 {x : Int32} (hp : vp_in x 30) : vp_in (x * 4 + 1) 120 := row_ink hp (by decide) (by decide)
theorem row_in2 {x : Int32} (hp : vp_in x 30) : vp_in (x * 4 + 2) 120 := row_ink hp (by decide) (by decide)
theorem row_in3 {x : Int32} (hp : vp_in x 30) : vp_in (x * 4 + 3) 120 := row_ink hp (by decide) (by decide)
theorem row_at {σ : St} {x k n : Int32} (h1 : .ok () = M_checkPlace σ k 4) (h2 : .ok () = M_checkPlace σ x n) (hn : n.toInt ≤ 30) : vp_in (x * 4 + k) 120 := by
  have a := vp_in_iff.mp (vin_chk (N := 4) h1 (by decide))
  exact row_ink (vin_chk (N := 30) h2 hn) a.1 a.2
theorem mbd_in {σ : St} {x : Int32} (hI : IB σ) (h0 : 0 ≤ x.toInt) (c : ¬ gF σ 0 6 ≤ x) : vp_in x 12 := by
  have h1 := nle_toInt c
  have h2 := hI.mc
  exact vin_of h0 (by omega)
theorem nI_nn {i N : Nat} (h : i ≤ N) (hN : N < 2 ^ 31) : 0 ≤ (nI i).toInt := by
  rw [nI_toInt (by omega)]; omega
theorem IP.at_in {σ : St} (h : IP σ) (c : ¬ gF σ 1 1 ≤ gF σ 1 2) : vp_in (gF σ 1 2) 50 := by
  have h1 := nle_toInt c
  exact vin_of h.2.2.1 (by have := h.2.1; omega)
theorem IP.at1 {σ : St} (h : IP σ) (c : ¬ gF σ 1 1 ≤ gF σ 1 2) : IP (sF σ 1 2 (gF σ 1 2 + 1)) := by
  have h1 := nle_toInt c
  obtain ⟨a1, a2, a3, a4⟩ := h
  have e : (gF σ 1 2 + 1).toInt = (gF σ 1 2).toInt + 1 := by
    rw [Int32.toInt_add]
    have h4 : (1 : Int32).toInt = 1 := by decide
    rw [h4]
    apply Int.bmod_eq_of_le <;> omega
  refine ⟨?_, ?_, ?_, ?_⟩
  · rw [gF_sF, if_neg (by omega)]; exact a1
  · rw [gF_sF, if_neg (by omega)]; exact a2
  · rw [gF_sF, if_pos ⟨rfl, rfl⟩, e]; omega
  · rw [gF_sF, if_pos ⟨rfl, rfl⟩, e]; omega
theorem IP.zero {σ : St} (h : IP σ) : IP (sF σ 1 2 0) := by
  obtain ⟨a1, a2, a3, a4⟩ := h
  refine ⟨?_, ?_, ?_, ?_⟩
  · rw [gF_sF, if_neg (by omega)]; exact a1
  · rw [gF_sF, if_neg (by omega)]; exact a2
  · rw [gF_sF, if_pos ⟨rfl, rfl⟩]; decide
  · rw [gF_sF, if_pos ⟨rfl, rfl⟩]; decide
theorem here_no {σ : St} (c : gF σ 1 1 ≤ gF σ 1 2) : M_signHere σ = -1 := by
  unfold M_signHere; rw [if_pos c]
theorem IP.step {σ : St} (h : IP σ) (c : ¬ M_isDigit (M_signHere σ) = 0) : IP (sF σ 1 2 (gF σ 1 2 + 1)) := by
  by_cases c2 : gF σ 1 1 ≤ gF σ 1 2
  · rw [here_no c2] at c; exact absurd (by decide) c
  · exact h.at1 c2
theorem take_ne {σ : St} {k : Int32} (hk : k ≠ -1) (h : M_signHere σ = k) : ¬ gF σ 1 1 ≤ gF σ 1 2 := fun c => hk (by rw [← h, here_no c])
theorem IP.take {σ σ1 : St} {r k : Int32} (h : IP σ) (hw : (r, σ1) = M_take σ k) (hk : k ≠ -1 := by decide) : IP σ1 := by
  unfold M_take at hw
  by_cases c : M_signHere σ = k
  · rw [if_pos c] at hw; cases hw; exact h.at1 (take_ne hk c)
  · rw [if_neg c] at hw; cases hw; exact h
theorem IP.of {σ τ : St} (h : IP σ) (h1 : gF τ 1 1 = gF σ 1 1) (h2 : gF τ 1 2 = gF σ 1 2) : IP τ := by
  unfold IP; rw [h1, h2]; exact h
theorem IP.kA {σ : St} {p j : Nat} {v : Int32} (h : IP σ) : IP (sA σ p j v) := h
theorem pMe_ne (i : Nat) : pMe i ≠ 1 ∧ pMe i ≠ 0 := by unfold pMe; omega
theorem pPi_ne (i : Nat) : pPi i ≠ 1 ∧ pPi i ≠ 0 := by unfold pPi; omega
theorem pGo_ne (i : Nat) : pGo i ≠ 1 ∧ pGo i ≠ 0 := by unfold pGo; omega
theorem IP.kF {σ : St} {p j : Nat} {v : Int32} (h : IP σ) (hp : p ≠ 1) : IP (sF σ p j v) :=
  h.of (by rw [gF_sF, if_neg (fun q => hp q.1.symm)]) (by rw [gF_sF, if_neg (fun q => hp q.1.symm)])
theorem num_h {lo hi r : Int32} {σ1 : St} (h9 : hi.toInt ≤ 9999) : ∀ (n i : Nat) (x : Int32) (τ : St), IP τ → 0 ≤ x.toInt → x.toInt ≤ hi.toInt → (r, σ1) = M_readNumber_h5 n i x τ lo hi → IP σ1 ∧ (r = -1 ∨ (0 ≤ r.toInt ∧ r.toInt ≤ hi.toInt)) := by
  intro n
  induction n with
  | zero =>
    intro i x τ hI h0 h1 hw
    rw [M_readNumber_h5] at hw
    cases hw
    exact ⟨hI, Or.inr ⟨by decide, by rw [Int32.toInt_zero]; omega⟩⟩
  | succ n ih =>
    intro i x τ hI h0 h1 hw
    have fin : (r, σ1) = (if nI i = 0 then ((-1 : Int32), τ) else if lo ≤ x then (x, τ) else (-1, τ)) → IP σ1 ∧ (r = -1 ∨ (0 ≤ r.toInt ∧ r.toInt ≤ hi.toInt)) := by
      intro h
      split at h
      · cases h; exact ⟨hI, Or.inl rfl⟩
      · split at h
        · cases h; exact ⟨hI, Or.inr ⟨h0, h1⟩⟩
        · cases h; exact ⟨hI, Or.inl rfl⟩
    rw [M_readNumber_h5] at hw
    by_cases c1 : (4 : Int32) ≤ nI i
    · rw [if_pos c1] at hw; exact fin hw
    · rw [if_neg c1] at hw
      by_cases c2 : M_isDigit (M_signHere τ) = 0
      · rw [if_pos c2] at hw; exact fin hw
      · rw [if_neg c2] at hw
        by_cases c3 : hi < x * 10 + (M_signHere τ - 48)
        · rw [if_pos c3] at hw; exact fin hw
        · rw [if_neg c3] at hw
          have hd : 48 ≤ (M_signHere τ).toInt ∧ (M_signHere τ).toInt ≤ 57 := by
            unfold M_isDigit at c2
            by_cases d1 : M_signHere τ < 48
            · rw [if_pos d1] at c2; exact absurd rfl c2
            · rw [if_neg d1] at c2
              by_cases d2 : (57 : Int32) < M_signHere τ
              · rw [if_pos d2] at c2; exact absurd rfl c2
              · have e1 := nlt_toInt d1
                have e2 := nlt_toInt d2
                have e3 : (48 : Int32).toInt = 48 := by decide
                have e4 : (57 : Int32).toInt = 57 := by decide
                omega
          have e : (x * 10 + (M_signHere τ - 48)).toInt = x.toInt * 10 + ((M_signHere τ).toInt - 48) := by
            rw [Int32.toInt_add, Int32.toInt_mul, Int32.toInt_sub]
            have e3 : (48 : Int32).toInt = 48 := by decide
            have e4 : (10 : Int32).toInt = 10 := by decide
            rw [e3, e4]
            have b1 : (x.toInt * 10).bmod (2 ^ 32) = x.toInt * 10 := by apply Int.bmod_eq_of_le <;> omega
            have b2 : ((M_signHere τ).toInt - 48).bmod (2 ^ 32) = (M_signHere τ).toInt - 48 := by apply Int.bmod_eq_of_le <;> omega
            rw [b1, b2]
            apply Int.bmod_eq_of_le <;> omega
          have h3 := nlt_toInt c3
          have go : (r, σ1) = M_readNumber_h5 n (i + 1) (x * 10 + (M_signHere τ - 48)) (sF τ 1 2 (gF τ 1 2 + 1)) lo hi → IP σ1 ∧ (r = -1 ∨ (0 ≤ r.toInt ∧ r.toInt ≤ hi.toInt)) :=
            fun h => ih (i + 1) _ _ (hI.step c2) (by rw [e]; omega) h3 h
          by_cases c4 : nI i = 3
          · rw [if_pos c4] at hw
            by_cases c5 : lo ≤ x * 10 + (M_signHere τ - 48)
            · rw [if_pos c5] at hw; exact go hw
            · rw [if_neg c5] at hw; exact fin hw
          · rw [if_neg c4] at hw; exact go hw
theorem IP.num {σ σ1 : St} {r lo hi : Int32} (h : IP σ) (hw : (r, σ1) = M_readNumber σ lo hi) (h0 : 0 ≤ hi.toInt := by decide) (h9 : hi.toInt ≤ 9999 := by decide) : IP σ1 :=
  (num_h h9 _ _ _ _ h (by decide) (by rw [Int32.toInt_zero]; exact h0) hw).1
theorem num_in {σ σ1 : St} {r lo hi : Int32} {N : Nat} (h : IP σ) (hw : (r, σ1) = M_readNumber σ lo hi) (h0 : 0 ≤ hi.toInt) (hN : hi.toInt < N) (h9 : hi.toInt ≤ 9999) (hne : ¬ r = -1) : vp_in r N := by
  rcases (num_h h9 _ _ _ _ h (by decide) (by rw [Int32.toInt_zero]; exact h0) hw).2 with e | ⟨e1, e2⟩
  · exact absurd e hne
  · exact vin_of e1 (by omega)
theorem has01 (a b : Int32) : M_has a b = 0 ∨ M_has a b = 1 := by
  unfold M_has; split
  · exact Or.inr rfl
  · exact Or.inl rfl
theorem IP.bar {σ σ1 : St} {r : Int32} {i : Nat} (h : IP σ) (hw : (r, σ1) = M_readBar σ i) : IP σ1 ∧ (r = 0 ∨ r = 1) := by
  unfold M_readBar at hw
  generalize e1 : M_readNumber σ 0 9 = z at hw
  obtain ⟨r1, s1⟩ := z
  have h1 := h.num e1.symm
  rw [pb_mk] at hw
  split at hw
  · cases hw; exact ⟨h1, Or.inl rfl⟩
  · cases hw; exact ⟨h1.kF (pMe_ne i).1, Or.inr rfl⟩
theorem IP.notBehind {σ σ1 : St} {r : Int32} {i : Nat} (h : IP σ) (hw : (r, σ1) = M_readNotBehind σ i) : IP σ1 ∧ (r = 0 ∨ r = 1) := by
  unfold M_readNotBehind at hw
  generalize e1 : M_readNumber σ 0 11 = z at hw
  obtain ⟨r1, s1⟩ := z
  have h1 := h.num e1.symm
  rw [pb_mk] at hw
  split at hw
  · cases hw; exact ⟨h1, Or.inl rfl⟩
  · cases hw; exact ⟨h1.kF (pMe_ne i).1, Or.inr rfl⟩
theorem IP.use {σ σ1 : St} {r : Int32} {i : Nat} (h : IP σ) (hw : (r, σ1) = M_readUse σ i) : IP σ1 ∧ (r = 0 ∨ r = 1) := by
  unfold M_readUse at hw
  generalize e1 : M_readNumber σ 0 11 = z at hw
  obtain ⟨r1, s1⟩ := z
  have h1 := h.num e1.symm
  rw [pb_mk] at hw
  split at hw
  · cases hw; exact ⟨h1, Or.inl rfl⟩
  · generalize e2 : M_take s1 42 = z at hw
    obtain ⟨r2, s2⟩ := z
    have h2 := h1.take e2.symm
    rw [pb_mk] at hw
    split at hw
    · cases hw; exact ⟨h2, Or.inl rfl⟩
    · generalize e3 : M_readNumber s2 1 9999 = z at hw
      obtain ⟨r3, s3⟩ := z
      have h3 := h2.num e3.symm
      rw [pb_mk] at hw
      split at hw
      · cases hw; exact ⟨h3, Or.inl rfl⟩
      · cases hw; exact ⟨h3.kA, Or.inr rfl⟩
theorem IP.after {σ σ1 : St} {r : Int32} {i : Nat} (h : IP σ) (hw : (r, σ1) = M_readAfter σ i) : IP σ1 ∧ (r = 0 ∨ r = 1) := by
  unfold M_readAfter at hw
  generalize e1 : M_readNumber σ 0 11 = z at hw
  obtain ⟨r1, s1⟩ := z
  have h1 := h.num e1.symm
  rw [pb_mk] at hw
  split at hw
  · cases hw; exact ⟨h1, Or.inl rfl⟩
  · generalize e2 : M_take s1 58 = z at hw
    obtain ⟨r2, s2⟩ := z
    have h2 := h1.take e2.symm
    rw [pb_mk] at hw
    split at hw
    · cases hw; exact ⟨h2, Or.inl rfl⟩
    · generalize e3 : M_readNumber s2 0 9999 = z at hw
      obtain ⟨r3, s3⟩ := z
      have h3 := h2.num e3.symm
      rw [pb_mk] at hw
      split at hw
      · cases hw; exact ⟨h3, Or.inl rfl⟩
      · cases hw; exact ⟨(h3.kF (pMe_ne i).1).kA, Or.inr rfl⟩
theorem IP.clause {σ σ1 : St} {r : Int32} {i : Nat} (h : IP σ) (hw : (r, σ1) = M_readClause σ i) : IP σ1 ∧ (r = 0 ∨ r = 1) := by
  unfold M_readClause at hw
  generalize e1 : M_take σ 117 = z at hw
  obtain ⟨r1, s1⟩ := z
  have h1 := h.take e1.symm
  rw [pb_mk] at hw
  split at hw
  · generalize e2 : M_take s1 98 = z at hw
    obtain ⟨r2, s2⟩ := z
    have h2 := h1.take e2.symm
    rw [pb_mk] at hw
    split at hw
    · generalize e3 : M_take s2 120 = z at hw
      obtain ⟨r3, s3⟩ := z
      have h3 := h2.take e3.symm
      rw [pb_mk] at hw
      split at hw
      · generalize e4 : M_take s3 97 = z at hw
        obtain ⟨r4, s4⟩ := z
        have h4 := h3.take e4.symm
        rw [pb_mk] at hw
        split at hw
        · generalize e5 : M_take s4 116 = z at hw
          obtain ⟨r5, s5⟩ := z
          have h5 := h4.take e5.symm
          rw [pb_mk] at hw
          split at hw
          · generalize e6 : M_take s5 105 = z at hw
            obtain ⟨r6, s6⟩ := z
            have h6 := h5.take e6.symm
            rw [pb_mk] at hw
            split at hw
            · cases hw; exact ⟨h6, Or.inl rfl⟩
            · cases hw; exact ⟨h6.kF (pMe_ne i).1, Or.inr rfl⟩
          · cases hw; exact ⟨h5.kF (pMe_ne i).1, Or.inr rfl⟩
        · rw [pb_id] at hw; exact h4.after hw
      · rw [pb_id] at hw; exact h3.notBehind hw
    · rw [pb_id] at hw; exact h2.bar hw
  · rw [pb_id] at hw; exact h1.use hw
theorem clear_h23 {i : Nat} : ∀ (n k : Nat) (τ : St), IP τ → IP (M_clear_h23 n k τ i) := by
  intro n
  induction n with
  | zero => intro k τ h; exact h
  | succ n ih =>
    intro k τ h
    rw [M_clear_h23]
    split
    · exact ((((h.kF (pMe_ne i).1).kF (pMe_ne i).1).kF (pMe_ne i).1).kF (pMe_ne i).1).kF (pMe_ne i).1
    · exact ih _ _ h.kA
theorem clear_h2 {i : Nat} : ∀ (n k : Nat) (τ : St), IP τ → IP (M_clear_h2 n k τ i) := by
  intro n
  induction n with
  | zero => intro k τ h; exact h
  | succ n ih =>
    intro k τ h
    rw [M_clear_h2]
    split
    · exact clear_h23 _ _ _ h
    · exact ih _ _ h.kA
theorem IP.clear {σ σ1 : St} {i : Nat} (h : IP σ) (hw : σ1 = M_clear σ i) : IP σ1 := by
  rw [hw]; exact clear_h2 _ _ _ h
theorem chg_F {σ : St} {i p j : Nat} {x : Int32} (hp : p ≠ pGo i) : gF (M_changeBy σ i x) p j = gF σ p j := by
  unfold M_changeBy
  split
  · rw [gF_sL, gF_sF, if_neg (fun q => hp q.1)]
  · rw [gF_sL, gF_sF, if_neg (fun q => hp q.1)]
theorem twg_F {i p j : Nat} (hp : ∀ g, p ≠ pGo g) : ∀ (n k : Nat) (τ : St), gF (M_takeWhatGoes_h2 n k τ i) p j = gF τ p j := by
  intro n
  induction n with
  | zero => intro k τ; rfl
  | succ n ih =>
    intro k τ
    rw [M_takeWhatGoes_h2]
    split
    · rfl
    · rw [vb_eq, ih, chg_F (hp k)]
theorem pPi_pGo {i g : Nat} (hi : i < 10) : pPi i ≠ pGo g := by unfold pPi pGo; omega
theorem IB.row_in {σ σ1 : St} {a i : Nat} (h : IB σ) (hT : σ1 = M_takeWhatGoes σ a) (hi : i < 10) (c : gF σ (pPi i) 4 < 30) : vp_in (gF σ1 (pPi i) 4) 30 := by
  rw [hT, M_takeWhatGoes, twg_F (fun g => pPi_pGo hi)]
  exact vin_of (h.2.2.2.2 i hi).2.1 (by have := lt_toInt c; simpa using this)
theorem sw_out4 {x : Int32} (h0 : ¬ x = 0) (h1 : ¬ x = 1) (h2 : ¬ x = 2) (h3 : ¬ x = 3) : x.toInt < 0 ∨ 3 < x.toInt := by
  have e (k : Int32) (h : ¬ x = k) : x.toInt ≠ k.toInt := fun q => h (Int32.toInt_inj.mp q)
  have a0 := e 0 h0; have a1 := e 1 h1; have a2 := e 2 h2; have a3 := e 3 h3
  rw [show (0 : Int32).toInt = 0 by decide] at a0
  rw [show (1 : Int32).toInt = 1 by decide] at a1
  rw [show (2 : Int32).toInt = 2 by decide] at a2
  rw [show (3 : Int32).toInt = 3 by decide] at a3
  omega
theorem sw_out5 {x : Int32} (h0 : ¬ x = 0) (h1 : ¬ x = 1) (h2 : ¬ x = 2) (h3 : ¬ x = 3) (h4 : ¬ x = 4) : x.toInt < 0 ∨ 4 < x.toInt := by
  have h := sw_out4 h0 h1 h2 h3
  have a4 : x.toInt ≠ (4 : Int32).toInt := fun q => h4 (Int32.toInt_inj.mp q)
  rw [show (4 : Int32).toInt = 4 by decide] at a4
  omega
theorem bc_nn (x : Int32) : ¬ M_bitCount x < 0 := by
  obtain ⟨z, hz⟩ : ∃ z, M_bitCount x = z &&& 63 := ⟨_, rfl⟩
  obtain ⟨j, hj, e⟩ := pk_andE z (m := 63) 6 (by decide)
  rw [hz, e]; exact nI_pos (by omega)
theorem bc_10 {x : Int32} (h : M_bitCount x ≤ 10) : (0 : Int32).toNatClampNeg + (M_bitCount x).toNatClampNeg ≤ 10 := by
  have h0 := nlt_toInt (bc_nn x)
  have h1 := le_toInt h
  rw [show (10 : Int32).toInt = 10 by decide] at h1
  rw [show (0 : Int32).toNatClampNeg = 0 by decide]
  have : (M_bitCount x).toNatClampNeg = (M_bitCount x).toInt.toNat := rfl
  omega

/-! The relation between the component's state and the reference's. -/
abbrev Cl : Type := Int32 × Int32 × Int32
def cl1 (μ : St) (c : Nat) : Cl := (gA μ 3 c, gA μ 4 c, gA μ 5 c)
def CL (μ : St) (m r : Nat) : List Cl := (List.range r).map (fun k => cl1 μ (10 * m + k))
def anyC (cs : List Cl) (L N : Int32) : Bool := cs.any (fun c => decide (c.1 = L) && decide (c.2.1 = N))
def anyL (cs : List Cl) (L : Int32) : Bool := cs.any (fun c => decide (c.1 = L))
def usum (cs : List Cl) (g : Int32) : Int32 := cs.foldl (fun a c => if c.1 = 117 ∧ c.2.1 = g then a + c.2.2 else a) 0
def hmax (cs : List Cl) (z : Int32) : Int32 := cs.foldl (fun a c => if c.1 = 97 ∧ c.2.1 = z then (if a < c.2.2 then c.2.2 else a) else a) 0
def WFc (c : Cl) : Prop := (0 ≤ c.2.1.toInt ∧ c.2.1.toInt ≤ 11) ∧ 0 ≤ c.2.2.toInt ∧ c.2.2.toInt ≤ 9999
def FR (σ : St) (i : Nat) (cs : List Cl) : Prop := (∀ z, z < 12 → bt (gF σ (pMe i) 2) z = anyC cs 98 (nI z)) ∧ (∀ z, z < 12 → bt (gF σ (pMe i) 3) z = anyC cs 120 (nI z)) ∧ (∀ z, z < 12 → bt (gF σ (pMe i) 4) z = anyC cs 97 (nI z)) ∧ (∀ z, 12 ≤ z → bt (gF σ (pMe i) 4) z = false) ∧ gF σ (pMe i) 5 = (if anyL cs 116 then 1 else 0) ∧ gF σ (pMe i) 6 = (if anyL cs 105 then 1 else 0) ∧ (∀ g, g < 12 → gA σ (pMe i + 1) g = usum cs (nI g)) ∧ (∀ z, z < 12 → gA σ (pMe i + 2) z = hmax cs (nI z)) ∧ ∀ c ∈ cs, WFc c
def nm (μ : St) (m : Nat) : Nat := (gA μ 2 m).toNatClampNeg
def np (μ : St) (o : Nat) : Nat := (gA μ 8 o).toNatClampNeg
def nr (μ : St) (o : Nat) : Nat := (gA μ 10 o).toNatClampNeg
def anyP (μ : St) (o n : Nat) (z : Int32) : Bool := (List.range n).any (fun k => decide (gA μ 9 (8 * o + k) = z))
def lat (μ : St) (o n : Nat) (z : Int32) : Int32 := (List.range n).foldl (fun a k => if gA μ 11 (30 * o + k) = z then gA μ 12 (30 * o + k) else a) (-1)
def RMr (σ μ : St) (m : Nat) : Prop := (∀ p, p < 8 → bt (gF σ (pMe m) 7) p = decide (gA μ 7 (12 * p + m) = 1)) ∧ (∀ p, p < 8 → b01 (gA μ 7 (12 * p + m))) ∧ ∀ z, z < 10 → bt (gF σ (pMe m) 8) z = decide (gA μ 6 (10 * m + z) = 1)
def RMe (σ μ : St) (m : Nat) : Prop := RMr σ μ m ∧ ((m : Int) < (gF μ 0 3).toInt → FR σ m (CL μ m (nm μ m)))
def RPa (σ μ : St) (o : Nat) : Prop := gF σ (pPi o) 3 = gA μ 8 o ∧ (∀ k, k < 8 → gA σ (pPi o + 1) k = gA μ 9 (8 * o + k)) ∧ (∀ k, k < np μ o → vp_in (gA μ 9 (8 * o + k)) 10) ∧ (∀ z, z < 12 → bt (gF σ (pPi o) 5) z = anyP μ o (np μ o) (nI z)) ∧ ∀ z, 12 ≤ z → bt (gF σ (pPi o) 5) z = false
def RRo (σ μ : St) (o : Nat) : Prop := gF σ (pPi o) 4 = gA μ 10 o ∧ (∀ k, k < 30 → gA σ (pPi o + 2) (4 * k) = gA μ 11 (30 * o + k) ∧ gA σ (pPi o + 2) (4 * k + 1) = gA μ 12 (30 * o + k) ∧ gA σ (pPi o + 2) (4 * k + 2) = gA μ 13 (30 * o + k) ∧ gA σ (pPi o + 2) (4 * k + 3) = gA μ 14 (30 * o + k)) ∧ (∀ z, z < 12 → lat μ o (nr μ o) (nI z) = if bt (gF σ (pPi o) 6) z then gA σ (pPi o + 3) z else -1) ∧ (∀ z, z < 12 → bt (gF σ (pPi o) 6) z = true → 0 ≤ (gA σ (pPi o + 3) z).toInt ∧ (gA σ (pPi o + 3) z).toInt ≤ 1000000) ∧ (∀ z, 12 ≤ z → bt (gF σ (pPi o) 6) z = false) ∧ gF σ (pPi o) 7 = (if nr μ o = 0 then 0 else gA μ 12 (30 * o + (nr μ o - 1))) ∧ 0 ≤ (gF σ (pPi o) 7).toInt
def RPi (σ μ : St) (o : Nat) : Prop := RPa σ μ o ∧ RRo σ μ o
def RGo (σ μ : St) (g : Nat) : Prop := gF σ (pGo g) 0 = gA μ 15 g ∧ (0 ≤ (gA μ 15 g).toInt ∧ (gA μ 15 g).toInt ≤ 1000000) ∧ gL σ (pGo g) 1 = gL μ 16 g ∧ gL σ (pGo g) 2 = gL μ 17 g ∧ gF σ (pGo g) 3 = gA μ 18 g ∧ (∀ z, z < 12 → bt (gF σ (pGo g) 4) z = !decide (gA μ 19 (12 * g + z) = 0)) ∧ gA μ 19 (12 * g + g) = 0
def RPl (σ μ : St) : Prop := gF σ 0 8 = gF μ 0 23 ∧ ∀ k, k < 10 → gA σ 94 k = gA μ 20 k
def RPd (σ μ : St) : Prop := gF σ 1 1 = gF μ 0 1 ∧ ∀ k, k < 50 → gA σ 2 k = gA μ 1 k
def RCt (σ μ : St) : Prop := gF σ 0 6 = gF μ 0 3 ∧ gF σ 0 7 = gF μ 0 10
def Rel (σ μ : St) : Prop := (IB σ ∧ IM μ) ∧ RCt σ μ ∧ RPd σ μ ∧ (∀ m, m < 12 → RMe σ μ m) ∧ (∀ o, o < 10 → RPi σ μ o) ∧ (∀ g, g < 12 → RGo σ μ g) ∧ RPl σ μ
theorem Rel.ib {σ μ : St} (h : Rel σ μ) : IB σ := h.1.1
theorem Rel.im {σ μ : St} (h : Rel σ μ) : IM μ := h.1.2
theorem Rel.ct {σ μ : St} (h : Rel σ μ) : RCt σ μ := h.2.1
theorem Rel.pd {σ μ : St} (h : Rel σ μ) : RPd σ μ := h.2.2.1
theorem Rel.me {σ μ : St} (h : Rel σ μ) {m : Nat} (hm : m < 12) : RMe σ μ m := h.2.2.2.1 m hm
theorem Rel.pi {σ μ : St} (h : Rel σ μ) {o : Nat} (ho : o < 10) : RPi σ μ o := h.2.2.2.2.1 o ho
theorem Rel.go {σ μ : St} (h : Rel σ μ) {g : Nat} (hg : g < 12) : RGo σ μ g := h.2.2.2.2.2.1 g hg
theorem Rel.pl {σ μ : St} (h : Rel σ μ) : RPl σ μ := h.2.2.2.2.2.2
/-! frames -/
theorem gF_s (σ : St) (p j : Nat) (v : Int32) : gF (sF σ p j v) p j = v := by rw [gF_sF, if_pos ⟨rfl, rfl⟩]
theorem gF_np {σ : St} {p j a b : Nat} {v : Int32} (h : a ≠ p) : gF (sF σ p j v) a b = gF σ a b := by rw [gF_sF, if_neg (fun q => h q.1)]
theorem gF_nj {σ : St} {p j a b : Nat} {v : Int32} (h : b ≠ j) : gF (sF σ p j v) a b = gF σ a b := by rw [gF_sF, if_neg (fun q => h q.2)]
theorem gL_s (σ : St) (p j : Nat) (v : Int64) : gL (sL σ p j v) p j = v := by rw [gL_sL, if_pos ⟨rfl, rfl⟩]
theorem gL_np {σ : St} {p j a b : Nat} {v : Int64} (h : a ≠ p) : gL (sL σ p j v) a b = gL σ a b := by rw [gL_sL, if_neg (fun q => h q.1)]
theorem gL_nj {σ : St} {p j a b : Nat} {v : Int64} (h : b ≠ j) : gL (sL σ p j v) a b = gL σ a b := by rw [gL_sL, if_neg (fun q => h q.2)]
theorem gA_s (σ : St) (p j : Nat) (v : Int32) : gA (sA σ p j v) p j = v := by rw [gA_sA, if_pos ⟨rfl, rfl⟩]
theorem gA_np {σ : St} {p j a b : Nat} {v : Int32} (h : a ≠ p) : gA (sA σ p j v) a b = gA σ a b := by rw [gA_sA, if_neg (fun q => h q.1)]
theorem gA_nj {σ : St} {p j a b : Nat} {v : Int32} (h : b ≠ j) : gA (sA σ p j v) a b = gA σ a b := by rw [gA_sA, if_neg (fun q => h q.2)]
theorem gA_ne {σ : St} {p j q : Nat} {v : Int32} (h : q ≠ p) : gA (sA σ p j v) q = gA σ q := by
  funext k
  rw [gA_sA, if_neg (fun e => h e.1)]
theorem sL_ne {σ : St} {p j q : Nat} {v : Int64} (h : q ≠ p) : gL (sL σ p j v) q = gL σ q := by
  funext k
  rw [gL_sL, if_neg (fun e => h e.1)]
theorem same.rf {σ : St} {i : Nat} : same σ σ i := ⟨fun _ => rfl, fun _ => rfl, rfl⟩
theorem same.trans {a b c : St} {i : Nat} (h : same a b i) (g : same b c i) : same a c i := ⟨fun j => (g.1 j).trans (h.1 j), fun j => (g.2.1 j).trans (h.2.1 j), g.2.2.trans h.2.2⟩
theorem same.F {σ : St} {p j : Nat} {v : Int32} {i : Nat} {τ : St} (h : same σ τ i) (hi : i ≠ p) : same σ (sF τ p j v) i := h.trans (same_sF hi)
theorem same.L {σ : St} {p j : Nat} {v : Int64} {i : Nat} {τ : St} (h : same σ τ i) (hi : i ≠ p) : same σ (sL τ p j v) i := h.trans (same_sL hi)
theorem same.A {σ : St} {p j : Nat} {v : Int32} {i : Nat} {τ : St} (h : same σ τ i) (hi : i ≠ p) : same σ (sA τ p j v) i := h.trans (same_sA hi)
theorem CL_eq {μ μ' : St} {m r : Nat} (h : ∀ p, 3 ≤ p → p ≤ 5 → gA μ' p = gA μ p) : CL μ' m r = CL μ m r := by
  unfold CL cl1
  rw [h 3 (by decide) (by decide), h 4 (by decide) (by decide), h 5 (by decide) (by decide)]
theorem FR.fr {σ σ' : St} {i : Nat} {cs : List Cl} (h0 : ∀ j, j ≤ 6 → gF σ' (pMe i) j = gF σ (pMe i) j) (h1 : gA σ' (pMe i + 1) = gA σ (pMe i + 1)) (h2 : gA σ' (pMe i + 2) = gA σ (pMe i + 2)) (h : FR σ i cs) : FR σ' i cs := by
  unfold FR at h ⊢
  rw [h0 2 (by decide), h0 3 (by decide), h0 4 (by decide), h0 5 (by decide), h0 6 (by decide), h1, h2]
  exact h
theorem RMr.fr {σ σ' μ μ' : St} {m : Nat} (h7 : gF σ' (pMe m) 7 = gF σ (pMe m) 7) (h8 : gF σ' (pMe m) 8 = gF σ (pMe m) 8) (hm : ∀ p, 6 ≤ p → p ≤ 7 → gA μ' p = gA μ p) (h : RMr σ μ m) : RMr σ' μ' m := by
  unfold RMr at h ⊢
  rw [h7, h8, hm 7 (by decide) (by decide), hm 6 (by decide) (by decide)]
  exact h
theorem RMe.fr {σ σ' μ μ' : St} {m : Nat} (s0 : same σ σ' (pMe m)) (s1 : same σ σ' (pMe m + 1)) (s2 : same σ σ' (pMe m + 2)) (hm : ∀ p, 2 ≤ p → p ≤ 7 → gA μ' p = gA μ p) (hc : gF μ' 0 3 = gF μ 0 3) (h : RMe σ μ m) : RMe σ' μ' m := by
  refine ⟨RMr.fr (s0.1 7) (s0.1 8) (fun p a b => hm p (by omega) b) h.1, fun hl => ?_⟩
  rw [hc] at hl
  have e : CL μ' m (nm μ' m) = CL μ m (nm μ m) := by
    rw [CL_eq (fun p a b => hm p (by omega) (by omega))]
    unfold nm
    rw [hm 2 (by decide) (by decide)]
  rw [e]
  exact FR.fr (fun j _ => s0.1 j) s1.2.2 s2.2.2 (h.2 hl)
theorem RPa.fr {σ σ' μ μ' : St} {o : Nat} (h3 : gF σ' (pPi o) 3 = gF σ (pPi o) 3) (h5 : gF σ' (pPi o) 5 = gF σ (pPi o) 5) (s1 : gA σ' (pPi o + 1) = gA σ (pPi o + 1)) (hm : ∀ p, 8 ≤ p → p ≤ 9 → gA μ' p = gA μ p) (h : RPa σ μ o) : RPa σ' μ' o := by
  unfold RPa np anyP at h ⊢
  rw [h3, h5, s1, hm 8 (by decide) (by decide), hm 9 (by decide) (by decide)]
  exact h
theorem RRo.fr {σ σ' μ μ' : St} {o : Nat} (h4 : gF σ' (pPi o) 4 = gF σ (pPi o) 4) (h6 : gF σ' (pPi o) 6 = gF σ (pPi o) 6) (h7 : gF σ' (pPi o) 7 = gF σ (pPi o) 7) (s2 : gA σ' (pPi o + 2) = gA σ (pPi o + 2)) (s3 : gA σ' (pPi o + 3) = gA σ (pPi o + 3)) (hm : ∀ p, 10 ≤ p → p ≤ 14 → gA μ' p = gA μ p) (h : RRo σ μ o) : RRo σ' μ' o := by
  unfold RRo nr lat at h ⊢
  rw [h4, h6, h7, s2, s3, hm 10 (by decide) (by decide), hm 11 (by decide) (by decide), hm 12 (by decide) (by decide), hm 13 (by decide) (by decide), hm 14 (by decide) (by decide)]
  exact h
theorem RPi.fr {σ σ' μ μ' : St} {o : Nat} (s0 : same σ σ' (pPi o)) (s1 : same σ σ' (pPi o + 1)) (s2 : same σ σ' (pPi o + 2)) (s3 : same σ σ' (pPi o + 3)) (hm : ∀ p, 8 ≤ p → p ≤ 14 → gA μ' p = gA μ p) (h : RPi σ μ o) : RPi σ' μ' o :=
  ⟨RPa.fr (s0.1 3) (s0.1 5) s1.2.2 (fun p a b => hm p a (by omega)) h.1, RRo.fr (s0.1 4) (s0.1 6) (s0.1 7) s2.2.2 s3.2.2 (fun p a b => hm p (by omega) b) h.2⟩
theorem RGo.fr {σ σ' μ μ' : St} {g : Nat} (s0 : same σ σ' (pGo g)) (hm : ∀ p, 15 ≤ p → p ≤ 19 → gA μ' p = gA μ p) (h16 : gL μ' 16 = gL μ 16) (h17 : gL μ' 17 = gL μ 17) (h : RGo σ μ g) : RGo σ' μ' g := by
  unfold RGo at h ⊢
  rw [s0.1 0, s0.1 3, s0.1 4, s0.2.1 1, s0.2.1 2, hm 15 (by decide) (by decide), hm 18 (by decide) (by decide), hm 19 (by decide) (by decide), h16, h17]
  exact h
theorem Rel.k0 {σ μ : St} {t : Int32} (h : Rel σ μ) : Rel σ (sF μ 0 0 t) := by
  refine ⟨⟨h.ib, h.im.k0⟩, h.ct, h.pd, fun m hm => ?_, fun o ho => ?_, fun g hg => ?_, h.pl⟩
  · exact RMe.fr same.rf same.rf same.rf (fun _ _ _ => rfl) rfl (h.me hm)
  · exact RPi.fr same.rf same.rf same.rf same.rf (fun _ _ _ => rfl) (h.pi ho)
  · exact RGo.fr same.rf (fun _ _ _ => rfl) rfl rfl (h.go hg)
/-! how the reference's test of a call answers -/
theorem goes_eq (μ : St) (a b c : Int32) : M_m_goes μ a b c = ((if a = 0 then 0 else if b = 0 then 0 else if c = 0 then 0 else 1), sF μ 0 0 (if a = 0 then 1 else if b = 0 then 2 else if c = 0 then 3 else 0)) := by
  unfold M_m_goes vb
  dsimp only
  simp only [gF_sF, and_self, if_true]
  by_cases h1 : a = 0
  · simp [h1]
  · by_cases h2 : b = 0
    · simp [h1, h2]
    · by_cases h3 : c = 0
      · simp [h1, h2, h3]
      · simp [h1, h2, h3]
theorem goes_1 {μ : St} {a b c : Int32} (h : a = 0) : M_m_goes μ a b c = (0, sF μ 0 0 1) := by
  rw [goes_eq, if_pos h, if_pos h]
theorem goes_2 {μ : St} {a b c : Int32} (h : ¬ a = 0) (h2 : b = 0) : M_m_goes μ a b c = (0, sF μ 0 0 2) := by
  rw [goes_eq, if_neg h, if_neg h, if_pos h2, if_pos h2]
theorem goes_3 {μ : St} {a b c : Int32} (h : ¬ a = 0) (h2 : ¬ b = 0) (h3 : c = 0) : M_m_goes μ a b c = (0, sF μ 0 0 3) := by
  rw [goes_eq, if_neg h, if_neg h, if_neg h2, if_neg h2, if_pos h3, if_pos h3]
theorem goes_0 {μ : St} {a b c : Int32} (h : ¬ a = 0) (h2 : ¬ b = 0) (h3 : ¬ c = 0) : M_m_goes μ a b c = (1, sF μ 0 0 0) := by
  rw [goes_eq, if_neg h, if_neg h, if_neg h2, if_neg h2, if_neg h3, if_neg h3]
/-- a place is there, on both sides, or on neither -/
theorem place (σ : St) (x b : Int32) : (M_m_below x b = 0 ∧ M_checkPlace σ x b = .error "java/lang/IndexOutOfBoundsException") ∨ (M_m_below x b = 1 ∧ M_checkPlace σ x b = .ok () ∧ 0 ≤ x.toInt ∧ x.toInt < b.toInt) := by
  unfold M_m_below vb M_checkPlace
  by_cases h1 : x < 0
  · rw [if_pos h1, if_pos h1]; exact Or.inl ⟨rfl, rfl⟩
  · rw [if_neg h1, if_neg h1]
    by_cases h2 : x < b
    · rw [if_pos h2, if_neg (fun q => by have a := le_toInt q; have b := lt_toInt h2; omega)]
      exact Or.inr ⟨rfl, rfl, by have := nlt_toInt h1; simpa using this, lt_toInt h2⟩
    · rw [if_neg h2, if_pos (Int32.le_iff_toInt_le.mpr (nlt_toInt h2))]; exact Or.inl ⟨rfl, rfl⟩
theorem x_nI {x : Int32} {N : Nat} (h0 : 0 ≤ x.toInt) (h1 : x.toInt < N) (hN : N < 2 ^ 31) : ∃ j, j < N ∧ x = nI j := by
  obtain ⟨j, hj, e, _⟩ := vin_nI (vin_of h0 h1) hN
  exact ⟨j, hj, e⟩
/-- methods -/
theorem meth {σ μ : St} (h : Rel σ μ) (x : Int32) : (M_m_isMethod μ x = 0 ∧ M_methodAt σ x = .error "java/lang/IndexOutOfBoundsException") ∨ ∃ j, j < 12 ∧ x = nI j ∧ (j : Int) < (gF μ 0 3).toInt ∧ M_m_isMethod μ x = 1 ∧ M_methodAt σ x = .ok j := by
  have hc := h.ct.1
  unfold M_m_isMethod M_methodAt
  rw [hc]
  rcases place σ x (gF μ 0 3) with ⟨a, b⟩ | ⟨a, b, c, d⟩
  · rw [b]; exact Or.inl ⟨a, rfl⟩
  · rw [b]
    have := h.im.2.1.2
    obtain ⟨j, hj, rfl⟩ := x_nI (N := 12) c (by omega) (by decide)
    refine Or.inr ⟨j, hj, rfl, by rw [nI_toInt (by omega)] at d; exact d, a, ?_⟩
    rw [xb_ok, nI_clamp (by omega)]
theorem obj {σ μ : St} (h : Rel σ μ) (x : Int32) : (M_m_isObject μ x = 0 ∧ M_pieceAt σ x = .error "java/lang/IndexOutOfBoundsException") ∨ ∃ j, j < 10 ∧ x = nI j ∧ (j : Int) < (gF μ 0 10).toInt ∧ M_m_isObject μ x = 1 ∧ M_pieceAt σ x = .ok j := by
  have hc := h.ct.2
  unfold M_m_isObject M_pieceAt
  rw [hc]
  rcases place σ x (gF μ 0 10) with ⟨a, b⟩ | ⟨a, b, c, d⟩
  · rw [b]; exact Or.inl ⟨a, rfl⟩
  · rw [b]
    have := h.im.2.2.1.2
    obtain ⟨j, hj, rfl⟩ := x_nI (N := 10) c (by omega) (by decide)
    refine Or.inr ⟨j, hj, rfl, by rw [nI_toInt (by omega)] at d; exact d, a, ?_⟩
    rw [xb_ok, nI_clamp (by omega)]
theorem good {σ : St} (x : Int32) : (M_m_below x 12 = 0 ∧ M_goodAt σ x = .error "java/lang/IndexOutOfBoundsException") ∨ ∃ j, j < 12 ∧ x = nI j ∧ M_m_below x 12 = 1 ∧ M_goodAt σ x = .ok j := by
  unfold M_goodAt
  rcases place σ x 12 with ⟨a, b⟩ | ⟨a, b, c, d⟩
  · rw [b]; exact Or.inl ⟨a, rfl⟩
  · rw [b]
    obtain ⟨j, hj, rfl⟩ := x_nI (N := 12) c (by rw [show (12 : Int32).toInt = 12 by decide] at d; exact d) (by decide)
    refine Or.inr ⟨j, hj, rfl, a, ?_⟩
    rw [xb_ok, nI_clamp (by omega)]
theorem plc {σ : St} {N : Nat} (x : Int32) (hN : N < 2 ^ 31) : (M_m_below x (nI N) = 0 ∧ M_checkPlace σ x (nI N) = .error "java/lang/IndexOutOfBoundsException") ∨ ∃ j, j < N ∧ x = nI j ∧ M_m_below x (nI N) = 1 ∧ M_checkPlace σ x (nI N) = .ok () := by
  rcases place σ x (nI N) with ⟨a, b⟩ | ⟨a, b, c, d⟩
  · exact Or.inl ⟨a, b⟩
  · obtain ⟨j, hj, rfl⟩ := x_nI (N := N) c (by rw [nI_toInt hN] at d; exact d) hN
    exact Or.inr ⟨j, hj, rfl, a, b⟩
theorem Rel.fM {σ σ' μ μ' : St} (h : Rel σ μ) (hs : ∀ i, 4 ≤ i → i < 40 → same σ σ' i) (hm : ∀ p, 2 ≤ p → p ≤ 7 → gA μ' p = gA μ p) (hc : gF μ' 0 3 = gF μ 0 3) : ∀ m, m < 12 → RMe σ' μ' m := fun m hm1 => by
  have e : pMe m = 4 + 3 * m := rfl
  exact RMe.fr (hs _ (by omega) (by omega)) (hs _ (by omega) (by omega)) (hs _ (by omega) (by omega)) hm hc (h.me hm1)
theorem Rel.fP {σ σ' μ μ' : St} (h : Rel σ μ) (hs : ∀ i, 41 ≤ i → i < 81 → same σ σ' i) (hm : ∀ p, 8 ≤ p → p ≤ 14 → gA μ' p = gA μ p) : ∀ o, o < 10 → RPi σ' μ' o := fun o ho => by
  have e : pPi o = 41 + 4 * o := rfl
  exact RPi.fr (hs _ (by omega) (by omega)) (hs _ (by omega) (by omega)) (hs _ (by omega) (by omega)) (hs _ (by omega) (by omega)) hm (h.pi ho)
theorem Rel.fG {σ σ' μ μ' : St} (h : Rel σ μ) (hs : ∀ i, 82 ≤ i → i < 94 → same σ σ' i) (hm : ∀ p, 15 ≤ p → p ≤ 19 → gA μ' p = gA μ p) (h16 : gL μ' 16 = gL μ 16) (h17 : gL μ' 17 = gL μ 17) : ∀ g, g < 12 → RGo σ' μ' g := fun g hg => by
  have e : pGo g = 82 + g := rfl
  exact RGo.fr (hs _ (by omega) (by omega)) hm h16 h17 (h.go hg)
theorem IB.k {σ σ' : St} (h : IB σ) (h1 : same σ σ' 1) (h0 : ∀ j, 6 ≤ j → gF σ' 0 j = gF σ 0 j) (hp : ∀ i, i < 10 → gF σ' (pPi i) 3 = gF σ (pPi i) 3 ∧ gF σ' (pPi i) 4 = gF σ (pPi i) 4) : IB σ' := by
  unfold IB IP at h ⊢
  rw [h1.1 1, h1.1 2, h0 6 (by decide), h0 7 (by decide), h0 8 (by decide)]
  refine ⟨h.1, h.2.1, h.2.2.1, h.2.2.2.1, fun i hi => ?_⟩
  rw [(hp i hi).1, (hp i hi).2]
  exact h.2.2.2.2 i hi

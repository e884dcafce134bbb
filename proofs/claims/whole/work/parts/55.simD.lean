/-! rights, trials, parts, rows -/
theorem bt_w {q : Int32} (x : Int32) (hq : q = 0 ∨ q = 1) {k j : Nat} (hk : k < 32) (hj : j < 32) : bt (M_with x (nI k) q) j = if j = k then decide (q = 1) else bt x j := by
  rcases hq with rfl | rfl
  · rw [bt_w0 _ hk hj]
    by_cases h : j = k
    · simp [h]
    · simp [h]
  · rw [bt_w1 _ hk hj]
    by_cases h : j = k
    · simp [h]
    · simp [h]
theorem Rel.meths {σ σ' μ μ' : St} (hR : Rel σ μ) (hs : ∀ i, i < 4 ∨ 40 ≤ i → same σ σ' i) (h6 : ∀ m, m < 12 → ∀ j, j ≤ 6 → gF σ' (pMe m) j = gF σ (pMe m) j) (hA : gA σ' = gA σ) (hm : ∀ p, p ≠ 6 → p ≠ 7 → gA μ' p = gA μ p) (hL : gL μ' = gL μ) (hf : ∀ k, gF μ' 0 k = gF μ 0 k) (hI : IM μ') (hM : ∀ m, m < 12 → RMr σ' μ' m) : Rel σ' μ' := by
  refine ⟨⟨hR.ib.kp (fun i a => hs i (by omega)) (fun i hi => ?_), hI⟩, hR.f0 (hs 0 (by decide)) hf, hR.fd (hs 1 (by decide)) (hs 2 (by decide)) hf (hm 1 (by decide) (by decide)), fun m hm1 => ⟨hM m hm1, fun hl => ?_⟩, hR.fP (fun i a b => hs i (by omega)) (fun p a b => hm p (by omega) (by omega)), hR.fG (fun i a b => hs i (by omega)) (fun p a b => hm p (by omega) (by omega)) (by rw [hL]) (by rw [hL]), hR.fl (hs 0 (by decide)) (hs 94 (by decide)) hf (hm 20 (by decide) (by decide))⟩
  · have e : pPi i = 41 + 4 * i := rfl
    have := hs (pPi i) (by omega)
    exact ⟨this.1 3, this.1 4⟩
  · rw [hf 3] at hl
    have e : CL μ' m (nm μ' m) = CL μ m (nm μ m) := by
      rw [CL_eq (fun p a b => hm p (by omega) (by omega))]
      unfold nm
      rw [hm 2 (by decide) (by decide)]
    rw [e]
    exact FR.fr (h6 m hm1) (by rw [hA]) (by rw [hA]) ((hR.me hm1).2 hl)
theorem q01 (p : Int32) : (if p = 0 then (0 : Int32) else 1) = 0 ∨ (if p = 0 then (0 : Int32) else 1) = 1 := by
  split
  · exact Or.inl rfl
  · exact Or.inr rfl
theorem b01_dec {x : Int32} (h : b01 x) : (if decide (x = 1) then (1 : Int32) else 0) = x := by
  rcases h with rfl | rfl <;> rfl
theorem sim_right : S_right Rel := by
  intro σ μ p1 p2 p3 hR
  generalize hq : (if p3 = 0 then (0 : Int32) else 1) = q
  have hq : q = 0 ∨ q = 1 := by rw [← hq]; exact q01 p3
  have h0 : Rel σ (sF μ 0 0 0) := hR.k0
  rcases plc (σ := σ) (N := 8) p1 (by decide) with ⟨a, b⟩ | ⟨i, hi, rfl, a, b⟩
  · have hB : M_right σ p1 p2 q = .error "java/lang/IndexOutOfBoundsException" := by unfold M_right; rw [show (8 : Int32) = nI 8 from rfl, b]; rfl
    have hM : M_m_right μ p1 p2 q = (0, sF μ 0 0 1) := by unfold M_m_right; simp only [vb_eq]; rw [show (8 : Int32) = nI 8 from rfl, a, if_pos rfl, goes_1 rfl, pb_mk, if_pos rfl]
    rw [hB, hM]; exact ⟨rfl, hR.k0⟩
  rcases meth hR p2 with ⟨a2, b2⟩ | ⟨j, hj, rfl, hlt, a2, b2⟩
  · have hB : M_right σ (nI i) p2 q = .error "java/lang/IndexOutOfBoundsException" := by unfold M_right; rw [show (8 : Int32) = nI 8 from rfl, b, xb_ok, b2]; rfl
    have hM : M_m_right μ (nI i) p2 q = (0, sF μ 0 0 1) := by unfold M_m_right; simp only [vb_eq]; rw [show (8 : Int32) = nI 8 from rfl, a, if_neg (show ¬ (1 : Int32) = 0 by decide), a2, if_pos rfl, goes_1 rfl, pb_mk, if_pos rfl]
    rw [hB, hM]; exact ⟨rfl, hR.k0⟩
  obtain ⟨⟨r1, r2, r3⟩, -⟩ := h0.me hj
  have hB : M_right σ (nI i) (nI j) q = if gA μ 7 (12 * i + j) = q then .ok (0, sF σ (pMe j) 7 (M_with (gF σ (pMe j) 7) (nI i) q)) else .ok (1, sF σ (pMe j) 7 (M_with (gF σ (pMe j) 7) (nI i) q)) := by
    unfold M_right
    rw [show (8 : Int32) = nI 8 from rfl, b, xb_ok, b2, xb_ok, has_bt _ (by omega), r1 i hi, b01_dec (r2 i hi)]
    rfl
  have hM : M_m_right μ (nI i) (nI j) q = if gA μ 7 (12 * i + j) = q then (0, sA (sF μ 0 0 0) 7 (12 * i + j) q) else (1, sA (sF μ 0 0 0) 7 (12 * i + j) q) := by
    unfold M_m_right
    simp only [vb_eq]
    rw [show (8 : Int32) = nI 8 from rfl, a, if_neg (show ¬ (1 : Int32) = 0 by decide), a2, if_neg (show ¬ (1 : Int32) = 0 by decide), goes_0 (by decide) (by decide) (by decide), pb_mk, if_neg (show ¬ (1 : Int32) = 0 by decide), ixN (k := 12) (K := 12) (a := i) (b := j) rfl (by omega), gA_sF]
    split <;> rfl
  have ej : pMe j = 4 + 3 * j := rfl
  have main : Rel (sF σ (pMe j) 7 (M_with (gF σ (pMe j) 7) (nI i) q)) (sA (sF μ 0 0 0) 7 (12 * i + j) q) := by
    refine h0.meths (fun k hk => same_sF (by omega)) (fun m hm k hk => gF_nj (by omega)) rfl (fun p _ hp => gA_ne hp) rfl (fun _ => rfl) (h0.im.kA (by decide) (by decide) (by decide) (by decide) (by decide)) (fun m hm => ?_)
    obtain ⟨⟨s1, s2, s3⟩, -⟩ := h0.me hm
    have em : pMe m = 4 + 3 * m := rfl
    refine ⟨fun p hp => ?_, fun p hp => ?_, fun z hz => ?_⟩
    · by_cases q1 : m = j
      · subst q1
        rw [gF_s, bt_w _ hq (by omega) (by omega)]
        by_cases q2 : p = i
        · subst q2; rw [if_pos rfl, gA_s]
        · rw [if_neg q2, gA_nj (by omega)]; exact s1 p hp
      · rw [gF_np (by omega), gA_nj (by omega)]; exact s1 p hp
    · by_cases q1 : 12 * p + m = 12 * i + j
      · rw [q1, gA_s]; exact hq
      · rw [gA_nj q1]; exact s2 p hp
    · rw [gF_nj (by decide), gA_np (by decide)]; exact s3 z hz
  rw [hB, hM]
  by_cases c : gA μ 7 (12 * i + j) = q
  · rw [if_pos c, if_pos c]; exact ⟨rfl, rfl, main⟩
  · rw [if_neg c, if_neg c]; exact ⟨rfl, rfl, main⟩
theorem IM.k6 {μ : St} {j : Nat} {v : Int32} (h : IM μ) (hv : v = 0 ∨ v = 1) : IM (sA μ 6 j v) := by
  unfold IM at h ⊢
  simp only [gF_sA, gA_sA]
  refine ⟨h.1, h.2.1, h.2.2.1, h.2.2.2.1, h.2.2.2.2.1, h.2.2.2.2.2.1, fun k => ?_, h.2.2.2.2.2.2.2⟩
  split
  · exact hv
  · exact h.2.2.2.2.2.2.1 k
theorem sim_trial : S_trial Rel := by
  intro σ μ p1 p2 p3 hR
  generalize hq : (if p3 = 0 then (0 : Int32) else 1) = q
  have hq : q = 0 ∨ q = 1 := by rw [← hq]; exact q01 p3
  have h0 : Rel σ (sF μ 0 0 0) := hR.k0
  rcases meth hR p1 with ⟨a, b⟩ | ⟨i, hi, rfl, hlt, a, b⟩
  · have hB : M_trial σ p1 p2 q = .error "java/lang/IndexOutOfBoundsException" := by unfold M_trial; rw [b]; rfl
    have hM : M_m_trial μ p1 p2 q = (0, sF μ 0 0 1) := by unfold M_m_trial; simp only [vb_eq]; rw [a, if_pos rfl, goes_1 rfl, pb_mk, if_pos rfl]
    rw [hB, hM]; exact ⟨rfl, hR.k0⟩
  rcases plc (σ := σ) (N := 10) p2 (by decide) with ⟨a2, b2⟩ | ⟨j, hj, rfl, a2, b2⟩
  · have hB : M_trial σ (nI i) p2 q = .error "java/lang/IndexOutOfBoundsException" := by unfold M_trial; rw [b, xb_ok, show (10 : Int32) = nI 10 from rfl, b2]; rfl
    have hM : M_m_trial μ (nI i) p2 q = (0, sF μ 0 0 1) := by unfold M_m_trial; simp only [vb_eq]; rw [a, if_neg (show ¬ (1 : Int32) = 0 by decide), show M_m_below p2 10 = 0 from a2, if_pos rfl, goes_1 rfl, pb_mk, if_pos rfl]
    rw [hB, hM]; exact ⟨rfl, hR.k0⟩
  obtain ⟨⟨r1, r2, r3⟩, -⟩ := h0.me hi
  have hB : M_trial σ (nI i) (nI j) q = .ok (gA μ 6 (10 * i + j), sF σ (pMe i) 8 (M_with (gF σ (pMe i) 8) (nI j) q)) := by
    unfold M_trial
    rw [b, xb_ok, show (10 : Int32) = nI 10 from rfl, b2, xb_ok, has_bt _ (by omega), r3 j hj, b01_dec (h0.im.2.2.2.2.2.2.1 _)]
    rfl
  have hM : M_m_trial μ (nI i) (nI j) q = (gA μ 6 (10 * i + j), sA (sF μ 0 0 0) 6 (10 * i + j) q) := by
    unfold M_m_trial
    simp only [vb_eq]
    rw [a, if_neg (show ¬ (1 : Int32) = 0 by decide), show M_m_below (nI j) 10 = 1 from a2, if_neg (show ¬ (1 : Int32) = 0 by decide), goes_0 (by decide) (by decide) (by decide), pb_mk, if_neg (show ¬ (1 : Int32) = 0 by decide), ixN (k := 10) (K := 10) (a := i) (b := j) rfl (by omega), gA_sF]
  have ei : pMe i = 4 + 3 * i := rfl
  rw [hB, hM]
  refine ⟨rfl, rfl, ?_⟩
  refine h0.meths (fun k hk => same_sF (by omega)) (fun m hm k hk => gF_nj (by omega)) rfl (fun p hp _ => gA_ne hp) rfl (fun _ => rfl) (h0.im.k6 hq) (fun m hm => ?_)
  obtain ⟨⟨s1, s2, s3⟩, -⟩ := h0.me hm
  have em : pMe m = 4 + 3 * m := rfl
  refine ⟨fun p hp => ?_, fun p hp => ?_, fun z hz => ?_⟩
  · rw [gF_nj (by decide), gA_np (by decide)]; exact s1 p hp
  · rw [gA_np (by decide)]; exact s2 p hp
  · by_cases q1 : m = i
    · subst q1
      rw [gF_s, bt_w _ hq (by omega) (by omega)]
      by_cases q2 : z = j
      · subst q2; rw [if_pos rfl, gA_s]
      · rw [if_neg q2, gA_nj (by omega)]; exact s3 z hz
    · rw [gF_np (by omega), gA_nj (by omega)]; exact s3 z hz
/-- an object changes, on both sides -/
theorem Rel.piece {σ σ' μ μ' : St} {j : Nat} (hR : Rel σ μ) (hs : ∀ i, i < 41 ∨ 81 ≤ i → same σ σ' i) (hm : ∀ p, p < 8 ∨ 15 ≤ p → gA μ' p = gA μ p) (hL : gL μ' = gL μ) (hf : ∀ k, gF μ' 0 k = gF μ 0 k) (hI : IM μ') (hP : ∀ o, o < 10 → RPi σ' μ' o) (hB : IB σ') : Rel σ' μ' :=
  ⟨⟨hB, hI⟩, hR.f0 (hs 0 (by decide)) hf, hR.fd (hs 1 (by decide)) (hs 2 (by decide)) hf (hm 1 (by decide)), hR.fM (fun i a b => hs i (by omega)) (fun p a b => hm p (by omega)) (hf 3), hP, hR.fG (fun i a b => hs i (by omega)) (fun p a b => hm p (by omega)) (by rw [hL]) (by rw [hL]), hR.fl (hs 0 (by decide)) (hs 94 (by decide)) hf (hm 20 (by decide))⟩
theorem anyP_snoc {μ μ' : St} {o n : Nat} {v z : Int32} (h : ∀ k, k < n → gA μ' 9 (8 * o + k) = gA μ 9 (8 * o + k)) (hv : gA μ' 9 (8 * o + n) = v) : anyP μ' o (n + 1) z = (anyP μ o n z || decide (v = z)) := by
  unfold anyP
  rw [List.range_succ, List.any_append]
  congr 1
  · rw [Bool.eq_iff_iff]
    simp only [List.any_eq_true, List.mem_range]
    constructor
    · rintro ⟨k, hk, e⟩; exact ⟨k, hk, by rw [← h k hk]; exact e⟩
    · rintro ⟨k, hk, e⟩; exact ⟨k, hk, by rw [h k hk]; exact e⟩
  · simp [hv]
theorem RPa.ix {σ σ' μ μ' : St} {o : Nat} (h3 : gF σ' (pPi o) 3 = gF σ (pPi o) 3) (h5 : gF σ' (pPi o) 5 = gF σ (pPi o) 5) (s1 : gA σ' (pPi o + 1) = gA σ (pPi o + 1)) (e8 : gA μ' 8 o = gA μ 8 o) (e9 : ∀ k, k < 8 → gA μ' 9 (8 * o + k) = gA μ 9 (8 * o + k)) (hn : np μ o ≤ 8) (h : RPa σ μ o) : RPa σ' μ' o := by
  have en : np μ' o = np μ o := by unfold np; rw [e8]
  have ea : ∀ z, anyP μ' o (np μ o) z = anyP μ o (np μ o) z := fun z => by
    unfold anyP
    rw [Bool.eq_iff_iff]
    simp only [List.any_eq_true, List.mem_range]
    constructor
    · rintro ⟨k, hk, e⟩; exact ⟨k, hk, by rw [← e9 k (by omega)]; exact e⟩
    · rintro ⟨k, hk, e⟩; exact ⟨k, hk, by rw [e9 k (by omega)]; exact e⟩
  obtain ⟨a1, a2, a3, a4, a5⟩ := h
  refine ⟨by rw [h3, e8]; exact a1, fun k hk => by rw [s1, e9 k hk]; exact a2 k hk, fun k hk => ?_, fun z hz => ?_, fun z hz => by rw [h5]; exact a5 z hz⟩
  · rw [en] at hk; rw [e9 k (by omega)]; exact a3 k hk
  · rw [h5, en, ea]; exact a4 z hz
theorem np_le {μ : St} (h : IM μ) {o : Nat} (ho : o < 10) : np μ o ≤ 8 ∧ (gA μ 8 o) = nI (np μ o) := by
  obtain ⟨a, b⟩ := h.parts ho
  obtain ⟨j, hj, e⟩ := x_nI (N := 9) a (by omega) (by decide)
  unfold np
  rw [e, nI_clamp (by omega)]
  exact ⟨by omega, rfl⟩
theorem nr_le {μ : St} (h : IM μ) {o : Nat} (ho : o < 10) : nr μ o ≤ 30 ∧ (gA μ 10 o) = nI (nr μ o) := by
  obtain ⟨a, b⟩ := h.rows ho
  obtain ⟨j, hj, e⟩ := x_nI (N := 31) a (by omega) (by decide)
  unfold nr
  rw [e, nI_clamp (by omega)]
  exact ⟨by omega, rfl⟩
theorem nm_le {μ : St} (h : IM μ) {o : Nat} (ho : o < 12) : nm μ o ≤ 10 ∧ (gA μ 2 o) = nI (nm μ o) := by
  obtain ⟨a, b⟩ := h.many ho
  obtain ⟨j, hj, e⟩ := x_nI (N := 11) a (by omega) (by decide)
  unfold nm
  rw [e, nI_clamp (by omega)]
  exact ⟨by omega, rfl⟩
theorem IM.k9 {μ : St} {j : Nat} {v : Int32} (h : IM μ) : IM (sA μ 9 j v) := h.kA (by decide) (by decide) (by decide) (by decide) (by decide)
theorem IM.k8 {μ : St} {j : Nat} {v : Int32} (h : IM μ) (h0 : 0 ≤ v.toInt) (h1 : v.toInt ≤ 8) : IM (sA μ 8 j v) := by
  unfold IM at h ⊢
  simp only [gF_sA, gA_sA]
  refine ⟨h.1, h.2.1, h.2.2.1, h.2.2.2.1, h.2.2.2.2.1, fun o ho => ⟨?_, (h.2.2.2.2.2.1 o ho).2⟩, h.2.2.2.2.2.2.1, h.2.2.2.2.2.2.2⟩
  split
  · exact ⟨h0, h1⟩
  · exact (h.2.2.2.2.2.1 o ho).1
theorem nI_p1 (a : Nat) : nI a + 1 = nI (a + 1) := nI_add a 1
theorem dec_nI {a b : Nat} (ha : a < 2 ^ 31) (hb : b < 2 ^ 31) : decide (a = b) = decide (nI b = nI a) := by
  rw [decide_eq_decide]
  constructor
  · intro h; rw [h]
  · intro h; exact ((nI_eq hb ha).mp h).symm
theorem sim_part : S_part Rel := by
  intro σ μ p1 p2 hR
  have h0 : Rel σ (sF μ 0 0 0) := hR.k0
  rcases obj hR p1 with ⟨a, b⟩ | ⟨j, hj, rfl, hlt, a, b⟩
  · have hB : M_part σ p1 p2 = .error "java/lang/IndexOutOfBoundsException" := by unfold M_part; rw [b]; rfl
    have hM : M_m_part μ p1 p2 = (0, sF μ 0 0 1) := by unfold M_m_part; simp only [vb_eq]; rw [a, if_pos rfl, goes_1 rfl, pb_mk, if_pos rfl]
    rw [hB, hM]; exact ⟨rfl, hR.k0⟩
  rcases plc (σ := σ) (N := 10) p2 (by decide) with ⟨a2, b2⟩ | ⟨z0, hz0, rfl, a2, b2⟩
  · have hB : M_part σ (nI j) p2 = .error "java/lang/IndexOutOfBoundsException" := by unfold M_part; rw [b, xb_ok, show (10 : Int32) = nI 10 from rfl, b2]; rfl
    have hM : M_m_part μ (nI j) p2 = (0, sF μ 0 0 1) := by unfold M_m_part; simp only [vb_eq]; rw [a, if_neg (show ¬ (1 : Int32) = 0 by decide), show M_m_below p2 10 = 0 from a2, if_pos rfl, goes_1 rfl, pb_mk, if_pos rfl]
    rw [hB, hM]; exact ⟨rfl, hR.k0⟩
  obtain ⟨hn8, en⟩ := np_le h0.im hj
  obtain ⟨r1, r2, r3, r4, r5⟩ := (h0.pi hj).1
  rw [en] at r1
  have en' : gA μ 8 j = nI (np (sF μ 0 0 0) j) := en
  generalize hn : np (sF μ 0 0 0) j = n at hn8 en r1 r3 r4 en'
  have hc : (nI j).toNatClampNeg = j := nI_clamp (by omega)
  have hcn : (nI n).toNatClampNeg = n := nI_clamp (by omega)
  by_cases c : n < 8
  · have c1 : nI n < 8 := Int32.lt_iff_toInt_lt.mpr (by rw [nI_toInt (by omega), show (8 : Int32).toInt = 8 by decide]; omega)
    have c2 : ¬ (8 : Int32) ≤ nI n := nI_lt' (b := 8) c (by decide)
    have hB : M_part σ (nI j) (nI z0) = .ok (nI n + 1 - 1, sF (sF (sA σ (pPi j + 1) n (nI z0)) (pPi j) 3 (nI (n + 1))) (pPi j) 5 (M_with (gF σ (pPi j) 5) (nI z0) 1)) := by
      unfold M_part M_addPart
      rw [b, xb_ok, show (10 : Int32) = nI 10 from rfl, b2, xb_ok, r1, if_pos c1, pb_mk, hcn]
      rw [gF_nj (b := 3) (by decide), gF_s, gF_nj (b := 5) (by decide), gF_sA, gF_sA, r1, nI_p1]
    have hM : M_m_part μ (nI j) (nI z0) = (nI n + 1 - 1, sA (sA (sF μ 0 0 0) 9 (8 * j + n) (nI z0)) 8 j (nI (n + 1))) := by
      unfold M_m_part
      simp only [vb_eq]
      rw [a, if_neg (show ¬ (1 : Int32) = 0 by decide), show M_m_below (nI z0) 10 = 1 from a2, if_neg (show ¬ (1 : Int32) = 0 by decide), if_neg (show ¬ (1 : Int32) = 0 by decide), hc, en', if_neg c2, goes_0 (by decide) (by decide) (by decide), pb_mk, if_neg (show ¬ (1 : Int32) = 0 by decide), en, ixN (k := 8) (K := 8) (a := j) (b := n) rfl (by omega), gA_s, gA_np (by decide), en, nI_p1]
    rw [hB, hM]
    refine ⟨rfl, rfl, ?_⟩
    have ej : pPi j = 41 + 4 * j := rfl
    have t1 : (nI (n + 1)).toInt = n + 1 := by rw [nI_toInt (by omega)]; omega
    refine h0.piece (j := j) (fun i hi => ((same.rf.A (by omega)).F (by omega)).F (by omega)) (fun p hp => (gA_ne (by omega)).trans (gA_ne (by omega))) rfl (fun _ => rfl) (h0.im.k9.k8 (by rw [t1]; omega) (by rw [t1]; omega)) (fun o ho => ?_) ?_
    · have eo : pPi o = 41 + 4 * o := rfl
      by_cases q : o = j
      · subst q
        refine ⟨?_, ?_⟩
        · have en2 : np (sA (sA (sF μ 0 0 0) 9 (8 * o + n) (nI z0)) 8 o (nI (n + 1))) o = n + 1 := by
            unfold np; rw [gA_s, nI_clamp (by omega)]
          refine ⟨by rw [gF_nj (by decide), gF_s, gA_s], fun k hk => ?_, fun k hk => ?_, fun z hz => ?_, fun z hz => ?_⟩
          · rw [gA_sF, gA_sF, gA_np (p := 8) (by decide)]
            by_cases q2 : k = n
            · rw [q2, gA_s, gA_s]
            · rw [gA_nj q2, gA_nj (by omega)]; exact r2 k hk
          · rw [en2] at hk
            rw [gA_np (by decide)]
            by_cases q2 : k = n
            · rw [q2, gA_s]; exact vp_in_nI hz0 (by decide)
            · rw [gA_nj (by omega)]; exact r3 k (by omega)
          · rw [gF_s, bt_w1 _ (by omega) (by omega), en2, anyP_snoc (μ := sF μ 0 0 0) (v := nI z0) (fun k hk => by rw [gA_np (by decide), gA_nj (by omega)]) (by rw [gA_np (by decide), gA_s]), r4 z hz]
            rw [dec_nI (a := z) (b := z0) (by omega) (by omega)]
          · rw [gF_s]
            rcases Nat.lt_or_ge z 32 with h32 | h32
            · rw [bt_w1 _ (by omega) h32, r5 z hz]
              have : z ≠ z0 := by omega
              simp [this]
            · exact bt_big h32
        · exact RRo.fr (by rw [gF_nj (by decide), gF_nj (by decide), gF_sA]) (by rw [gF_nj (by decide), gF_nj (by decide), gF_sA]) (by rw [gF_nj (by decide), gF_nj (by decide), gF_sA]) (by rw [show gA (sF (sF (sA σ (pPi o + 1) n (nI z0)) (pPi o) 3 (nI (n + 1))) (pPi o) 5 (M_with (gF σ (pPi o) 5) (nI z0) 1)) = gA (sA σ (pPi o + 1) n (nI z0)) from rfl, gA_ne (by omega)]) (by rw [show gA (sF (sF (sA σ (pPi o + 1) n (nI z0)) (pPi o) 3 (nI (n + 1))) (pPi o) 5 (M_with (gF σ (pPi o) 5) (nI z0) 1)) = gA (sA σ (pPi o + 1) n (nI z0)) from rfl, gA_ne (by omega)]) (fun p h1 h2 => (gA_ne (by omega)).trans (gA_ne (by omega))) (h0.pi ho).2
      · have so : ∀ d, d < 4 → same σ (sF (sF (sA σ (pPi j + 1) n (nI z0)) (pPi j) 3 (nI (n + 1))) (pPi j) 5 (M_with (gF σ (pPi j) 5) (nI z0) 1)) (pPi o + d) := fun d hd => ((same.rf.A (by omega)).F (by omega)).F (by omega)
        refine ⟨RPa.ix ((so 0 (by decide)).1 3) ((so 0 (by decide)).1 5) (so 1 (by decide)).2.2 (by rw [gA_nj q, gA_np (by decide)]) (fun k hk => by rw [gA_np (by decide), gA_nj (by omega)]) (np_le h0.im ho).1 (h0.pi ho).1, RRo.fr ((so 0 (by decide)).1 4) ((so 0 (by decide)).1 6) ((so 0 (by decide)).1 7) (so 2 (by decide)).2.2 (so 3 (by decide)).2.2 (fun p h1 h2 => (gA_ne (by omega)).trans (gA_ne (by omega))) (h0.pi ho).2⟩
    · have hb := hR.ib
      refine ⟨hb.1.kA.kF (by omega) |>.kF (by omega), ?_, ?_, ?_, fun i hi => ?_⟩
      · rw [gF_np (by omega), gF_np (by omega)]; exact hb.2.1
      · rw [gF_np (by omega), gF_np (by omega)]; exact hb.2.2.1
      · rw [gF_np (by omega), gF_np (by omega)]; exact hb.2.2.2.1
      · have ei : pPi i = 41 + 4 * i := rfl
        rw [gF_nj (b := 3) (by decide), gF_nj (b := 4) (by decide), gF_nj (b := 4) (by decide)]
        by_cases q : i = j
        · subst q
          rw [gF_s, t1]
          exact ⟨⟨by omega, by omega⟩, (hb.2.2.2.2 i hi).2⟩
        · rw [gF_np (by omega)]; exact hb.2.2.2.2 i hi
  · have e8 : n = 8 := by omega
    have hB : M_part σ (nI j) (nI z0) = .error "java/lang/IllegalStateException" := by
      unfold M_part
      rw [b, xb_ok, show (10 : Int32) = nI 10 from rfl, b2, xb_ok, r1, e8, if_neg (by decide)]
    have hM : M_m_part μ (nI j) (nI z0) = (0, sF μ 0 0 2) := by
      unfold M_m_part
      simp only [vb_eq]
      rw [a, if_neg (show ¬ (1 : Int32) = 0 by decide), show M_m_below (nI z0) 10 = 1 from a2, if_neg (show ¬ (1 : Int32) = 0 by decide), if_neg (show ¬ (1 : Int32) = 0 by decide), hc, en', e8, if_pos (show (8 : Int32) ≤ nI 8 by decide), goes_2 (by decide) rfl, pb_mk, if_pos rfl]
    rw [hB, hM]; exact ⟨rfl, hR.k0⟩

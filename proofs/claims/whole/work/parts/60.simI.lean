/-! a row more; done -/
theorem lat_snoc {μ μ' : St} {o n : Nat} {v h z : Int32} (h1 : ∀ k, k < n → gA μ' 11 (30 * o + k) = gA μ 11 (30 * o + k)) (h2 : ∀ k, k < n → gA μ' 12 (30 * o + k) = gA μ 12 (30 * o + k)) (hv : gA μ' 11 (30 * o + n) = v) (hh : gA μ' 12 (30 * o + n) = h) : lat μ' o (n + 1) z = if v = z then h else lat μ o n z := by
  unfold lat
  rw [List.range_succ, List.foldl_append, List.foldl_cons, List.foldl_nil, hv, hh]
  have e : ∀ (l : List Nat) (x : Int32), (∀ k ∈ l, k < n) → l.foldl (fun a k => if gA μ' 11 (30 * o + k) = z then gA μ' 12 (30 * o + k) else a) x = l.foldl (fun a k => if gA μ 11 (30 * o + k) = z then gA μ 12 (30 * o + k) else a) x := by
    intro l
    induction l with
    | nil => intro x _; rfl
    | cons k l ih =>
      intro x hl
      rw [List.foldl_cons, List.foldl_cons, h1 k (hl k List.mem_cons_self), h2 k (hl k List.mem_cons_self)]
      exact ih _ (fun q hq => hl q (List.mem_cons_of_mem _ hq))
  rw [e _ _ (fun k hk => List.mem_range.mp hk)]
theorem lat_ix {μ μ' : St} {o n : Nat} {z : Int32} (h1 : ∀ k, k < n → gA μ' 11 (30 * o + k) = gA μ 11 (30 * o + k)) (h2 : ∀ k, k < n → gA μ' 12 (30 * o + k) = gA μ 12 (30 * o + k)) : lat μ' o n z = lat μ o n z := by
  unfold lat
  have e : ∀ (l : List Nat) (x : Int32), (∀ k ∈ l, k < n) → l.foldl (fun a k => if gA μ' 11 (30 * o + k) = z then gA μ' 12 (30 * o + k) else a) x = l.foldl (fun a k => if gA μ 11 (30 * o + k) = z then gA μ 12 (30 * o + k) else a) x := by
    intro l
    induction l with
    | nil => intro x _; rfl
    | cons k l ih =>
      intro x hl
      rw [List.foldl_cons, List.foldl_cons, h1 k (hl k List.mem_cons_self), h2 k (hl k List.mem_cons_self)]
      exact ih _ (fun q hq => hl q (List.mem_cons_of_mem _ hq))
  exact e _ _ (fun k hk => List.mem_range.mp hk)
def addR (σ : St) (o n m : Nat) (h p s2 : Int32) : St := sF (sF (sA (sF (sA (sA (sA (sA σ (pPi o + 2) (4 * n) (nI m)) (pPi o + 2) (4 * n + 1) h) (pPi o + 2) (4 * n + 2) p) (pPi o + 2) (4 * n + 3) s2) (pPi o) 4 (nI (n + 1))) (pPi o + 3) m h) (pPi o) 7 h) (pPi o) 6 (M_with (gF σ (pPi o) 6) (nI m) 1)
theorem addRow_eq {σ : St} {o n m : Nat} {h p s2 : Int32} (hn : gF σ (pPi o) 4 = nI n) (hn30 : n < 30) (hm : m < 12) : M_addRow σ o (nI m) h p s2 = addR σ o n m h p s2 := by
  have e0 : (nI n * 4).toNatClampNeg = 4 * n := by rw [show (4 : Int32) = nI 4 from rfl, pk_mul n 4, nI_clamp (by omega)]; omega
  have e1 : ∀ d : Nat, d < 4 → (nI n * 4 + nI d).toNatClampNeg = 4 * n + d := fun d hd => by rw [show (4 : Int32) = nI 4 from rfl, pk_mul n 4, nI_add, nI_clamp (by omega)]; omega
  unfold M_addRow addR
  rw [hn, e0, show (nI n * 4 + 1).toNatClampNeg = 4 * n + 1 from e1 1 (by decide), show (nI n * 4 + 2).toNatClampNeg = 4 * n + 2 from e1 2 (by decide), show (nI n * 4 + 3).toNatClampNeg = 4 * n + 3 from e1 3 (by decide)]
  rw [show (nI m).toNatClampNeg = m from nI_clamp (by omega)]
  have e4 : gF (sA (sA (sA (sA σ (pPi o + 2) (4 * n) (nI m)) (pPi o + 2) (4 * n + 1) h) (pPi o + 2) (4 * n + 2) p) (pPi o + 2) (4 * n + 3) s2) (pPi o) 4 = nI n := hn
  rw [e4, nI_p1]
  rw [gF_nj (b := 6) (by decide), gF_sA, gF_nj (b := 6) (by decide)]
  rfl
theorem finS_A {τ : St} {k o : Nat} {m h p s2 : Int32} {q : Nat} (hq : q < 10 ∨ 15 ≤ q) : gA (finS τ k o m h p s2) q = gA τ q := by
  unfold finS
  rw [gA_ne (by omega), gA_ne (by omega), gA_ne (by omega), gA_ne (by omega), gA_ne (by omega)]
theorem Rel.row {σ μ : St} {o n m : Nat} {h p s2 : Int32} (hR : Rel σ μ) (ho : o < 10) (hn : nr μ o = n) (hn30 : n < 30) (hm : m < 12) (hh : 0 ≤ h.toInt ∧ h.toInt ≤ 1000000) : Rel (addR σ o n m h p s2) (finS μ (30 * o + n) o (nI m) h p s2) := by
  have eo : pPi o = 41 + 4 * o := rfl
  have e10 : gA μ 10 o = nI n := by rw [← hn]; exact (nr_le hR.im ho).2
  have fin10 : gA (finS μ (30 * o + n) o (nI m) h p s2) 10 o = nI (n + 1) := by
    unfold finS
    rw [gA_s, gA_np (by decide), gA_np (by decide), gA_np (by decide), gA_np (by decide), e10, nI_p1]
  have fin10' : ∀ q, q ≠ o → gA (finS μ (30 * o + n) o (nI m) h p s2) 10 q = gA μ 10 q := fun q hq => by
    unfold finS
    rw [gA_nj hq, gA_np (by decide), gA_np (by decide), gA_np (by decide), gA_np (by decide)]
  have f11 : ∀ q, gA (finS μ (30 * o + n) o (nI m) h p s2) 11 q = if q = 30 * o + n then nI m else gA μ 11 q := fun q => by
    unfold finS
    rw [gA_np (by decide), gA_np (by decide), gA_np (by decide), gA_np (by decide)]
    by_cases w : q = 30 * o + n
    · rw [if_pos w, w, gA_s]
    · rw [if_neg w, gA_nj w]
  have f12 : ∀ q, gA (finS μ (30 * o + n) o (nI m) h p s2) 12 q = if q = 30 * o + n then h else gA μ 12 q := fun q => by
    unfold finS
    rw [gA_np (by decide), gA_np (by decide), gA_np (by decide)]
    by_cases w : q = 30 * o + n
    · rw [if_pos w, w, gA_s]
    · rw [if_neg w, gA_nj w, gA_np (by decide)]
  have f13 : ∀ q, gA (finS μ (30 * o + n) o (nI m) h p s2) 13 q = if q = 30 * o + n then p else gA μ 13 q := fun q => by
    unfold finS
    rw [gA_np (by decide), gA_np (by decide)]
    by_cases w : q = 30 * o + n
    · rw [if_pos w, w, gA_s]
    · rw [if_neg w, gA_nj w, gA_np (by decide), gA_np (by decide)]
  have f14 : ∀ q, gA (finS μ (30 * o + n) o (nI m) h p s2) 14 q = if q = 30 * o + n then s2 else gA μ 14 q := fun q => by
    unfold finS
    rw [gA_np (by decide)]
    by_cases w : q = 30 * o + n
    · rw [if_pos w, w, gA_s]
    · rw [if_neg w, gA_nj w, gA_np (by decide), gA_np (by decide), gA_np (by decide)]
  have hsame : ∀ i, i ≠ pPi o → i ≠ pPi o + 2 → i ≠ pPi o + 3 → same σ (addR σ o n m h p s2) i := fun i h1 h2 h3 => (((((((same.rf.A h2).A h2).A h2).A h2).F h1).A h3).F h1).F h1
  have t1 : (nI (n + 1)).toInt = n + 1 := by rw [nI_toInt (by omega)]; omega
  have g4 : gF (addR σ o n m h p s2) (pPi o) 4 = nI (n + 1) := by
    unfold addR
    rw [gF_nj (by decide), gF_nj (by decide), gF_sA, gF_s]
  have gx : ∀ j, j ≠ 4 → j ≠ 6 → j ≠ 7 → gF (addR σ o n m h p s2) (pPi o) j = gF σ (pPi o) j := fun j a b c => by
    unfold addR
    rw [gF_nj b, gF_nj c, gF_sA, gF_nj a]; rfl
  refine hR.piece (j := o) (fun i hi => hsame i (by omega) (by omega) (by omega)) (fun q hq => finS_A (by omega)) rfl (fun _ => rfl) ?_ (fun q hq => ?_) ?_
  · have hI := hR.im
    unfold IM at hI ⊢
    refine ⟨hI.1, hI.2.1, hI.2.2.1, hI.2.2.2.1, fun j hj => ?_, fun j hj => ⟨?_, ?_⟩, fun k => ?_, fun k => ?_⟩
    · rw [finS_A (by omega)]; exact hI.2.2.2.2.1 j hj
    · rw [finS_A (by omega)]; exact (hI.2.2.2.2.2.1 j hj).1
    · by_cases w : j = o
      · subst w; rw [fin10, t1]; omega
      · rw [fin10' j w]; exact (hI.2.2.2.2.2.1 j hj).2
    · rw [finS_A (by omega)]; exact hI.2.2.2.2.2.2.1 k
    · rw [finS_A (by omega)]; exact hI.2.2.2.2.2.2.2 k
  · have eq : pPi q = 41 + 4 * q := rfl
    obtain ⟨r1, r2, r3, r4, r5, r6, r7⟩ := (hR.pi hq).2
    by_cases w : q = o
    · subst w
      refine ⟨RPa.fr (gx 3 (by decide) (by decide) (by decide)) (gx 5 (by decide) (by decide) (by decide)) (hsame _ (by omega) (by omega) (by omega)).2.2 (fun z a b => finS_A (by omega)) (hR.pi hq).1, ?_⟩
      have en' : nr (finS μ (30 * q + n) q (nI m) h p s2) q = n + 1 := by unfold nr; rw [fin10, nI_clamp (by omega)]
      have g6 : gF (addR σ q n m h p s2) (pPi q) 6 = M_with (gF σ (pPi q) 6) (nI m) 1 := by unfold addR; rw [gF_s]
      have g7 : gF (addR σ q n m h p s2) (pPi q) 7 = h := by unfold addR; rw [gF_nj (by decide), gF_s]
      have gl : ∀ z, gA (addR σ q n m h p s2) (pPi q + 3) z = if z = m then h else gA σ (pPi q + 3) z := fun z => by
        unfold addR
        rw [gA_sF, gA_sF]
        by_cases v : z = m
        · rw [if_pos v, v, gA_s]
        · rw [if_neg v, gA_nj v, gA_sF, gA_np (by omega), gA_np (by omega), gA_np (by omega), gA_np (by omega)]
      have gr : ∀ k, gA (addR σ q n m h p s2) (pPi q + 2) k = if k = 4 * n + 3 then s2 else if k = 4 * n + 2 then p else if k = 4 * n + 1 then h else if k = 4 * n then nI m else gA σ (pPi q + 2) k := fun k => by
        unfold addR
        rw [gA_sF, gA_sF, gA_np (by omega), gA_sF]
        by_cases v3 : k = 4 * n + 3
        · rw [if_pos v3, v3, gA_s]
        · rw [if_neg v3, gA_nj v3]
          by_cases v2 : k = 4 * n + 2
          · rw [if_pos v2, v2, gA_s]
          · rw [if_neg v2, gA_nj v2]
            by_cases v1 : k = 4 * n + 1
            · rw [if_pos v1, v1, gA_s]
            · rw [if_neg v1, gA_nj v1]
              by_cases v0 : k = 4 * n
              · rw [if_pos v0, v0, gA_s]
              · rw [if_neg v0, gA_nj v0]
      refine ⟨by rw [g4, fin10], fun k hk => ?_, fun z hz => ?_, fun z hz hb => ?_, fun z hz => ?_, ?_, ?_⟩
      · rw [f11, f12, f13, f14, gr, gr, gr, gr]
        obtain ⟨v0, v1, v2, v3⟩ := r2 k hk
        by_cases v : k = n
        · subst v
          rw [if_neg (by omega), if_neg (by omega), if_neg (by omega), if_pos rfl, if_pos rfl, if_neg (by omega), if_neg (by omega), if_pos rfl, if_pos rfl, if_neg (by omega), if_pos rfl, if_pos rfl, if_pos rfl, if_pos rfl]
          exact ⟨rfl, rfl, rfl, rfl⟩
        · have w1 : ¬ 30 * q + k = 30 * q + n := by omega
          rw [if_neg w1, if_neg w1, if_neg w1, if_neg w1]
          refine ⟨?_, ?_, ?_, ?_⟩
          · rw [if_neg (by omega), if_neg (by omega), if_neg (by omega), if_neg (by omega)]; exact v0
          · rw [if_neg (by omega), if_neg (by omega), if_neg (by omega), if_neg (by omega)]; exact v1
          · rw [if_neg (by omega), if_neg (by omega), if_neg (by omega), if_neg (by omega)]; exact v2
          · rw [if_neg (by omega), if_neg (by omega), if_neg (by omega), if_neg (by omega)]; exact v3
      · rw [en', lat_snoc (μ := μ) (v := nI m) (h := h) (fun k hk => by rw [f11, if_neg (by omega)]) (fun k hk => by rw [f12, if_neg (by omega)]) (by rw [f11, if_pos rfl]) (by rw [f12, if_pos rfl]), g6, bt_w1 _ (by omega) (by omega), gl, ← hn, r3 z hz]
        by_cases v : z = m
        · subst v; simp
        · have v2 : ¬ nI m = nI z := fun e => v ((nI_eq (by omega) (by omega)).mp e).symm
          simp [v, v2]
      · rw [gl]
        by_cases v : z = m
        · rw [if_pos v]; exact hh
        · rw [if_neg v]
          rw [g6, bt_w1 _ (by omega) (by omega)] at hb
          simp [v] at hb
          exact r4 z hz hb
      · rw [g6]
        rcases Nat.lt_or_ge z 32 with h32 | h32
        · rw [bt_w1 _ (by omega) h32, r5 z hz]
          have : z ≠ m := by omega
          simp [this]
        · exact bt_big h32
      · rw [g7, en', if_neg (by omega), f12, Nat.add_sub_cancel, if_pos rfl]
      · rw [g7]; exact hh.1
    · have so : ∀ d, d < 4 → same σ (addR σ o n m h p s2) (pPi q + d) := fun d hd => hsame _ (by omega) (by omega) (by omega)
      refine ⟨RPa.fr ((so 0 (by decide)).1 3) ((so 0 (by decide)).1 5) (so 1 (by decide)).2.2 (fun z a b => finS_A (by omega)) (hR.pi hq).1, ?_⟩
      have hnr := (nr_le hR.im hq).1
      have en' : nr (finS μ (30 * o + n) o (nI m) h p s2) q = nr μ q := by unfold nr; rw [fin10' q w]
      have s0 := so 0 (by decide)
      have s2' := (so 2 (by decide)).2.2
      have s3 := (so 3 (by decide)).2.2
      rw [Nat.add_zero] at s0
      refine ⟨by rw [s0.1 4, fin10' q w]; exact r1, fun k hk => ?_, fun z hz => ?_, fun z hz hb => ?_, fun z hz => by rw [s0.1 6]; exact r5 z hz, ?_, by rw [s0.1 7]; exact r7⟩
      · have w1 : ¬ 30 * q + k = 30 * o + n := by omega
        rw [s2', f11, f12, f13, f14, if_neg w1, if_neg w1, if_neg w1, if_neg w1]; exact r2 k hk
      · rw [en', s0.1 6, s3, lat_ix (μ := μ) (fun k hk => by rw [f11, if_neg (by omega)]) (fun k hk => by rw [f12, if_neg (by omega)])]; exact r3 z hz
      · rw [s3]; rw [s0.1 6] at hb; exact r4 z hz hb
      · rw [s0.1 7, en', r6]
        by_cases v : nr μ q = 0
        · rw [if_pos v, if_pos v]
        · rw [if_neg v, if_neg v, f12, if_neg (by omega)]
  · have hb := hR.ib
    refine ⟨hb.1.of ((hsame 1 (by omega) (by omega) (by omega)).1 1) ((hsame 1 (by omega) (by omega) (by omega)).1 2), ?_, ?_, ?_, fun i hi => ?_⟩
    · rw [(hsame 0 (by omega) (by omega) (by omega)).1 6]; exact hb.2.1
    · rw [(hsame 0 (by omega) (by omega) (by omega)).1 7]; exact hb.2.2.1
    · rw [(hsame 0 (by omega) (by omega) (by omega)).1 8]; exact hb.2.2.2.1
    · have ei : pPi i = 41 + 4 * i := rfl
      by_cases w : i = o
      · subst w
        rw [g4, gx 3 (by decide) (by decide) (by decide), t1]
        exact ⟨(hb.2.2.2.2 i hi).1, by omega, by omega⟩
      · have s := hsame (pPi i) (by omega) (by omega) (by omega)
        rw [s.1 3, s.1 4]; exact hb.2.2.2.2 i hi
theorem ne0 {x cI : Int32} {C : Nat} (hx : ∃ k, k < 1000 ∧ x = nI k) (hc : cI = nI C) (h0 : 0 < C) (h1 : C < 1000) : ¬ cI + x = 0 := by
  obtain ⟨k, hk, rfl⟩ := hx
  rw [hc, nI_add]
  exact nI_ne0 (by omega) (by omega)
theorem oI_k {P : Nat → Bool} {n : Nat} (hn : n < 1000) (h : ¬ oI (ff P n 0) = -1) : ∃ k, k < 1000 ∧ oI (ff P n 0) = nI k := by
  cases hq : ff P n 0 with
  | none => rw [hq] at h; exact absurd rfl h
  | some k => exact ⟨k, by have := (ff_some _ _ hq).2.1; omega, rfl⟩
theorem fp_k {σ : St} {o : Nat} {x : Int32} : ∀ (n i : Nat), i + n ≤ 100 → M_firstPartOf_h2 n i σ o x = -1 ∨ ∃ k, k < 1000 ∧ M_firstPartOf_h2 n i σ o x = nI k := by
  intro n
  induction n with
  | zero => intro i _; exact Or.inr ⟨0, by decide, rfl⟩
  | succ n ih =>
    intro i hi
    rw [M_firstPartOf_h2]
    split
    · exact Or.inl rfl
    · split
      · exact ih (i + 1) (by omega)
      · exact Or.inr ⟨i, by omega, rfl⟩
theorem rea_lack {σ : St} {o m : Nat} {p h : Int32} (hr : M_reasonAgainst σ o m p h = 0) : M_lowestLacking σ m = -1 := by
  by_cases c5 : M_lowestLacking σ m = -1
  · exact c5
  exfalso
  have l5 : ¬ 500 + M_lowestLacking σ m = 0 := by
    unfold M_lowestLacking at c5 ⊢
    rw [lack_f 12 0 rfl] at c5 ⊢
    exact ne0 (C := 500) (oI_k (by decide) c5) rfl (by decide) (by decide)
  unfold M_reasonAgainst at hr
  by_cases c1 : M_firstPartOf σ o (gF σ (pMe m) 2) = -1
  · rw [if_pos c1] at hr
    by_cases c2 : M_lowest (gF σ (pMe m) 3 &&& gF σ (pPi o) 6) = -1
    · rw [if_pos c2] at hr
      by_cases c3 : M_lowestNotLongEnoughAgo σ o m h = -1
      · rw [if_pos c3] at hr
        by_cases c4 : gF σ (pMe m) 5 = 0
        · rw [if_pos c4, if_pos rfl, if_neg c5] at hr; exact l5 hr
        · rw [if_neg c4] at hr
          by_cases c6 : M_lowest (gF σ (pPi o) 5 &&& (gF σ (pMe m) 8 ^^^ (-1))) = -1
          · rw [if_pos c6, if_neg c5] at hr; exact l5 hr
          · rw [if_neg c6] at hr
            rw [low_ff] at c6 hr
            exact ne0 (C := 400) (oI_k (by decide) c6) rfl (by decide) (by decide) hr
      · rw [if_neg c3] at hr
        unfold M_lowestNotLongEnoughAgo at c3 hr
        rw [lne_f 12 0 rfl] at c3 hr
        exact ne0 (C := 300) (oI_k (by decide) c3) rfl (by decide) (by decide) hr
    · rw [if_neg c2] at hr
      rw [low_ff] at c2 hr
      exact ne0 (C := 200) (oI_k (by decide) c2) rfl (by decide) (by decide) hr
  · rw [if_neg c1] at hr
    rcases fp_k (σ := σ) (o := o) (x := gF σ (pMe m) 2) 9 0 (by decide) with e | e
    · exact c1 e
    · exact ne0 (C := 100) e rfl (by decide) (by decide) hr
theorem not_lack {σ : St} {m : Nat} (h : M_lowestLacking σ m = -1) : ∀ g, g < 12 → gA σ (pMe m + 1) g ≤ gF σ (pGo g) 0 := by
  unfold M_lowestLacking at h
  rw [lack_f 12 0 rfl] at h
  have := (ff_none _ _).mp ((oI_ne (ff_lt (n := 12) (by decide))).mp h)
  intro g hg
  have q := this g (Nat.zero_le _) (by omega)
  simpa using q
theorem TG.eq {τ τ' : St} {i : Nat} {U V : Nat → Int32} (h : TG τ τ' i U) (e : ∀ g, g < 12 → U g = V g) : TG τ τ' i V := by
  obtain ⟨a, b, c, d, f⟩ := h
  refine ⟨a, b, c, fun g => ?_, fun g => ?_⟩
  · rw [d g]
    by_cases q : i ≤ g ∧ g < 12
    · rw [if_pos q, if_pos q, e g q.2]
    · rw [if_neg q, if_neg q]
  · rw [f g]
    by_cases q : i ≤ g ∧ g < 12
    · rw [if_pos q, if_pos q, e g q.2]
    · rw [if_neg q, if_neg q]
/-- a step is done, on both sides -/
theorem done_ok {σ μ : St} {o n m : Nat} {h p x10 p4 : Int32} (hR : Rel σ μ) (ho : o < 10) (hn : nr μ o = n) (hn30 : n < 30) (hm : m < 12) (hlt : (m : Int) < (gF μ 0 3).toInt) (hh : 0 ≤ h.toInt ∧ h.toInt ≤ 1000000) (hl : M_lowestLacking σ m = -1) : ∃ μ1, M_m_done_h198 13 0 (nI n) x10 μ p4 (nI o) (nI m) h p = (0, μ1) ∧ gF μ1 = gF μ ∧ Rel (M_addRow (M_takeWhatGoes σ m) o (nI m) h p (if x10 = 0 then (-1) else p4)) μ1 := by
  obtain ⟨f2, f3, f4, f4b, f5, f6, fa, fh, fw⟩ := (hR.me hm).2 hlt
  obtain ⟨μ', e, tg⟩ := tg_m (p1 := nI o) (p2 := nI m) (p3 := p) (p4 := p4) (p5 := h) (x7 := nI n) (x10 := x10) 12 0 μ rfl
  have hlen : (CL μ m (nm μ m)).length ≤ 10 := by
    unfold CL
    rw [List.length_map, List.length_range]
    exact (nm_le hR.im hm).1
  have hU : ∀ g, g < 12 → 0 ≤ (gA σ (pMe m + 1) g).toInt ∧ (gA σ (pMe m + 1) g).toInt ≤ (gA μ 15 g).toInt := fun g hg => by
    refine ⟨by rw [fa g hg]; exact usum_nn fw hlen, ?_⟩
    rw [← (hR.go hg).1]
    exact le_toInt (not_lack hl g hg)
  have tb := tg_b hm 12 0 σ rfl (fun g hg => neg_le0 (hU g hg).1)
  have tg2 : TG μ μ' 0 (gA σ (pMe m + 1)) := tg.eq (fun g hg => by rw [fa g hg]; exact m_used hR.im hm)
  have h1 : Rel (M_takeWhatGoes σ m) μ' := hR.take tb tg2 hU
  have hn' : nr μ' o = n := by unfold nr; rw [tg2.2.1 10 (by decide)]; exact hn
  have e4 : gF (M_takeWhatGoes σ m) (pPi o) 4 = nI n := by
    rw [((h1.pi ho).2).1, ← hn']; exact (nr_le h1.im ho).2
  refine ⟨_, e, ?_, ?_⟩
  · show gF (finS μ' _ _ _ _ _ _) = gF μ
    exact tg2.1
  · rw [addRow_eq e4 hn30 hm, ixN (k := 30) (K := 30) (a := o) (b := n) rfl (by omega), nI_clamp (by omega)]
    exact h1.row ho hn' hn30 hm hh
theorem hour2 (σ : St) {p L : Int32} (hL : 0 ≤ L.toInt) : (M_checkHour σ p L = .error "java/lang/IllegalArgumentException" ∧ (M_m_isHour p = 0 ∨ p < L)) ∨ (M_checkHour σ p L = .ok () ∧ M_m_isHour p = 1 ∧ ¬ p < L ∧ 0 ≤ p.toInt ∧ p.toInt ≤ 1000000) := by
  unfold M_checkHour
  by_cases c1 : p < L
  · rw [if_pos c1]; exact Or.inl ⟨rfl, Or.inr c1⟩
  · rw [if_neg c1]
    have h1 := nlt_toInt c1
    rcases hour σ p with ⟨a, b⟩ | ⟨a, b, hh⟩
    · have hp : ¬ p < 0 := fun q => by have := lt_toInt q; rw [show (0 : Int32).toInt = 0 by decide] at this; omega
      unfold M_checkHour at b
      rw [if_neg hp] at b
      exact Or.inl ⟨b, Or.inl a⟩
    · have hp : ¬ p < 0 := fun q => by have := lt_toInt q; rw [show (0 : Int32).toInt = 0 by decide] at this; omega
      unfold M_checkHour at b
      rw [if_neg hp] at b
      exact Or.inr ⟨b, a, c1, hh⟩
theorem sim_done : S_done Rel := by
  intro σ μ p1 p2 p3 p4 p5 hR
  have h0 : Rel σ (sF μ 0 0 0) := hR.k0
  rcases obj hR p1 with ⟨a, b⟩ | ⟨o, ho, rfl, hlo, a, b⟩
  · have hB : M_done σ p1 p2 p3 p4 p5 = .error "java/lang/IndexOutOfBoundsException" := by unfold M_done; rw [b]; rfl
    have hM : M_m_done μ p1 p2 p3 p4 p5 = (0, sF μ 0 0 1) := by unfold M_m_done; simp only [vb_eq]; rw [a, if_pos rfl, goes_1 rfl, pb_mk, if_pos rfl]
    rw [hB, hM]; exact ⟨rfl, hR.k0⟩
  rcases meth hR p2 with ⟨a2, b2⟩ | ⟨m, hm, rfl, hlm, a2, b2⟩
  · have hB : M_done σ (nI o) p2 p3 p4 p5 = .error "java/lang/IndexOutOfBoundsException" := by unfold M_done; rw [b, xb_ok, b2]; rfl
    have hM : M_m_done μ (nI o) p2 p3 p4 p5 = (0, sF μ 0 0 1) := by unfold M_m_done; simp only [vb_eq]; rw [a, if_neg (show ¬ (1 : Int32) = 0 by decide), a2, if_pos rfl, goes_1 rfl, pb_mk, if_pos rfl]
    rw [hB, hM]; exact ⟨rfl, hR.k0⟩
  rcases plc (σ := σ) (N := 8) p3 (by decide) with ⟨a3, b3⟩ | ⟨p, hp, rfl, a3, b3⟩
  · have hB : M_done σ (nI o) (nI m) p3 p4 p5 = .error "java/lang/IndexOutOfBoundsException" := by unfold M_done; rw [b, xb_ok, b2, xb_ok, show (8 : Int32) = nI 8 from rfl, b3]; rfl
    have hM : M_m_done μ (nI o) (nI m) p3 p4 p5 = (0, sF μ 0 0 1) := by unfold M_m_done; simp only [vb_eq]; rw [a, if_neg (show ¬ (1 : Int32) = 0 by decide), a2, if_neg (show ¬ (1 : Int32) = 0 by decide), show M_m_below p3 8 = 0 from a3, if_pos rfl, goes_1 rfl, pb_mk, if_pos rfl]
    rw [hB, hM]; exact ⟨rfl, hR.k0⟩
  rcases plc (σ := σ) (N := 8) p4 (by decide) with ⟨a4, b4⟩ | ⟨q, hq, rfl, a4, b4⟩
  · have hB : M_done σ (nI o) (nI m) (nI p) p4 p5 = .error "java/lang/IndexOutOfBoundsException" := by unfold M_done; rw [b, xb_ok, b2, xb_ok, show (8 : Int32) = nI 8 from rfl, b3, xb_ok, b4]; rfl
    have hM : M_m_done μ (nI o) (nI m) (nI p) p4 p5 = (0, sF μ 0 0 1) := by unfold M_m_done; simp only [vb_eq]; rw [a, if_neg (show ¬ (1 : Int32) = 0 by decide), a2, if_neg (show ¬ (1 : Int32) = 0 by decide), show M_m_below (nI p) 8 = 1 from a3, if_neg (show ¬ (1 : Int32) = 0 by decide), show M_m_below p4 8 = 0 from a4, if_pos rfl, goes_1 rfl, pb_mk, if_pos rfl]
    rw [hB, hM]; exact ⟨rfl, hR.k0⟩
  obtain ⟨hn, en⟩ := nr_le hR.im ho
  obtain ⟨q1, -, -, -, -, q6, q7⟩ := (hR.pi ho).2
  rw [en] at q1
  have hc : (nI o).toNatClampNeg = o := nI_clamp (by omega)
  generalize hN : nr μ o = n at hn en q1 q6
  generalize hLd : gF σ (pPi o) 7 = Lh at q6 q7
  -- the reference
  have hMg : M_m_done μ (nI o) (nI m) (nI p) (nI q) p5 = pb (M_m_goes μ 1 (if (30 : Int32) ≤ nI n then 0 else 1) (if M_m_isHour p5 = 0 then 0 else if (if nI n = 0 then (1 : Int32) else if p5 < Lh then 0 else 1) = 0 then 0 else 1)) (fun r22 σ23 => (if r22 = 0 then (0, σ23) else (if (M_m_why σ23 (nI o) (nI m) (nI p) p5) = 0 then (if (M_m_has σ23 (nI m) 105 (-1)) = 0 then (M_m_done_h198 13 0 (nI n) (M_m_has σ23 (nI m) 105 (-1)) σ23 (nI q) (nI o) (nI m) p5 (nI p)) else (if nI q = nI p then (700, σ23) else (if (gA σ23 7 (12 * q + m)) = 0 then (700, σ23) else (M_m_done_h198 13 0 (nI n) (M_m_has σ23 (nI m) 105 (-1)) σ23 (nI q) (nI o) (nI m) p5 (nI p))))) else (M_m_why σ23 (nI o) (nI m) (nI p) p5, σ23)))) := by
    unfold M_m_done
    simp only [vb_eq]
    rw [a, if_neg (show ¬ (1 : Int32) = 0 by decide), a2, if_neg (show ¬ (1 : Int32) = 0 by decide), show M_m_below (nI p) 8 = 1 from a3, if_neg (show ¬ (1 : Int32) = 0 by decide), show M_m_below (nI q) 8 = 1 from a4, if_neg (show ¬ (1 : Int32) = 0 by decide), if_neg (show ¬ (1 : Int32) = 0 by decide), if_neg (show ¬ (1 : Int32) = 0 by decide), hc, en, ixN (k := 12) (K := 12) (a := q) (b := m) rfl (by omega)]
    by_cases z : n = 0
    · have zz : nI n = 0 := by rw [z]; rfl
      rw [if_pos zz, if_pos zz]
    · have e1 : ((30 * nI o + nI n) - 1).toNatClampNeg = 30 * o + (n - 1) := by
        rw [show (30 : Int32) = nI 30 from rfl, pk_mul 30 o, nI_add, show 30 * o + n = (30 * o + (n - 1)) + 1 by omega, nI_pred, nI_clamp (by omega)]
      rw [e1, q6, if_neg z]
  have hBg : M_done σ (nI o) (nI m) (nI p) (nI q) p5 = if nI n < 30 then xb (M_checkHour σ p5 Lh) (fun _ => (if (M_reasonAgainst σ o m (nI p) p5) = 0 then (if (gF σ (pMe m) 6) = 0 then (vb (M_takeWhatGoes σ m) (fun σ11 => (if (gF σ11 (pMe m) 6) = 0 then (vb (M_addRow σ11 o (nI m) p5 (nI p) (-1)) (fun σ14 => .ok (0, σ14))) else (vb (M_addRow σ11 o (nI m) p5 (nI p) (nI q)) (fun σ16 => .ok (0, σ16)))))) else (if nI q = nI p then .ok (700, σ) else (if (M_has (gF σ (pMe m) 7) (nI q)) = 0 then .ok (700, σ) else (vb (M_takeWhatGoes σ m) (fun σ21 => (if (gF σ21 (pMe m) 6) = 0 then (vb (M_addRow σ21 o (nI m) p5 (nI p) (-1)) (fun σ24 => .ok (0, σ24))) else (vb (M_addRow σ21 o (nI m) p5 (nI p) (nI q)) (fun σ26 => .ok (0, σ26))))))))) else .ok (M_reasonAgainst σ o m (nI p) p5, σ))) else (.error "java/lang/IllegalStateException") := by
    unfold M_done
    rw [b, xb_ok, b2, xb_ok, show (8 : Int32) = nI 8 from rfl, b3, xb_ok, b4, xb_ok, q1, hLd]
  rw [hBg, hMg]
  by_cases c30 : n < 30
  · rw [if_pos (Int32.lt_iff_toInt_lt.mpr (by rw [nI_toInt (by omega), show (30 : Int32).toInt = 30 by decide]; omega)), if_neg (show ¬ (30 : Int32) ≤ nI n from nI_lt' (b := 30) c30 (by decide))]
    rcases hour2 σ (p := p5) q7 with ⟨b5, w⟩ | ⟨b5, a5, w, hh⟩
    · have ey : (if M_m_isHour p5 = 0 then (0 : Int32) else if (if nI n = 0 then (1 : Int32) else if p5 < Lh then 0 else 1) = 0 then 0 else 1) = 0 := by
        by_cases z0 : M_m_isHour p5 = 0
        · rw [if_pos z0]
        · rw [if_neg z0]
          rcases w with w | w
          · exact absurd w z0
          · have zn : ¬ n = 0 := fun z => z0 (by
              rw [q6, if_pos z] at w
              unfold M_m_isHour vb
              rw [if_pos w])
            rw [if_neg (show ¬ nI n = 0 from fun z => zn ((nI_eq (b := 0) (by omega) (by omega)).mp z)), if_pos w, if_pos rfl]
      rw [b5, ey, goes_3 (by decide) (by decide) rfl, pb_mk, if_pos rfl]
      exact ⟨rfl, hR.k0⟩
    · have ey : (if M_m_isHour p5 = 0 then (0 : Int32) else if (if nI n = 0 then (1 : Int32) else if p5 < Lh then 0 else 1) = 0 then 0 else 1) = 1 := by
        rw [a5, if_neg (show ¬ (1 : Int32) = 0 by decide), if_neg w]
        by_cases z : nI n = 0
        · rw [if_pos z]; rfl
        · rw [if_neg z]; rfl
      rw [b5, ey, goes_0 (by decide) (by decide) (by decide), pb_mk, if_neg (show ¬ (1 : Int32) = 0 by decide), xb_ok, why_eq h0 ho hm hlm hp hh]
      by_cases cr : M_reasonAgainst σ o m (nI p) p5 = 0
      · rw [if_pos cr, if_pos cr]
        have hl := rea_lack cr
        obtain ⟨f2, f3, f4, f4b, f5, f6, fa, fh, fw⟩ := (h0.me hm).2 hlm
        have em : pMe m = 4 + 3 * m := rfl
        have e6 : gF (M_takeWhatGoes σ m) (pMe m) 6 = gF σ (pMe m) 6 := twg_F (fun g => by have : pGo g = 82 + g := rfl; omega) _ _ _
        have ex : M_m_has (sF μ 0 0 0) (nI m) 105 (-1) = gF σ (pMe m) 6 := by rw [m_has_L h0.im hm, f6]
        have hN0 : nr (sF μ 0 0 0) o = n := hN
        obtain ⟨μ1, e1, g1, r1⟩ := done_ok (x10 := gF σ (pMe m) 6) (p4 := nI q) (p := nI p) h0 ho hN0 c30 hm hlm hh hl
        have gz : gF μ1 0 0 = 0 := by rw [g1]; rfl
        rw [ex, e1]
        simp only [vb_eq, e6]
        by_cases c6 : gF σ (pMe m) 6 = 0
        · rw [if_pos c6, if_pos c6, if_pos c6]
          rw [if_pos c6] at r1
          exact ⟨gz, rfl, r1⟩
        · rw [if_neg c6, if_neg c6, if_neg c6]
          rw [if_neg c6] at r1
          by_cases c7 : nI q = nI p
          · rw [if_pos c7, if_pos c7]; exact ⟨rfl, rfl, h0⟩
          · obtain ⟨⟨s1, s2, s3⟩, -⟩ := h0.me hm
            rw [if_neg c7, if_neg c7, has_bt _ (by omega), s1 q hq, b01_dec (s2 q hq)]
            by_cases c8 : gA (sF μ 0 0 0) 7 (12 * q + m) = 0
            · rw [if_pos c8, if_pos c8]; exact ⟨rfl, rfl, h0⟩
            · rw [if_neg c8, if_neg c8]; exact ⟨gz, rfl, r1⟩
      · rw [if_neg cr, if_neg cr]; exact ⟨rfl, rfl, h0⟩
  · have e30 : n = 30 := by omega
    rw [e30, if_neg (show ¬ nI 30 < 30 by decide), if_pos (show (30 : Int32) ≤ nI 30 by decide), goes_2 (by decide) rfl, pb_mk, if_pos rfl]
    exact ⟨rfl, hR.k0⟩

/-! the reason against a step -/
def om (x : Option Nat) (A : Int32) (f : Nat → Int32) : Int32 := match x with
  | none => A
  | some z => f z
theorem sel {x : Option Nat} {A cI : Int32} {c : Nat} (hc : cI = nI c) (hx : ∀ k, x = some k → k < 2 ^ 31) : (if oI x = -1 then A else cI + oI x) = om x A (fun z => nI (c + z)) := by
  cases x with
  | none => rfl
  | some z =>
    rw [if_neg (fun q => by have := (oI_ne hx).mp q; cases this), hc]
    exact nI_add c z
theorem ff_lt {P : Nat → Bool} {n : Nat} (hn : n < 2 ^ 31) : ∀ k, ff P n 0 = some k → k < 2 ^ 31 := fun k hk => by
  have := (ff_some _ _ hk).2.1; omega
theorem ff_more {P : Nat → Bool} : ∀ (n i : Nat), P (i + n) = false → P (i + n + 1) = false → ff P (n + 2) i = ff P n i := by
  intro n
  induction n with
  | zero =>
    intro i h1 h2
    rw [Nat.add_zero] at h1 h2
    show (if P i = true then some i else if P (i + 1) = true then some (i + 1) else none) = none
    rw [h1, h2]; rfl
  | succ n ih =>
    intro i h1 h2
    show (if P i = true then some i else ff P (n + 2) (i + 1)) = (if P i = true then some i else ff P n (i + 1))
    rw [ih (i + 1) (by rw [← h1]; congr 1; omega) (by rw [← h2]; congr 1; omega)]
def pst (μ : St) (o : Nat) (z x : Int32) (k : Nat) : Int32 := if x = 0 then (if gA μ 9 (8 * o + k) = z then 1 else 0) else 1
theorem part_f {μ : St} {o r : Nat} {z : Int32} (hr : gA μ 8 o = nI r) (ho : r < 2 ^ 30) : ∀ (d n k : Nat) (x : Int32), k + d = r → d < n → M_m_hasPart_h5 n k x μ o z = (List.range' k d).foldl (pst μ o z) x := by
  intro d
  induction d with
  | zero =>
    intro n k x hk hn
    obtain ⟨n, rfl⟩ : ∃ m, n = m + 1 := ⟨n - 1, by omega⟩
    rw [M_m_hasPart_h5, hr, if_pos (nI_le (by omega) (by omega))]
    rfl
  | succ d ih =>
    intro n k x hk hn
    obtain ⟨n, rfl⟩ : ∃ m, n = m + 1 := ⟨n - 1, by omega⟩
    rw [M_m_hasPart_h5, hr, if_neg (nI_lt' (by omega) (by omega)), vb_eq, List.range'_succ, List.foldl_cons, ih n (k + 1) _ (by omega) (by omega)]
    rfl
theorem pst_1 {μ : St} {o : Nat} {z : Int32} : ∀ (l : List Nat), l.foldl (pst μ o z) 1 = 1 := by
  intro l
  induction l with
  | nil => rfl
  | cons c l ih => rw [List.foldl_cons]; exact ih
theorem pst_0 {μ : St} {o : Nat} {z : Int32} : ∀ (l : List Nat), l.foldl (pst μ o z) 0 = if l.any (fun k => decide (gA μ 9 (8 * o + k) = z)) then 1 else 0 := by
  intro l
  induction l with
  | nil => rfl
  | cons c l ih =>
    rw [List.foldl_cons, List.any_cons, show pst μ o z 0 c = if gA μ 9 (8 * o + c) = z then 1 else 0 from rfl]
    by_cases h : gA μ 9 (8 * o + c) = z
    · rw [if_pos h]; simp only [h, decide_true, Bool.true_or, if_true]; exact pst_1 l
    · rw [if_neg h]; simp only [h, decide_false, Bool.false_or]; exact ih
theorem m_hasPart {μ : St} (hI : IM μ) {o : Nat} (ho : o < 10) {z : Int32} : M_m_hasPart μ (nI o) z = if anyP μ o (np μ o) z then 1 else 0 := by
  obtain ⟨a, b⟩ := np_le hI ho
  unfold anyP
  rw [← pst_0]
  unfold M_m_hasPart N_m_hasPart
  rw [nI_clamp (by omega), List.range_eq_range']
  exact part_f b (by omega) (np μ o) 9 0 0 (by omega) (by omega)
def Q164 (μ : St) (m g : Nat) : Bool := !decide (M_m_used μ (nI m) (nI g) ≤ gA μ 15 g)
theorem h164_f {μ : St} {p m : Nat} : ∀ (n i : Nat), i + n = 12 → M_m_why_h164 (n + 1) i μ p m = om (ff (Q164 μ m) n i) (if gA μ 7 (12 * p + m) = 0 then 600 else 0) (fun g => nI (500 + g)) := by
  intro n
  induction n with
  | zero => intro i hi; rw [M_m_why_h164, if_pos (by rw [show i = 12 by omega]; decide), vb_eq]; rfl
  | succ n ih =>
    intro i hi
    rw [M_m_why_h164, if_neg (show ¬ (12 : Int32) ≤ nI i from nI_lt' (b := 12) (by omega) (by decide)), ih (i + 1) (by omega), ff]
    by_cases c : M_m_used μ (nI m) (nI i) ≤ gA μ 15 i
    · have hq : Q164 μ m i = false := by simp [Q164, c]
      rw [if_pos c, hq]; rfl
    · have hq : Q164 μ m i = true := by simp [Q164, c]
      rw [if_neg c, hq]; rfl
def Q105 (μ : St) (o m z : Nat) : Bool := !decide (M_m_has μ (nI m) 116 (-1) = 0) && (!decide (M_m_hasPart μ (nI o) (nI z) = 0) && decide (gA μ 6 (10 * m + z) = 0))
theorem h105_f {μ : St} {p m o : Nat} : ∀ (n i : Nat), i + n = 10 → M_m_why_h105 (n + 1) i μ p m o = om (ff (Q105 μ o m) n i) (M_m_why_h164 13 0 μ p m) (fun g => nI (400 + g)) := by
  intro n
  induction n with
  | zero => intro i hi; rw [M_m_why_h105, if_pos (by rw [show i = 10 by omega]; decide)]; rfl
  | succ n ih =>
    intro i hi
    rw [M_m_why_h105, if_neg (show ¬ (10 : Int32) ≤ nI i from nI_lt' (b := 10) (by omega) (by decide)), ih (i + 1) (by omega), ff]
    by_cases c : M_m_has μ (nI m) 116 (-1) = 0
    · rw [if_pos c, if_neg (by simp [Q105, c])]
    · rw [if_neg c]
      by_cases c2 : M_m_hasPart μ (nI o) (nI i) = 0
      · rw [if_pos c2, if_neg (by simp [Q105, c2])]
      · rw [if_neg c2]
        by_cases c3 : gA μ 6 (10 * m + i) = 0
        · rw [if_pos c3, if_pos (by simp [Q105, c, c2, c3])]; rfl
        · rw [if_neg c3, if_neg (by simp [Q105, c3])]
def Q69 (μ : St) (o m : Nat) (h : Int32) (z : Nat) : Bool := !decide (M_m_waits μ (nI o) (nI m) (nI z) h = 0)
theorem h69_f {μ : St} {p m o : Nat} {h : Int32} : ∀ (n i : Nat), i + n = 12 → M_m_why_h69 (n + 1) i μ p m o h = om (ff (Q69 μ o m h) n i) (M_m_why_h105 11 0 μ p m o) (fun g => nI (300 + g)) := by
  intro n
  induction n with
  | zero => intro i hi; rw [M_m_why_h69, if_pos (by rw [show i = 12 by omega]; decide)]; rfl
  | succ n ih =>
    intro i hi
    rw [M_m_why_h69, if_neg (show ¬ (12 : Int32) ≤ nI i from nI_lt' (b := 12) (by omega) (by decide)), ih (i + 1) (by omega), ff]
    by_cases c : M_m_waits μ (nI o) (nI m) (nI i) h = 0
    · rw [if_pos c, if_neg (by simp [Q69, c])]
    · rw [if_neg c, if_pos (by simp [Q69, c])]; rfl
def Q23 (μ : St) (o m z : Nat) : Bool := !decide (M_m_has μ (nI m) 120 (nI z) = 0) && !decide (M_m_latest μ (nI o) (nI z) = -1)
theorem h23_f {μ : St} {p m o : Nat} {h : Int32} : ∀ (n i : Nat), i + n = 12 → M_m_why_h23 (n + 1) i μ p m o h = om (ff (Q23 μ o m) n i) (M_m_why_h69 13 0 μ p m o h) (fun g => nI (200 + g)) := by
  intro n
  induction n with
  | zero => intro i hi; rw [M_m_why_h23, if_pos (by rw [show i = 12 by omega]; decide)]; rfl
  | succ n ih =>
    intro i hi
    rw [M_m_why_h23, if_neg (show ¬ (12 : Int32) ≤ nI i from nI_lt' (b := 12) (by omega) (by decide)), ih (i + 1) (by omega), ff]
    by_cases c : M_m_has μ (nI m) 120 (nI i) = 0
    · rw [if_pos c, if_neg (by simp [Q23, c])]
    · rw [if_neg c]
      by_cases c2 : M_m_latest μ (nI o) (nI i) = -1
      · rw [if_pos c2, if_neg (by simp [Q23, c2])]
      · rw [if_neg c2, if_pos (by simp [Q23, c, c2])]; rfl
theorem bit01 (b : Bool) : (!decide ((if b then (1 : Int32) else 0) = 0)) = b := by cases b <;> rfl
theorem lne_f {σ : St} {o m : Nat} {h : Int32} : ∀ (n i : Nat), i + n = 12 → M_lowestNotLongEnoughAgo_h2 (n + 1) i σ m o h = oI (ff (fun z => bt (gF σ (pMe m) 4) z && (!bt (gF σ (pPi o) 6) z || !decide (gA σ (pMe m + 2) z ≤ h - gA σ (pPi o + 3) z))) n i) := by
  intro n
  induction n with
  | zero => intro i hi; rw [M_lowestNotLongEnoughAgo_h2, if_pos (by rw [show i = 12 by omega]; decide)]; rfl
  | succ n ih =>
    intro i hi
    rw [M_lowestNotLongEnoughAgo_h2, if_neg (show ¬ (12 : Int32) ≤ nI i from nI_lt' (b := 12) (by omega) (by decide)), ih (i + 1) (by omega), ff, has_bt _ (by omega), has_bt _ (by omega)]
    cases h1 : bt (gF σ (pMe m) 4) i
    · rfl
    · cases h2 : bt (gF σ (pPi o) 6) i
      · rfl
      · by_cases c : gA σ (pMe m + 2) i ≤ h - gA σ (pPi o + 3) i
        · simp [c]
        · simp [c, oI]
theorem lack_f {σ : St} {m : Nat} : ∀ (n i : Nat), i + n = 12 → M_lowestLacking_h2 (n + 1) i σ m = oI (ff (fun g => !decide (gA σ (pMe m + 1) g ≤ gF σ (pGo g) 0)) n i) := by
  intro n
  induction n with
  | zero => intro i hi; rw [M_lowestLacking_h2, if_pos (by rw [show i = 12 by omega]; decide)]; rfl
  | succ n ih =>
    intro i hi
    rw [M_lowestLacking_h2, if_neg (show ¬ (12 : Int32) ≤ nI i from nI_lt' (b := 12) (by omega) (by decide)), ih (i + 1) (by omega), ff]
    by_cases c : gA σ (pMe m + 1) i ≤ gF σ (pGo i) 0
    · simp [c]
    · simp [c, oI]
theorem lat_m1 {σ μ : St} (hR : Rel σ μ) {o z : Nat} (ho : o < 10) (hz : z < 12) : (!decide (lat μ o (nr μ o) (nI z) = -1)) = bt (gF σ (pPi o) 6) z := by
  obtain ⟨-, -, r3, r4, -⟩ := (hR.pi ho).2
  rw [r3 z hz]
  cases hb : bt (gF σ (pPi o) 6) z
  · rfl
  · have := (r4 z hz hb).1
    have hne : ¬ gA σ (pPi o + 3) z = -1 := fun q => by rw [q] at this; exact absurd this (by decide)
    simp [hne]
theorem why_eq {σ μ : St} (hR : Rel σ μ) {o m p : Nat} (ho : o < 10) (hm : m < 12) (hlt : (m : Int) < (gF μ 0 3).toInt) (hp : p < 8) {h : Int32} (hh : 0 ≤ h.toInt ∧ h.toInt ≤ 1000000) : M_m_why μ (nI o) (nI m) (nI p) h = M_reasonAgainst σ o m (nI p) h := by
  have fr := (hR.me hm).2 hlt
  obtain ⟨f2, f3, f4, f4b, f5, f6, fa, fh, fw⟩ := fr
  obtain ⟨-, -, r3, r4, -⟩ := (hR.pi ho).2
  obtain ⟨-, pa2, pa3, pa4, pa5⟩ := (hR.pi ho).1
  obtain ⟨⟨s1, s2, s3⟩, -⟩ := hR.me hm
  unfold M_m_why N_m_why M_reasonAgainst
  rw [nI_clamp (by omega), nI_clamp (by omega), nI_clamp (by omega), m_barred hR ho hm hlt]
  have e164 : M_m_why_h164 13 0 μ p m = if M_lowestLacking σ m = -1 then (if M_has (gF σ (pMe m) 7) (nI p) = 0 then 600 else 0) else 500 + M_lowestLacking σ m := by
    rw [h164_f 12 0 rfl, M_lowestLacking, lack_f 12 0 rfl, sel (cI := 500) (c := 500) rfl (ff_lt (n := 12) (by decide))]
    have e1 : ff (Q164 μ m) 12 0 = ff (fun g => !decide (gA σ (pMe m + 1) g ≤ gF σ (pGo g) 0)) 12 0 := by
      apply ff_congr
      intro k _ hk
      rw [fa k (by omega), (hR.go (g := k) (by omega)).1]
      unfold Q164
      rw [m_used hR.im hm]
    rw [e1, has_bt _ (by omega), s1 p hp, b01_dec (s2 p hp)]
  have e105 : M_m_why_h105 11 0 μ p m o = if gF σ (pMe m) 5 = 0 then M_m_why_h164 13 0 μ p m else if M_lowest (gF σ (pPi o) 5 &&& (gF σ (pMe m) 8 ^^^ (-1))) = -1 then M_m_why_h164 13 0 μ p m else 400 + M_lowest (gF σ (pPi o) 5 &&& (gF σ (pMe m) 8 ^^^ (-1))) := by
    rw [h105_f 10 0 rfl, f5]
    cases hL : anyL (CL μ m (nm μ m)) 116 with
    | false =>
      have : ff (Q105 μ o m) 10 0 = none := (ff_none _ _).mpr (fun k _ _ => by unfold Q105; rw [m_has_L hR.im hm, hL]; rfl)
      rw [this]; rfl
    | true =>
      rw [if_neg (show ¬ (if true = true then (1 : Int32) else 0) = 0 by decide), low_ff, sel (cI := 400) (c := 400) rfl (ff_lt (n := 12) (by decide))]
      have e1 : ff (Q105 μ o m) 10 0 = ff (bt (gF σ (pPi o) 5 &&& (gF σ (pMe m) 8 ^^^ (-1)))) 12 0 := by
        have hbig : ∀ z, 10 ≤ z → z < 12 → bt (gF σ (pPi o) 5 &&& (gF σ (pMe m) 8 ^^^ (-1))) z = false := by
          intro z h1 h2
          have : anyP μ o (np μ o) (nI z) = false := by
            unfold anyP
            rw [List.any_eq_false]
            intro k hk
            obtain ⟨w, hw, ew, -⟩ := vin_nI (pa3 k (List.mem_range.mp hk)) (by decide)
            rw [ew, decide_eq_true_iff]
            intro q
            have := (nI_eq (by omega) (by omega)).mp q
            omega
          rw [bt_and, pa4 z h2, this, Bool.false_and]
        rw [ff_more 10 0 (hbig 10 (by decide) (by decide)) (hbig 11 (by decide) (by decide))]
        apply ff_congr
        intro k _ hk
        have hk : k < 10 := by omega
        unfold Q105
        rw [m_has_L hR.im hm, hL, m_hasPart hR.im ho, bit01, bit01, Bool.true_and, bt_and, bt_not _ (by omega), pa4 k (by omega), s3 k hk]
        congr 1
        rcases hR.im.2.2.2.2.2.2.1 (10 * m + k) with e | e <;> rw [e] <;> rfl
      rw [e1]
  have e69 : M_m_why_h69 13 0 μ p m o h = if M_lowestNotLongEnoughAgo σ o m h = -1 then M_m_why_h105 11 0 μ p m o else 300 + M_lowestNotLongEnoughAgo σ o m h := by
    rw [h69_f 12 0 rfl, M_lowestNotLongEnoughAgo, lne_f 12 0 rfl, sel (cI := 300) (c := 300) rfl (ff_lt (n := 12) (by decide))]
    have e1 : ff (Q69 μ o m h) 12 0 = ff (fun z => bt (gF σ (pMe m) 4) z && (!bt (gF σ (pPi o) 6) z || !decide (gA σ (pMe m + 2) z ≤ h - gA σ (pPi o + 3) z))) 12 0 := by
      apply ff_congr
      intro k _ hk
      have hk : k < 12 := by omega
      unfold Q69
      rw [m_waits hR.im ho hm, bit01, wait_eq fw (r3 k hk) (r4 k hk) hh, f4 k hk, fh k hk]
    rw [e1]
  have e23 : M_m_why_h23 13 0 μ p m o h = if M_lowest (gF σ (pMe m) 3 &&& gF σ (pPi o) 6) = -1 then M_m_why_h69 13 0 μ p m o h else 200 + M_lowest (gF σ (pMe m) 3 &&& gF σ (pPi o) 6) := by
    rw [h23_f 12 0 rfl, low_ff, sel (cI := 200) (c := 200) rfl (ff_lt (n := 12) (by decide))]
    have e1 : ff (Q23 μ o m) 12 0 = ff (bt (gF σ (pMe m) 3 &&& gF σ (pPi o) 6)) 12 0 := by
      apply ff_congr
      intro k _ hk
      have hk : k < 12 := by omega
      unfold Q23
      rw [m_has_C hR.im hm (nI_m1 (by omega)), bit01, m_lat hR.im ho, lat_m1 hR ho hk, bt_and, f3 k hk]
    rw [e1]
  rw [e23, e69, e105, e164, if_pos (show (-1 : Int32) = -1 from rfl)]

/-! the reference's reading, sign by sign -/
def cx (τ : St) (x : Int32) : Nat := ((10 * gF τ 0 3) + x).toNatClampNeg
def wholeP (st l q : Int32) : Prop := st = 5 ∨ (st = 2 ∧ ¬ l = 117 ∧ ¬ l = 97) ∨ (st = 4 ∧ (l = 97 ∨ ¬ q ≤ 0))
theorem f_end_ok {n i : Nat} {st x dg : Int32} {τ : St} (hL : gF τ 0 1 ≤ nI i) (h0 : ¬ gF τ 0 1 = 0) (hd : wholeP st (gA τ 3 (cx τ x)) (gA τ 5 (cx τ x))) : M_m_fault_h9 (n + 1) i st x dg τ = (-1, sA τ 2 (gF τ 0 3).toNatClampNeg (x + 1)) := by
  unfold cx at hd
  rw [M_m_fault_h9, if_pos hL, vb_eq, vb_eq, if_neg h0, if_neg h0]
  rcases hd with rfl | ⟨rfl, l1, l2⟩ | ⟨rfl, l1⟩
  · rw [if_pos rfl, if_neg (show ¬ (1 : Int32) = 0 by decide)]
  · rw [if_neg (show ¬ (2 : Int32) = 5 by decide), if_pos rfl, if_neg l1, if_neg l2, if_neg (show ¬ (1 : Int32) = 0 by decide)]
  · rw [if_neg (show ¬ (4 : Int32) = 5 by decide), if_neg (show ¬ (4 : Int32) = 2 by decide), if_pos rfl]
    by_cases c : gA τ 3 ((10 * gF τ 0 3) + x).toNatClampNeg = 97
    · rw [if_pos c, if_neg (show ¬ (1 : Int32) = 0 by decide)]
    · rw [if_neg c, if_neg (l1.resolve_left c), if_neg (show ¬ (1 : Int32) = 0 by decide)]
theorem f_end_no {n i : Nat} {st x dg : Int32} {τ : St} (hL : gF τ 0 1 ≤ nI i) (h0 : ¬ gF τ 0 1 = 0) (hd : st = 0 ∨ st = 1 ∨ st = 3 ∨ (st = 2 ∧ (gA τ 3 (cx τ x) = 117 ∨ gA τ 3 (cx τ x) = 97)) ∨ (st = 4 ∧ ¬ gA τ 3 (cx τ x) = 97 ∧ gA τ 5 (cx τ x) ≤ 0)) : M_m_fault_h9 (n + 1) i st x dg τ = (gF τ 0 1, sA τ 2 (gF τ 0 3).toNatClampNeg (x + 1)) := by
  unfold cx at hd
  rw [M_m_fault_h9, if_pos hL, vb_eq, vb_eq, if_neg h0, if_neg h0]
  rcases hd with rfl | rfl | rfl | ⟨rfl, l1⟩ | ⟨rfl, l1, l2⟩
  · rw [if_neg (show ¬ (0 : Int32) = 5 by decide), if_neg (show ¬ (0 : Int32) = 2 by decide), if_neg (show ¬ (0 : Int32) = 4 by decide), if_pos rfl]; rfl
  · rw [if_neg (show ¬ (1 : Int32) = 5 by decide), if_neg (show ¬ (1 : Int32) = 2 by decide), if_neg (show ¬ (1 : Int32) = 4 by decide), if_pos rfl]; rfl
  · rw [if_neg (show ¬ (3 : Int32) = 5 by decide), if_neg (show ¬ (3 : Int32) = 2 by decide), if_neg (show ¬ (3 : Int32) = 4 by decide), if_pos rfl]; rfl
  · rw [if_neg (show ¬ (2 : Int32) = 5 by decide), if_pos (show (2 : Int32) = 2 from rfl)]
    by_cases c : gA τ 3 ((10 * gF τ 0 3) + x).toNatClampNeg = 117
    · rw [if_pos c, if_neg (show ¬ (2 : Int32) = 4 by decide), if_pos rfl]; rfl
    · rw [if_neg c, if_pos (l1.resolve_left c), if_neg (show ¬ (2 : Int32) = 4 by decide), if_pos rfl]; rfl
  · rw [if_neg (show ¬ (4 : Int32) = 5 by decide), if_neg (show ¬ (4 : Int32) = 2 by decide), if_pos (show (4 : Int32) = 4 from rfl), if_neg l1, if_pos l2, if_pos rfl]; rfl
theorem f_0 {n i : Nat} {x dg : Int32} {τ : St} (hL : ¬ gF τ 0 1 ≤ nI i) : M_m_fault_h9 (n + 1) i 0 x dg τ = if M_m_isLetter (gA τ 1 i) = 0 then (nI i, sA (sA (sA τ 3 (cx τ x) (gA τ 1 i)) 4 (cx τ x) 0) 5 (cx τ x) 0) else M_m_fault_h9 n (i + 1) (if gA τ 1 i = 116 then 5 else if gA τ 1 i = 105 then 5 else 1) x 0 (sA (sA (sA τ 3 (cx τ x) (gA τ 1 i)) 4 (cx τ x) 0) 5 (cx τ x) 0) := by
  unfold cx
  rw [M_m_fault_h9, if_neg hL, if_pos rfl, vb_eq]
def dgt (s : Int32) : Prop := ¬ s < 48 ∧ ¬ 57 < s
theorem f_nd {α : Type} {s st : Int32} (h : ¬ dgt s ∨ 5 ≤ st) {A B : α} : (if s < 48 then A else (if 57 < s then A else (if 5 ≤ st then A else B))) = A := by
  unfold dgt at h
  by_cases c1 : s < 48
  · rw [if_pos c1]
  · rw [if_neg c1]
    by_cases c2 : 57 < s
    · rw [if_pos c2]
    · rw [if_neg c2, if_pos (h.resolve_left (fun q => q ⟨c1, c2⟩))]
theorem f_dd {α : Type} {s st : Int32} (h : dgt s) (h5 : ¬ 5 ≤ st) {A A2 A3 B : α} : (if s < 48 then A else (if 57 < s then A2 else (if 5 ≤ st then A3 else B))) = B := by
  rw [if_neg h.1, if_neg h.2, if_neg h5]
theorem f_sep {n i : Nat} {x dg : Int32} {τ : St} (hL : ¬ gF τ 0 1 ≤ nI i) (hl : gA τ 3 (cx τ x) = 117 ∨ gA τ 3 (cx τ x) = 97) (hs : ¬ dgt (gA τ 1 i)) : M_m_fault_h9 (n + 1) i 2 x dg τ = if gA τ 1 i = (if gA τ 3 (cx τ x) = 117 then 42 else 58) then M_m_fault_h9 n (i + 1) 3 x 0 τ else (nI i, τ) := by
  unfold cx at hl ⊢
  rw [M_m_fault_h9, if_neg hL, if_neg (show ¬ (2 : Int32) = 0 by decide), f_nd (Or.inl hs), if_pos (show (2 : Int32) = 2 from rfl)]
  by_cases c : gA τ 3 ((10 * gF τ 0 3) + x).toNatClampNeg = 117
  · rw [if_pos c, vb_eq, vb_eq, if_pos c]
    by_cases d : gA τ 1 i = 42
    · rw [if_pos d, if_neg (show ¬ (1 : Int32) = 0 by decide), if_pos d]
    · rw [if_neg d, if_pos rfl, if_neg d]
  · rw [if_neg c, if_pos (hl.resolve_left c), vb_eq, vb_eq, if_neg c]
    by_cases d : gA τ 1 i = 58
    · rw [if_pos d, if_neg (show ¬ (1 : Int32) = 0 by decide), if_pos d]
    · rw [if_neg d, if_pos rfl, if_neg d]
theorem f_rest {n i : Nat} {st x dg : Int32} {τ : St} (hL : ¬ gF τ 0 1 ≤ nI i) (hs : ¬ dgt (gA τ 1 i) ∨ st = 5) (hw : wholeP st (gA τ 3 (cx τ x)) (gA τ 5 (cx τ x))) : M_m_fault_h9 (n + 1) i st x dg τ = if gA τ 1 i = 44 then (if 9 ≤ x then (nI i, τ) else M_m_fault_h9 n (i + 1) 0 (x + 1) dg τ) else (nI i, τ) := by
  unfold cx at hw
  have hs' : ¬ dgt (gA τ 1 i) ∨ 5 ≤ st := hs.imp id (fun q => by rw [q]; decide)
  have fin : ∀ y : Int32, y = 1 → (if (if y = 0 then (0 : Int32) else if gA τ 1 i = 44 then (if 9 ≤ x then 0 else 1) else 0) = 0 then (nI i, τ) else M_m_fault_h9 n (i + 1) 0 (x + 1) dg τ) = if gA τ 1 i = 44 then (if 9 ≤ x then (nI i, τ) else M_m_fault_h9 n (i + 1) 0 (x + 1) dg τ) else (nI i, τ) := by
    intro y hy
    rw [hy, if_neg (show ¬ (1 : Int32) = 0 by decide)]
    by_cases c1 : gA τ 1 i = 44
    · rw [if_pos c1, if_pos c1]
      by_cases c2 : 9 ≤ x
      · rw [if_pos c2, if_pos c2, if_pos rfl]
      · rw [if_neg c2, if_neg c2, if_neg (show ¬ (1 : Int32) = 0 by decide)]
    · rw [if_neg c1, if_neg c1, if_pos rfl]
  rcases hw with rfl | ⟨rfl, l1, l2⟩ | ⟨rfl, l1⟩
  · rw [M_m_fault_h9, if_neg hL, if_neg (show ¬ (5 : Int32) = 0 by decide), f_nd hs', if_neg (show ¬ (5 : Int32) = 2 by decide), vb_eq, vb_eq]
    exact fin _ (by rw [if_pos rfl])
  · rw [M_m_fault_h9, if_neg hL, if_neg (show ¬ (2 : Int32) = 0 by decide), f_nd hs', if_pos (show (2 : Int32) = 2 from rfl), if_neg l1, if_neg l2, vb_eq, vb_eq]
    exact fin _ (by rw [if_neg (show ¬ (2 : Int32) = 5 by decide)]; rfl)
  · rw [M_m_fault_h9, if_neg hL, if_neg (show ¬ (4 : Int32) = 0 by decide), f_nd hs', if_neg (show ¬ (4 : Int32) = 2 by decide), vb_eq, vb_eq]
    refine fin _ ?_
    rw [if_neg (show ¬ (4 : Int32) = 5 by decide), if_neg (show ¬ (4 : Int32) = 2 by decide), if_pos (show (4 : Int32) = 4 from rfl)]
    by_cases c : gA τ 3 ((10 * gF τ 0 3) + x).toNatClampNeg = 97
    · rw [if_pos c]
    · rw [if_neg c, if_neg (l1.resolve_left c)]
theorem f_rest_no {n i : Nat} {st x dg : Int32} {τ : St} (hL : ¬ gF τ 0 1 ≤ nI i) (hs : ¬ dgt (gA τ 1 i)) (hw : st = 1 ∨ st = 3 ∨ (st = 4 ∧ ¬ gA τ 3 (cx τ x) = 97 ∧ gA τ 5 (cx τ x) ≤ 0)) : M_m_fault_h9 (n + 1) i st x dg τ = (nI i, τ) := by
  unfold cx at hw
  rcases hw with rfl | rfl | ⟨rfl, l1, l2⟩
  · rw [M_m_fault_h9, if_neg hL, if_neg (show ¬ (1 : Int32) = 0 by decide), f_nd (Or.inl hs), if_neg (show ¬ (1 : Int32) = 2 by decide), vb_eq, vb_eq, if_neg (show ¬ (1 : Int32) = 5 by decide), if_neg (show ¬ (1 : Int32) = 4 by decide), if_neg (show ¬ (1 : Int32) = 2 by decide), if_pos (show (0 : Int32) = 0 from rfl), if_pos (show (0 : Int32) = 0 from rfl)]
  · rw [M_m_fault_h9, if_neg hL, if_neg (show ¬ (3 : Int32) = 0 by decide), f_nd (Or.inl hs), if_neg (show ¬ (3 : Int32) = 2 by decide), vb_eq, vb_eq, if_neg (show ¬ (3 : Int32) = 5 by decide), if_neg (show ¬ (3 : Int32) = 4 by decide), if_neg (show ¬ (3 : Int32) = 2 by decide), if_pos (show (0 : Int32) = 0 from rfl), if_pos (show (0 : Int32) = 0 from rfl)]
  · rw [M_m_fault_h9, if_neg hL, if_neg (show ¬ (4 : Int32) = 0 by decide), f_nd (Or.inl hs), if_neg (show ¬ (4 : Int32) = 2 by decide), vb_eq, vb_eq, if_neg (show ¬ (4 : Int32) = 5 by decide), if_pos (show (4 : Int32) = 4 from rfl), if_neg l1, if_pos l2, if_neg (show ¬ (4 : Int32) = 2 by decide), if_pos (show (0 : Int32) = 0 from rfl), if_pos (show (0 : Int32) = 0 from rfl)]
theorem f_dig1 {n i : Nat} {st x dg v : Int32} {τ : St} (hL : ¬ gF τ 0 1 ≤ nI i) (hs : dgt (gA τ 1 i)) (hst : st = 1 ∨ st = 2) (hv : ((10 * gA τ 4 (cx τ x)) + gA τ 1 i) - 48 = v) : M_m_fault_h9 (n + 1) i st x dg τ = if 5 ≤ dg + 1 ∨ M_m_greatest (gA τ 3 (cx τ x)) < v then (nI i, sA (sA τ 4 (cx τ x) v) 5 (cx τ x) 0) else M_m_fault_h9 n (i + 1) 2 x (dg + 1) (sA (sA τ 4 (cx τ x) v) 5 (cx τ x) 0) := by
  unfold cx at hv ⊢
  have h1 : ¬ st = 0 := by rcases hst with rfl | rfl <;> decide
  have h5 : ¬ 5 ≤ st := by rcases hst with rfl | rfl <;> decide
  have h3 : ¬ 3 ≤ st := by rcases hst with rfl | rfl <;> decide
  have h2 : st ≤ 2 := by rcases hst with rfl | rfl <;> decide
  have h2' : ¬ 2 < st := by rcases hst with rfl | rfl <;> decide
  rw [M_m_fault_h9, if_neg hL, if_neg h1, f_dd hs h5]
  simp only [vb_eq]
  rw [if_neg h3, hv, if_neg h3, if_neg h3, if_neg h3, if_neg h2', if_pos h2]
  have e : (if gA τ 3 ((10 * gF τ 0 3) + x).toNatClampNeg = 117 then (0 : Int32) else 0) = 0 := by split <;> rfl
  rw [e, if_pos (show (0 : Int32) = 0 from rfl)]
  by_cases c1 : 5 ≤ dg + 1
  · rw [if_pos c1, if_pos rfl, if_pos (Or.inl c1)]
  · rw [if_neg c1]
    by_cases c2 : M_m_greatest (gA τ 3 ((10 * gF τ 0 3) + x).toNatClampNeg) < v
    · rw [if_pos c2, if_pos rfl, if_pos (Or.inr c2)]
    · rw [if_neg c2, if_neg (show ¬ (1 : Int32) = 0 by decide), if_neg (fun q => q.elim c1 c2)]
theorem f_dig2 {n i : Nat} {st x dg v : Int32} {τ : St} (hL : ¬ gF τ 0 1 ≤ nI i) (hs : dgt (gA τ 1 i)) (hst : st = 3 ∨ st = 4) (hv : ((10 * gA τ 5 (cx τ x)) + gA τ 1 i) - 48 = v) : M_m_fault_h9 (n + 1) i st x dg τ = if 5 ≤ dg + 1 ∨ (gA τ 3 (cx τ x) = 117 ∧ ¬ 0 < v ∧ 4 ≤ dg + 1) then (nI i, sA (sA τ 4 (cx τ x) (gA τ 4 (cx τ x))) 5 (cx τ x) v) else M_m_fault_h9 n (i + 1) 4 x (dg + 1) (sA (sA τ 4 (cx τ x) (gA τ 4 (cx τ x))) 5 (cx τ x) v) := by
  unfold cx at hv ⊢
  have h1 : ¬ st = 0 := by rcases hst with rfl | rfl <;> decide
  have h5 : ¬ 5 ≤ st := by rcases hst with rfl | rfl <;> decide
  have h3 : 3 ≤ st := by rcases hst with rfl | rfl <;> decide
  have h2 : ¬ st ≤ 2 := by rcases hst with rfl | rfl <;> decide
  have h2' : 2 < st := by rcases hst with rfl | rfl <;> decide
  rw [M_m_fault_h9, if_neg hL, if_neg h1, f_dd hs h5]
  simp only [vb_eq]
  rw [if_pos h3, hv, if_pos h3, if_pos h3, if_pos h3, if_pos h2', if_neg h2]
  by_cases c1 : 5 ≤ dg + 1
  · rw [if_pos c1, if_pos rfl, if_pos (Or.inl c1)]
  · rw [if_neg c1]
    by_cases c2 : gA τ 3 ((10 * gF τ 0 3) + x).toNatClampNeg = 117
    · rw [if_pos c2, if_neg (show ¬ (1 : Int32) = 0 by decide)]
      by_cases c3 : 0 < v
      · rw [if_pos c3, if_neg (show ¬ (1 : Int32) = 0 by decide), if_neg (fun q => q.elim c1 (fun w => w.2.1 c3))]
      · rw [if_neg c3]
        by_cases c4 : 4 ≤ dg + 1
        · rw [if_pos c4, if_pos rfl, if_pos (Or.inr ⟨c2, c3, c4⟩)]
        · rw [if_neg c4, if_neg (show ¬ (1 : Int32) = 0 by decide), if_neg (fun q => q.elim c1 (fun w => c4 w.2.2))]
    · rw [if_neg c2, if_pos (show (0 : Int32) = 0 from rfl), if_neg (show ¬ (1 : Int32) = 0 by decide), if_neg (fun q => q.elim c1 (fun w => c2 w.1))]

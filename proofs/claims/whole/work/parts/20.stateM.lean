/-! The reference: place 0 its object, places 1 to 22 its arrays. -/
def fMd (ad : Nat → Nat) (μ : St) : List Value := [.int (gF μ 0 0), .int (gF μ 0 1), .ref (ad 1), .int (gF μ 0 3), .ref (ad 2), .ref (ad 3), .ref (ad 4), .ref (ad 5), .ref (ad 6), .ref (ad 7), .int (gF μ 0 10), .ref (ad 8), .ref (ad 9), .ref (ad 10), .ref (ad 11), .ref (ad 12), .ref (ad 13), .ref (ad 14), .ref (ad 15), .ref (ad 16), .ref (ad 17), .ref (ad 18), .ref (ad 19), .int (gF μ 0 23), .ref (ad 20), .ref (ad 21), .ref (ad 22)]
def ctM (ad : Nat → Nat) (kk : Nat → ClassId) (μ : St) (q : Nat) : va_E := match q with
  | 0 => .inr (5, fMd ad μ)
  | 1 => .inl (kk 0, 50, .inl (gA μ 1))
  | 2 => .inl (kk 0, 12, .inl (gA μ 2))
  | 3 => .inl (kk 0, 120, .inl (gA μ 3))
  | 4 => .inl (kk 0, 120, .inl (gA μ 4))
  | 5 => .inl (kk 0, 120, .inl (gA μ 5))
  | 6 => .inl (kk 1, 120, .inl (gA μ 6))
  | 7 => .inl (kk 1, 96, .inl (gA μ 7))
  | 8 => .inl (kk 0, 10, .inl (gA μ 8))
  | 9 => .inl (kk 0, 80, .inl (gA μ 9))
  | 10 => .inl (kk 0, 10, .inl (gA μ 10))
  | 11 => .inl (kk 0, 300, .inl (gA μ 11))
  | 12 => .inl (kk 0, 300, .inl (gA μ 12))
  | 13 => .inl (kk 0, 300, .inl (gA μ 13))
  | 14 => .inl (kk 0, 300, .inl (gA μ 14))
  | 15 => .inl (kk 0, 12, .inl (gA μ 15))
  | 16 => .inl (kk 2, 12, .inr (.inl (gL μ 16)))
  | 17 => .inl (kk 2, 12, .inr (.inl (gL μ 17)))
  | 18 => .inl (kk 0, 12, .inl (gA μ 18))
  | 19 => .inl (kk 1, 144, .inl (gA μ 19))
  | 20 => .inl (kk 0, 10, .inl (gA μ 20))
  | 21 => .inl (kk 0, 10, .inl (gA μ 21))
  | 22 => .inl (kk 1, 1024, .inl (gA μ 22))
  | _ => .inl (kk 0, 0, .inl (gA μ 1))
def wM (ad : Nat → Nat) (kk : Nat → ClassId) (μ : St) : va_W := wL 23 ad (ctM ad kk μ)
def tyM (kk : Nat → ClassId) : List (ClassId × FieldType) := [(kk 0, .int), (kk 1, .boolean), (kk 2, .long)]
theorem ctM_same {ad : Nat → Nat} {kk : Nat → ClassId} {μ τ : St} {q : Nat} (hq : q < 23) (h : same μ τ q) (hL : gL τ q = gL μ q) : ctM ad kk τ q = ctM ad kk μ q := by
  obtain ⟨h1, h2, h3⟩ := h
  match q, hq with
  | 0, _ => simp only [ctM, fMd, h1]
  | 1, _ => simp only [ctM, h3]
  | 2, _ => simp only [ctM, h3]
  | 3, _ => simp only [ctM, h3]
  | 4, _ => simp only [ctM, h3]
  | 5, _ => simp only [ctM, h3]
  | 6, _ => simp only [ctM, h3]
  | 7, _ => simp only [ctM, h3]
  | 8, _ => simp only [ctM, h3]
  | 9, _ => simp only [ctM, h3]
  | 10, _ => simp only [ctM, h3]
  | 11, _ => simp only [ctM, h3]
  | 12, _ => simp only [ctM, h3]
  | 13, _ => simp only [ctM, h3]
  | 14, _ => simp only [ctM, h3]
  | 15, _ => simp only [ctM, h3]
  | 16, _ => simp only [ctM, hL]
  | 17, _ => simp only [ctM, hL]
  | 18, _ => simp only [ctM, h3]
  | 19, _ => simp only [ctM, h3]
  | 20, _ => simp only [ctM, h3]
  | 21, _ => simp only [ctM, h3]
  | 22, _ => simp only [ctM, h3]
  | k + 23, h => exact absurd h (by omega)
theorem wM_set {ad : Nat → Nat} {kk : Nat → ClassId} {μ τ : St} {q : Nat} {e : va_E} (hq : q < 23) (h1 : ctM ad kk τ q = e) (h2 : ∀ j, j ≠ q → same μ τ j ∧ gL τ j = gL μ j) : (wM ad kk μ).set q (ad q, e) = wM ad kk τ :=
  wL_set hq h1 (fun j hj hne => ctM_same hj (h2 j hne).1 (h2 j hne).2)
theorem gL_updL (σ : St) (p j : Nat) (v : Int64) : gL (sL σ p j v) p = vp_updL (gL σ p) j v := by
  funext b
  rw [gL_sL]
  by_cases h : b = j
  · subst h; rw [if_pos ⟨rfl, rfl⟩]; exact pk_uLs.symm
  · rw [if_neg (fun q => h q.2)]; exact (pk_uLn h).symm
theorem gL_ne {σ : St} {p j i : Nat} {v : Int64} (h : i ≠ p) : gL (sL σ p j v) i = gL σ i := by
  funext b; rw [gL_sL, if_neg (fun q => h q.1)]
theorem g_Md {ad : Nat → Nat} {kk : Nat → ClassId} {μ : St} : (wM ad kk μ)[0]? = some (ad 0, .inr (5, fMd ad μ)) := wL_at (by decide) rfl
theorem s_Md_0 {ad : Nat → Nat} {kk : Nat → ClassId} {μ : St} {v : Int32} : (wM ad kk μ).set 0 (ad 0, .inr (5, (fMd ad μ).set 0 (.int v))) = wM ad kk (sF μ 0 0 v) :=
  wM_set (by decide) (by simp [ctM, fMd, gF_sF]) (fun j hj => ⟨same_sF hj, rfl⟩)
theorem s_Md_1 {ad : Nat → Nat} {kk : Nat → ClassId} {μ : St} {v : Int32} : (wM ad kk μ).set 0 (ad 0, .inr (5, (fMd ad μ).set 1 (.int v))) = wM ad kk (sF μ 0 1 v) :=
  wM_set (by decide) (by simp [ctM, fMd, gF_sF]) (fun j hj => ⟨same_sF hj, rfl⟩)
theorem s_Md_3 {ad : Nat → Nat} {kk : Nat → ClassId} {μ : St} {v : Int32} : (wM ad kk μ).set 0 (ad 0, .inr (5, (fMd ad μ).set 3 (.int v))) = wM ad kk (sF μ 0 3 v) :=
  wM_set (by decide) (by simp [ctM, fMd, gF_sF]) (fun j hj => ⟨same_sF hj, rfl⟩)
theorem s_Md_10 {ad : Nat → Nat} {kk : Nat → ClassId} {μ : St} {v : Int32} : (wM ad kk μ).set 0 (ad 0, .inr (5, (fMd ad μ).set 10 (.int v))) = wM ad kk (sF μ 0 10 v) :=
  wM_set (by decide) (by simp [ctM, fMd, gF_sF]) (fun j hj => ⟨same_sF hj, rfl⟩)
theorem s_Md_23 {ad : Nat → Nat} {kk : Nat → ClassId} {μ : St} {v : Int32} : (wM ad kk μ).set 0 (ad 0, .inr (5, (fMd ad μ).set 23 (.int v))) = wM ad kk (sF μ 0 23 v) :=
  wM_set (by decide) (by simp [ctM, fMd, gF_sF]) (fun j hj => ⟨same_sF hj, rfl⟩)
theorem g_m_pad {ad : Nat → Nat} {kk : Nat → ClassId} {μ : St} : (wM ad kk μ)[1]? = some (ad 1, .inl (kk 0, 50, .inl (gA μ 1))) := wL_at (by decide) rfl
theorem s_m_pad {ad : Nat → Nat} {kk : Nat → ClassId} {μ : St} {j : Nat} {v : Int32} : (wM ad kk μ).set 1 (ad 1, .inl (kk 0, 50, .inl (upd (gA μ 1) j v))) = wM ad kk (sA μ 1 j v) :=
  wM_set (by decide) (by show Sum.inl (kk 0, 50, Sum.inl (gA (sA μ 1 j v) 1)) = _; rw [gA_upd]) (fun j hj => ⟨same_sA hj, rfl⟩)
theorem g_m_many {ad : Nat → Nat} {kk : Nat → ClassId} {μ : St} : (wM ad kk μ)[2]? = some (ad 2, .inl (kk 0, 12, .inl (gA μ 2))) := wL_at (by decide) rfl
theorem s_m_many {ad : Nat → Nat} {kk : Nat → ClassId} {μ : St} {j : Nat} {v : Int32} : (wM ad kk μ).set 2 (ad 2, .inl (kk 0, 12, .inl (upd (gA μ 2) j v))) = wM ad kk (sA μ 2 j v) :=
  wM_set (by decide) (by show Sum.inl (kk 0, 12, Sum.inl (gA (sA μ 2 j v) 2)) = _; rw [gA_upd]) (fun j hj => ⟨same_sA hj, rfl⟩)
theorem g_m_letters {ad : Nat → Nat} {kk : Nat → ClassId} {μ : St} : (wM ad kk μ)[3]? = some (ad 3, .inl (kk 0, 120, .inl (gA μ 3))) := wL_at (by decide) rfl
theorem s_m_letters {ad : Nat → Nat} {kk : Nat → ClassId} {μ : St} {j : Nat} {v : Int32} : (wM ad kk μ).set 3 (ad 3, .inl (kk 0, 120, .inl (upd (gA μ 3) j v))) = wM ad kk (sA μ 3 j v) :=
  wM_set (by decide) (by show Sum.inl (kk 0, 120, Sum.inl (gA (sA μ 3 j v) 3)) = _; rw [gA_upd]) (fun j hj => ⟨same_sA hj, rfl⟩)
theorem g_m_firsts {ad : Nat → Nat} {kk : Nat → ClassId} {μ : St} : (wM ad kk μ)[4]? = some (ad 4, .inl (kk 0, 120, .inl (gA μ 4))) := wL_at (by decide) rfl
theorem s_m_firsts {ad : Nat → Nat} {kk : Nat → ClassId} {μ : St} {j : Nat} {v : Int32} : (wM ad kk μ).set 4 (ad 4, .inl (kk 0, 120, .inl (upd (gA μ 4) j v))) = wM ad kk (sA μ 4 j v) :=
  wM_set (by decide) (by show Sum.inl (kk 0, 120, Sum.inl (gA (sA μ 4 j v) 4)) = _; rw [gA_upd]) (fun j hj => ⟨same_sA hj, rfl⟩)
theorem g_m_seconds {ad : Nat → Nat} {kk : Nat → ClassId} {μ : St} : (wM ad kk μ)[5]? = some (ad 5, .inl (kk 0, 120, .inl (gA μ 5))) := wL_at (by decide) rfl
theorem s_m_seconds {ad : Nat → Nat} {kk : Nat → ClassId} {μ : St} {j : Nat} {v : Int32} : (wM ad kk μ).set 5 (ad 5, .inl (kk 0, 120, .inl (upd (gA μ 5) j v))) = wM ad kk (sA μ 5 j v) :=
  wM_set (by decide) (by show Sum.inl (kk 0, 120, Sum.inl (gA (sA μ 5 j v) 5)) = _; rw [gA_upd]) (fun j hj => ⟨same_sA hj, rfl⟩)
theorem g_m_trials {ad : Nat → Nat} {kk : Nat → ClassId} {μ : St} : (wM ad kk μ)[6]? = some (ad 6, .inl (kk 1, 120, .inl (gA μ 6))) := wL_at (by decide) rfl
theorem s_m_trials {ad : Nat → Nat} {kk : Nat → ClassId} {μ : St} {j : Nat} {v : Int32} : (wM ad kk μ).set 6 (ad 6, .inl (kk 1, 120, .inl (upd (gA μ 6) j v))) = wM ad kk (sA μ 6 j v) :=
  wM_set (by decide) (by show Sum.inl (kk 1, 120, Sum.inl (gA (sA μ 6 j v) 6)) = _; rw [gA_upd]) (fun j hj => ⟨same_sA hj, rfl⟩)
theorem g_m_rights {ad : Nat → Nat} {kk : Nat → ClassId} {μ : St} : (wM ad kk μ)[7]? = some (ad 7, .inl (kk 1, 96, .inl (gA μ 7))) := wL_at (by decide) rfl
theorem s_m_rights {ad : Nat → Nat} {kk : Nat → ClassId} {μ : St} {j : Nat} {v : Int32} : (wM ad kk μ).set 7 (ad 7, .inl (kk 1, 96, .inl (upd (gA μ 7) j v))) = wM ad kk (sA μ 7 j v) :=
  wM_set (by decide) (by show Sum.inl (kk 1, 96, Sum.inl (gA (sA μ 7 j v) 7)) = _; rw [gA_upd]) (fun j hj => ⟨same_sA hj, rfl⟩)
theorem g_m_parts {ad : Nat → Nat} {kk : Nat → ClassId} {μ : St} : (wM ad kk μ)[8]? = some (ad 8, .inl (kk 0, 10, .inl (gA μ 8))) := wL_at (by decide) rfl
theorem s_m_parts {ad : Nat → Nat} {kk : Nat → ClassId} {μ : St} {j : Nat} {v : Int32} : (wM ad kk μ).set 8 (ad 8, .inl (kk 0, 10, .inl (upd (gA μ 8) j v))) = wM ad kk (sA μ 8 j v) :=
  wM_set (by decide) (by show Sum.inl (kk 0, 10, Sum.inl (gA (sA μ 8 j v) 8)) = _; rw [gA_upd]) (fun j hj => ⟨same_sA hj, rfl⟩)
theorem g_m_materials {ad : Nat → Nat} {kk : Nat → ClassId} {μ : St} : (wM ad kk μ)[9]? = some (ad 9, .inl (kk 0, 80, .inl (gA μ 9))) := wL_at (by decide) rfl
theorem s_m_materials {ad : Nat → Nat} {kk : Nat → ClassId} {μ : St} {j : Nat} {v : Int32} : (wM ad kk μ).set 9 (ad 9, .inl (kk 0, 80, .inl (upd (gA μ 9) j v))) = wM ad kk (sA μ 9 j v) :=
  wM_set (by decide) (by show Sum.inl (kk 0, 80, Sum.inl (gA (sA μ 9 j v) 9)) = _; rw [gA_upd]) (fun j hj => ⟨same_sA hj, rfl⟩)
theorem g_m_rows {ad : Nat → Nat} {kk : Nat → ClassId} {μ : St} : (wM ad kk μ)[10]? = some (ad 10, .inl (kk 0, 10, .inl (gA μ 10))) := wL_at (by decide) rfl
theorem s_m_rows {ad : Nat → Nat} {kk : Nat → ClassId} {μ : St} {j : Nat} {v : Int32} : (wM ad kk μ).set 10 (ad 10, .inl (kk 0, 10, .inl (upd (gA μ 10) j v))) = wM ad kk (sA μ 10 j v) :=
  wM_set (by decide) (by show Sum.inl (kk 0, 10, Sum.inl (gA (sA μ 10 j v) 10)) = _; rw [gA_upd]) (fun j hj => ⟨same_sA hj, rfl⟩)
theorem g_m_rowMethods {ad : Nat → Nat} {kk : Nat → ClassId} {μ : St} : (wM ad kk μ)[11]? = some (ad 11, .inl (kk 0, 300, .inl (gA μ 11))) := wL_at (by decide) rfl
theorem s_m_rowMethods {ad : Nat → Nat} {kk : Nat → ClassId} {μ : St} {j : Nat} {v : Int32} : (wM ad kk μ).set 11 (ad 11, .inl (kk 0, 300, .inl (upd (gA μ 11) j v))) = wM ad kk (sA μ 11 j v) :=
  wM_set (by decide) (by show Sum.inl (kk 0, 300, Sum.inl (gA (sA μ 11 j v) 11)) = _; rw [gA_upd]) (fun j hj => ⟨same_sA hj, rfl⟩)
theorem g_m_rowHours {ad : Nat → Nat} {kk : Nat → ClassId} {μ : St} : (wM ad kk μ)[12]? = some (ad 12, .inl (kk 0, 300, .inl (gA μ 12))) := wL_at (by decide) rfl
theorem s_m_rowHours {ad : Nat → Nat} {kk : Nat → ClassId} {μ : St} {j : Nat} {v : Int32} : (wM ad kk μ).set 12 (ad 12, .inl (kk 0, 300, .inl (upd (gA μ 12) j v))) = wM ad kk (sA μ 12 j v) :=
  wM_set (by decide) (by show Sum.inl (kk 0, 300, Sum.inl (gA (sA μ 12 j v) 12)) = _; rw [gA_upd]) (fun j hj => ⟨same_sA hj, rfl⟩)
theorem g_m_rowPersons {ad : Nat → Nat} {kk : Nat → ClassId} {μ : St} : (wM ad kk μ)[13]? = some (ad 13, .inl (kk 0, 300, .inl (gA μ 13))) := wL_at (by decide) rfl
theorem s_m_rowPersons {ad : Nat → Nat} {kk : Nat → ClassId} {μ : St} {j : Nat} {v : Int32} : (wM ad kk μ).set 13 (ad 13, .inl (kk 0, 300, .inl (upd (gA μ 13) j v))) = wM ad kk (sA μ 13 j v) :=
  wM_set (by decide) (by show Sum.inl (kk 0, 300, Sum.inl (gA (sA μ 13 j v) 13)) = _; rw [gA_upd]) (fun j hj => ⟨same_sA hj, rfl⟩)
theorem g_m_rowSeconds {ad : Nat → Nat} {kk : Nat → ClassId} {μ : St} : (wM ad kk μ)[14]? = some (ad 14, .inl (kk 0, 300, .inl (gA μ 14))) := wL_at (by decide) rfl
theorem s_m_rowSeconds {ad : Nat → Nat} {kk : Nat → ClassId} {μ : St} {j : Nat} {v : Int32} : (wM ad kk μ).set 14 (ad 14, .inl (kk 0, 300, .inl (upd (gA μ 14) j v))) = wM ad kk (sA μ 14 j v) :=
  wM_set (by decide) (by show Sum.inl (kk 0, 300, Sum.inl (gA (sA μ 14 j v) 14)) = _; rw [gA_upd]) (fun j hj => ⟨same_sA hj, rfl⟩)
theorem g_m_stocks {ad : Nat → Nat} {kk : Nat → ClassId} {μ : St} : (wM ad kk μ)[15]? = some (ad 15, .inl (kk 0, 12, .inl (gA μ 15))) := wL_at (by decide) rfl
theorem s_m_stocks {ad : Nat → Nat} {kk : Nat → ClassId} {μ : St} {j : Nat} {v : Int32} : (wM ad kk μ).set 15 (ad 15, .inl (kk 0, 12, .inl (upd (gA μ 15) j v))) = wM ad kk (sA μ 15 j v) :=
  wM_set (by decide) (by show Sum.inl (kk 0, 12, Sum.inl (gA (sA μ 15 j v) 15)) = _; rw [gA_upd]) (fun j hj => ⟨same_sA hj, rfl⟩)
theorem g_m_came {ad : Nat → Nat} {kk : Nat → ClassId} {μ : St} : (wM ad kk μ)[16]? = some (ad 16, .inl (kk 2, 12, .inr (.inl (gL μ 16)))) := wL_at (by decide) rfl
theorem s_m_came {ad : Nat → Nat} {kk : Nat → ClassId} {μ : St} {j : Nat} {v : Int64} : (wM ad kk μ).set 16 (ad 16, .inl (kk 2, 12, .inr (.inl (vp_updL (gL μ 16) j v)))) = wM ad kk (sL μ 16 j v) :=
  wM_set (by decide) (by show Sum.inl (kk 2, 12, Sum.inr (Sum.inl (gL (sL μ 16 j v) 16))) = _; rw [gL_updL]) (fun j hj => ⟨same_sL hj, gL_ne hj⟩)
theorem g_m_went {ad : Nat → Nat} {kk : Nat → ClassId} {μ : St} : (wM ad kk μ)[17]? = some (ad 17, .inl (kk 2, 12, .inr (.inl (gL μ 17)))) := wL_at (by decide) rfl
theorem s_m_went {ad : Nat → Nat} {kk : Nat → ClassId} {μ : St} {j : Nat} {v : Int64} : (wM ad kk μ).set 17 (ad 17, .inl (kk 2, 12, .inr (.inl (vp_updL (gL μ 17) j v)))) = wM ad kk (sL μ 17 j v) :=
  wM_set (by decide) (by show Sum.inl (kk 2, 12, Sum.inr (Sum.inl (gL (sL μ 17 j v) 17))) = _; rw [gL_updL]) (fun j hj => ⟨same_sL hj, gL_ne hj⟩)
theorem g_m_shelves {ad : Nat → Nat} {kk : Nat → ClassId} {μ : St} : (wM ad kk μ)[18]? = some (ad 18, .inl (kk 0, 12, .inl (gA μ 18))) := wL_at (by decide) rfl
theorem s_m_shelves {ad : Nat → Nat} {kk : Nat → ClassId} {μ : St} {j : Nat} {v : Int32} : (wM ad kk μ).set 18 (ad 18, .inl (kk 0, 12, .inl (upd (gA μ 18) j v))) = wM ad kk (sA μ 18 j v) :=
  wM_set (by decide) (by show Sum.inl (kk 0, 12, Sum.inl (gA (sA μ 18 j v) 18)) = _; rw [gA_upd]) (fun j hj => ⟨same_sA hj, rfl⟩)
theorem g_m_apart {ad : Nat → Nat} {kk : Nat → ClassId} {μ : St} : (wM ad kk μ)[19]? = some (ad 19, .inl (kk 1, 144, .inl (gA μ 19))) := wL_at (by decide) rfl
theorem s_m_apart {ad : Nat → Nat} {kk : Nat → ClassId} {μ : St} {j : Nat} {v : Int32} : (wM ad kk μ).set 19 (ad 19, .inl (kk 1, 144, .inl (upd (gA μ 19) j v))) = wM ad kk (sA μ 19 j v) :=
  wM_set (by decide) (by show Sum.inl (kk 1, 144, Sum.inl (gA (sA μ 19 j v) 19)) = _; rw [gA_upd]) (fun j hj => ⟨same_sA hj, rfl⟩)
theorem g_m_plan {ad : Nat → Nat} {kk : Nat → ClassId} {μ : St} : (wM ad kk μ)[20]? = some (ad 20, .inl (kk 0, 10, .inl (gA μ 20))) := wL_at (by decide) rfl
theorem s_m_plan {ad : Nat → Nat} {kk : Nat → ClassId} {μ : St} {j : Nat} {v : Int32} : (wM ad kk μ).set 20 (ad 20, .inl (kk 0, 10, .inl (upd (gA μ 20) j v))) = wM ad kk (sA μ 20 j v) :=
  wM_set (by decide) (by show Sum.inl (kk 0, 10, Sum.inl (gA (sA μ 20 j v) 20)) = _; rw [gA_upd]) (fun j hj => ⟨same_sA hj, rfl⟩)
theorem g_m_chosen {ad : Nat → Nat} {kk : Nat → ClassId} {μ : St} : (wM ad kk μ)[21]? = some (ad 21, .inl (kk 0, 10, .inl (gA μ 21))) := wL_at (by decide) rfl
theorem s_m_chosen {ad : Nat → Nat} {kk : Nat → ClassId} {μ : St} {j : Nat} {v : Int32} : (wM ad kk μ).set 21 (ad 21, .inl (kk 0, 10, .inl (upd (gA μ 21) j v))) = wM ad kk (sA μ 21 j v) :=
  wM_set (by decide) (by show Sum.inl (kk 0, 10, Sum.inl (gA (sA μ 21 j v) 21)) = _; rw [gA_upd]) (fun j hj => ⟨same_sA hj, rfl⟩)
theorem g_m_ends {ad : Nat → Nat} {kk : Nat → ClassId} {μ : St} : (wM ad kk μ)[22]? = some (ad 22, .inl (kk 1, 1024, .inl (gA μ 22))) := wL_at (by decide) rfl
theorem s_m_ends {ad : Nat → Nat} {kk : Nat → ClassId} {μ : St} {j : Nat} {v : Int32} : (wM ad kk μ).set 22 (ad 22, .inl (kk 1, 1024, .inl (upd (gA μ 22) j v))) = wM ad kk (sA μ 22 j v) :=
  wM_set (by decide) (by show Sum.inl (kk 1, 1024, Sum.inl (gA (sA μ 22 j v) 22)) = _; rw [gA_upd]) (fun j hj => ⟨same_sA hj, rfl⟩)

/-! The component: 96 places in the order in which its constructor makes them; kinds by place. -/
def pMe (i : Nat) : Nat := 4 + 3 * i
def pPi (i : Nat) : Nat := 41 + 4 * i
def pGo (i : Nat) : Nat := 82 + i
def kdB (p : Nat) : Nat := ([0, 1, 2, 3, 4, 5, 5, 4, 5, 5, 4, 5, 5, 4, 5, 5, 4, 5, 5, 4, 5, 5, 4, 5, 5, 4, 5, 5, 4, 5, 5, 4, 5, 5, 4, 5, 5, 4, 5, 5, 6, 7, 8, 9, 5, 7, 8, 9, 5, 7, 8, 9, 5, 7, 8, 9, 5, 7, 8, 9, 5, 7, 8, 9, 5, 7, 8, 9, 5, 7, 8, 9, 5, 7, 8, 9, 5, 7, 8, 9, 5, 10, 11, 11, 11, 11, 11, 11, 11, 11, 11, 11, 11, 11, 12, 12] : List Nat).getD p 99
def fMB (ad : Nat → Nat) (σ : St) (q : Nat) : List Value := [.ref (ad 1), .ref (ad 3), .ref (ad 40), .ref (ad 81), .ref (ad 94), .ref (ad 95), .int (gF σ q 6), .int (gF σ q 7), .int (gF σ q 8)]
def fPad (ad : Nat → Nat) (σ : St) (q : Nat) : List Value := [.ref (ad 2), .int (gF σ q 1), .int (gF σ q 2)]
def fMe (ad : Nat → Nat) (σ : St) (q : Nat) : List Value := [.ref (ad (q + 1)), .ref (ad (q + 2)), .int (gF σ q 2), .int (gF σ q 3), .int (gF σ q 4), .int (gF σ q 5), .int (gF σ q 6), .int (gF σ q 7), .int (gF σ q 8)]
def fPi (ad : Nat → Nat) (σ : St) (q : Nat) : List Value := [.ref (ad (q + 1)), .ref (ad (q + 2)), .ref (ad (q + 3)), .int (gF σ q 3), .int (gF σ q 4), .int (gF σ q 5), .int (gF σ q 6), .int (gF σ q 7)]
def fGo (ad : Nat → Nat) (σ : St) (q : Nat) : List Value := [.int (gF σ q 0), .long (gL σ q 1), .long (gL σ q 2), .int (gF σ q 3), .int (gF σ q 4)]
def ctB (ad : Nat → Nat) (kk : Nat → ClassId) (σ : St) (q : Nat) : va_E := match kdB q with
  | 0 => .inr (4, fMB ad σ q)
  | 1 => .inr (2, fPad ad σ q)
  | 4 => .inr (1, fMe ad σ q)
  | 7 => .inr (3, fPi ad σ q)
  | 11 => .inr (0, fGo ad σ q)
  | 2 => .inl (kk 0, 50, .inl (gA σ q))
  | 5 => .inl (kk 0, 12, .inl (gA σ q))
  | 8 => .inl (kk 0, 8, .inl (gA σ q))
  | 9 => .inl (kk 0, 120, .inl (gA σ q))
  | 12 => .inl (kk 0, 10, .inl (gA σ q))
  | 3 => .inl (kk 1, 12, .inr (.inr (.inr (.inr (fun j => some (ad (pMe j)))))))
  | 6 => .inl (kk 2, 10, .inr (.inr (.inr (.inr (fun j => some (ad (pPi j)))))))
  | 10 => .inl (kk 3, 12, .inr (.inr (.inr (.inr (fun j => some (ad (pGo j)))))))
  | _ => .inl (kk 0, 0, .inl (gA σ q))
def wB (ad : Nat → Nat) (kk : Nat → ClassId) (σ : St) : va_W := wL 96 ad (ctB ad kk σ)
def tyB (kk : Nat → ClassId) : List (ClassId × FieldType) := [(kk 0, .int), (kk 1, .object "MaterialBars$Method"), (kk 2, .object "MaterialBars$Piece"), (kk 3, .object "MaterialBars$Good")]
theorem ctB_same {ad : Nat → Nat} {kk : Nat → ClassId} {σ τ : St} {q : Nat} (h : same σ τ q) : ctB ad kk τ q = ctB ad kk σ q := by
  obtain ⟨h1, h2, h3⟩ := h
  simp only [ctB, fMB, fPad, fMe, fPi, fGo, h1, h2, h3]
theorem wB_set {ad : Nat → Nat} {kk : Nat → ClassId} {σ τ : St} {q : Nat} {e : va_E} (hq : q < 96) (h1 : ctB ad kk τ q = e) (h2 : ∀ j, j ≠ q → same σ τ j) : (wB ad kk σ).set q (ad q, e) = wB ad kk τ :=
  wL_set hq h1 (fun j _ hj => ctB_same (h2 j hj))
theorem ct_MB {ad : Nat → Nat} {kk : Nat → ClassId} {σ : St} : ctB ad kk σ 0 = .inr (4, fMB ad σ 0) := by
  unfold ctB; rw [(by decide : kdB 0 = 0)]; rfl
theorem g_MB {ad : Nat → Nat} {kk : Nat → ClassId} {σ : St} : (wB ad kk σ)[0]? = some (ad 0, .inr (4, fMB ad σ 0)) := wL_at (by decide) ct_MB
theorem s_MB_6 {ad : Nat → Nat} {kk : Nat → ClassId} {σ : St} {v : Int32} : (wB ad kk σ).set 0 (ad 0, .inr (4, (fMB ad σ 0).set 6 (.int v))) = wB ad kk (sF σ 0 6 v) :=
  wB_set (by decide) (by rw [ct_MB]; simp [fMB, gF_sF, gL_sF]) (fun j hj => same_sF hj)
theorem s_MB_7 {ad : Nat → Nat} {kk : Nat → ClassId} {σ : St} {v : Int32} : (wB ad kk σ).set 0 (ad 0, .inr (4, (fMB ad σ 0).set 7 (.int v))) = wB ad kk (sF σ 0 7 v) :=
  wB_set (by decide) (by rw [ct_MB]; simp [fMB, gF_sF, gL_sF]) (fun j hj => same_sF hj)
theorem s_MB_8 {ad : Nat → Nat} {kk : Nat → ClassId} {σ : St} {v : Int32} : (wB ad kk σ).set 0 (ad 0, .inr (4, (fMB ad σ 0).set 8 (.int v))) = wB ad kk (sF σ 0 8 v) :=
  wB_set (by decide) (by rw [ct_MB]; simp [fMB, gF_sF, gL_sF]) (fun j hj => same_sF hj)
theorem ct_Pad {ad : Nat → Nat} {kk : Nat → ClassId} {σ : St} : ctB ad kk σ 1 = .inr (2, fPad ad σ 1) := by
  unfold ctB; rw [(by decide : kdB 1 = 1)]; rfl
theorem g_Pad {ad : Nat → Nat} {kk : Nat → ClassId} {σ : St} : (wB ad kk σ)[1]? = some (ad 1, .inr (2, fPad ad σ 1)) := wL_at (by decide) ct_Pad
theorem s_Pad_1 {ad : Nat → Nat} {kk : Nat → ClassId} {σ : St} {v : Int32} : (wB ad kk σ).set 1 (ad 1, .inr (2, (fPad ad σ 1).set 1 (.int v))) = wB ad kk (sF σ 1 1 v) :=
  wB_set (by decide) (by rw [ct_Pad]; simp [fPad, gF_sF, gL_sF]) (fun j hj => same_sF hj)
theorem s_Pad_2 {ad : Nat → Nat} {kk : Nat → ClassId} {σ : St} {v : Int32} : (wB ad kk σ).set 1 (ad 1, .inr (2, (fPad ad σ 1).set 2 (.int v))) = wB ad kk (sF σ 1 2 v) :=
  wB_set (by decide) (by rw [ct_Pad]; simp [fPad, gF_sF, gL_sF]) (fun j hj => same_sF hj)
theorem kd_Me : ∀ i, i < 12 → kdB (pMe i) = 4 ∧ pMe i < 96 := by decide
theorem ct_Me {ad : Nat → Nat} {kk : Nat → ClassId} {σ : St} {i : Nat} (hi : i < 12) : ctB ad kk σ (pMe i) = .inr (1, fMe ad σ (pMe i)) := by
  unfold ctB; rw [(kd_Me i hi).1]; rfl
theorem g_Me {ad : Nat → Nat} {kk : Nat → ClassId} {σ : St} {i : Nat} (hi : i < 12) : (wB ad kk σ)[pMe i]? = some (ad (pMe i), .inr (1, fMe ad σ (pMe i))) := wL_at (kd_Me i hi).2 (ct_Me hi)
theorem s_Me_2 {ad : Nat → Nat} {kk : Nat → ClassId} {σ : St} {i : Nat} (hi : i < 12) {v : Int32} : (wB ad kk σ).set (pMe i) (ad (pMe i), .inr (1, (fMe ad σ (pMe i)).set 2 (.int v))) = wB ad kk (sF σ (pMe i) 2 v) :=
  wB_set (kd_Me i hi).2 (by rw [ct_Me hi]; simp [fMe, gF_sF, gL_sF]) (fun j hj => same_sF hj)
theorem s_Me_3 {ad : Nat → Nat} {kk : Nat → ClassId} {σ : St} {i : Nat} (hi : i < 12) {v : Int32} : (wB ad kk σ).set (pMe i) (ad (pMe i), .inr (1, (fMe ad σ (pMe i)).set 3 (.int v))) = wB ad kk (sF σ (pMe i) 3 v) :=
  wB_set (kd_Me i hi).2 (by rw [ct_Me hi]; simp [fMe, gF_sF, gL_sF]) (fun j hj => same_sF hj)
theorem s_Me_4 {ad : Nat → Nat} {kk : Nat → ClassId} {σ : St} {i : Nat} (hi : i < 12) {v : Int32} : (wB ad kk σ).set (pMe i) (ad (pMe i), .inr (1, (fMe ad σ (pMe i)).set 4 (.int v))) = wB ad kk (sF σ (pMe i) 4 v) :=
  wB_set (kd_Me i hi).2 (by rw [ct_Me hi]; simp [fMe, gF_sF, gL_sF]) (fun j hj => same_sF hj)
theorem s_Me_5 {ad : Nat → Nat} {kk : Nat → ClassId} {σ : St} {i : Nat} (hi : i < 12) {v : Int32} : (wB ad kk σ).set (pMe i) (ad (pMe i), .inr (1, (fMe ad σ (pMe i)).set 5 (.int v))) = wB ad kk (sF σ (pMe i) 5 v) :=
  wB_set (kd_Me i hi).2 (by rw [ct_Me hi]; simp [fMe, gF_sF, gL_sF]) (fun j hj => same_sF hj)
theorem s_Me_6 {ad : Nat → Nat} {kk : Nat → ClassId} {σ : St} {i : Nat} (hi : i < 12) {v : Int32} : (wB ad kk σ).set (pMe i) (ad (pMe i), .inr (1, (fMe ad σ (pMe i)).set 6 (.int v))) = wB ad kk (sF σ (pMe i) 6 v) :=
  wB_set (kd_Me i hi).2 (by rw [ct_Me hi]; simp [fMe, gF_sF, gL_sF]) (fun j hj => same_sF hj)
theorem s_Me_7 {ad : Nat → Nat} {kk : Nat → ClassId} {σ : St} {i : Nat} (hi : i < 12) {v : Int32} : (wB ad kk σ).set (pMe i) (ad (pMe i), .inr (1, (fMe ad σ (pMe i)).set 7 (.int v))) = wB ad kk (sF σ (pMe i) 7 v) :=
  wB_set (kd_Me i hi).2 (by rw [ct_Me hi]; simp [fMe, gF_sF, gL_sF]) (fun j hj => same_sF hj)
theorem s_Me_8 {ad : Nat → Nat} {kk : Nat → ClassId} {σ : St} {i : Nat} (hi : i < 12) {v : Int32} : (wB ad kk σ).set (pMe i) (ad (pMe i), .inr (1, (fMe ad σ (pMe i)).set 8 (.int v))) = wB ad kk (sF σ (pMe i) 8 v) :=
  wB_set (kd_Me i hi).2 (by rw [ct_Me hi]; simp [fMe, gF_sF, gL_sF]) (fun j hj => same_sF hj)
theorem kd_Pi : ∀ i, i < 10 → kdB (pPi i) = 7 ∧ pPi i < 96 := by decide
theorem ct_Pi {ad : Nat → Nat} {kk : Nat → ClassId} {σ : St} {i : Nat} (hi : i < 10) : ctB ad kk σ (pPi i) = .inr (3, fPi ad σ (pPi i)) := by
  unfold ctB; rw [(kd_Pi i hi).1]; rfl
theorem g_Pi {ad : Nat → Nat} {kk : Nat → ClassId} {σ : St} {i : Nat} (hi : i < 10) : (wB ad kk σ)[pPi i]? = some (ad (pPi i), .inr (3, fPi ad σ (pPi i))) := wL_at (kd_Pi i hi).2 (ct_Pi hi)
theorem s_Pi_3 {ad : Nat → Nat} {kk : Nat → ClassId} {σ : St} {i : Nat} (hi : i < 10) {v : Int32} : (wB ad kk σ).set (pPi i) (ad (pPi i), .inr (3, (fPi ad σ (pPi i)).set 3 (.int v))) = wB ad kk (sF σ (pPi i) 3 v) :=
  wB_set (kd_Pi i hi).2 (by rw [ct_Pi hi]; simp [fPi, gF_sF, gL_sF]) (fun j hj => same_sF hj)
theorem s_Pi_4 {ad : Nat → Nat} {kk : Nat → ClassId} {σ : St} {i : Nat} (hi : i < 10) {v : Int32} : (wB ad kk σ).set (pPi i) (ad (pPi i), .inr (3, (fPi ad σ (pPi i)).set 4 (.int v))) = wB ad kk (sF σ (pPi i) 4 v) :=
  wB_set (kd_Pi i hi).2 (by rw [ct_Pi hi]; simp [fPi, gF_sF, gL_sF]) (fun j hj => same_sF hj)
theorem s_Pi_5 {ad : Nat → Nat} {kk : Nat → ClassId} {σ : St} {i : Nat} (hi : i < 10) {v : Int32} : (wB ad kk σ).set (pPi i) (ad (pPi i), .inr (3, (fPi ad σ (pPi i)).set 5 (.int v))) = wB ad kk (sF σ (pPi i) 5 v) :=
  wB_set (kd_Pi i hi).2 (by rw [ct_Pi hi]; simp [fPi, gF_sF, gL_sF]) (fun j hj => same_sF hj)
theorem s_Pi_6 {ad : Nat → Nat} {kk : Nat → ClassId} {σ : St} {i : Nat} (hi : i < 10) {v : Int32} : (wB ad kk σ).set (pPi i) (ad (pPi i), .inr (3, (fPi ad σ (pPi i)).set 6 (.int v))) = wB ad kk (sF σ (pPi i) 6 v) :=
  wB_set (kd_Pi i hi).2 (by rw [ct_Pi hi]; simp [fPi, gF_sF, gL_sF]) (fun j hj => same_sF hj)
theorem s_Pi_7 {ad : Nat → Nat} {kk : Nat → ClassId} {σ : St} {i : Nat} (hi : i < 10) {v : Int32} : (wB ad kk σ).set (pPi i) (ad (pPi i), .inr (3, (fPi ad σ (pPi i)).set 7 (.int v))) = wB ad kk (sF σ (pPi i) 7 v) :=
  wB_set (kd_Pi i hi).2 (by rw [ct_Pi hi]; simp [fPi, gF_sF, gL_sF]) (fun j hj => same_sF hj)
theorem kd_Go : ∀ i, i < 12 → kdB (pGo i) = 11 ∧ pGo i < 96 := by decide
theorem ct_Go {ad : Nat → Nat} {kk : Nat → ClassId} {σ : St} {i : Nat} (hi : i < 12) : ctB ad kk σ (pGo i) = .inr (0, fGo ad σ (pGo i)) := by
  unfold ctB; rw [(kd_Go i hi).1]; rfl
theorem g_Go {ad : Nat → Nat} {kk : Nat → ClassId} {σ : St} {i : Nat} (hi : i < 12) : (wB ad kk σ)[pGo i]? = some (ad (pGo i), .inr (0, fGo ad σ (pGo i))) := wL_at (kd_Go i hi).2 (ct_Go hi)
theorem s_Go_0 {ad : Nat → Nat} {kk : Nat → ClassId} {σ : St} {i : Nat} (hi : i < 12) {v : Int32} : (wB ad kk σ).set (pGo i) (ad (pGo i), .inr (0, (fGo ad σ (pGo i)).set 0 (.int v))) = wB ad kk (sF σ (pGo i) 0 v) :=
  wB_set (kd_Go i hi).2 (by rw [ct_Go hi]; simp [fGo, gF_sF, gL_sF]) (fun j hj => same_sF hj)
theorem s_Go_1 {ad : Nat → Nat} {kk : Nat → ClassId} {σ : St} {i : Nat} (hi : i < 12) {v : Int64} : (wB ad kk σ).set (pGo i) (ad (pGo i), .inr (0, (fGo ad σ (pGo i)).set 1 (.long v))) = wB ad kk (sL σ (pGo i) 1 v) :=
  wB_set (kd_Go i hi).2 (by rw [ct_Go hi]; simp [fGo, gF_sL, gL_sL]) (fun j hj => same_sL hj)
theorem s_Go_2 {ad : Nat → Nat} {kk : Nat → ClassId} {σ : St} {i : Nat} (hi : i < 12) {v : Int64} : (wB ad kk σ).set (pGo i) (ad (pGo i), .inr (0, (fGo ad σ (pGo i)).set 2 (.long v))) = wB ad kk (sL σ (pGo i) 2 v) :=
  wB_set (kd_Go i hi).2 (by rw [ct_Go hi]; simp [fGo, gF_sL, gL_sL]) (fun j hj => same_sL hj)
theorem s_Go_3 {ad : Nat → Nat} {kk : Nat → ClassId} {σ : St} {i : Nat} (hi : i < 12) {v : Int32} : (wB ad kk σ).set (pGo i) (ad (pGo i), .inr (0, (fGo ad σ (pGo i)).set 3 (.int v))) = wB ad kk (sF σ (pGo i) 3 v) :=
  wB_set (kd_Go i hi).2 (by rw [ct_Go hi]; simp [fGo, gF_sF, gL_sF]) (fun j hj => same_sF hj)
theorem s_Go_4 {ad : Nat → Nat} {kk : Nat → ClassId} {σ : St} {i : Nat} (hi : i < 12) {v : Int32} : (wB ad kk σ).set (pGo i) (ad (pGo i), .inr (0, (fGo ad σ (pGo i)).set 4 (.int v))) = wB ad kk (sF σ (pGo i) 4 v) :=
  wB_set (kd_Go i hi).2 (by rw [ct_Go hi]; simp [fGo, gF_sF, gL_sF]) (fun j hj => same_sF hj)
theorem ct_signs {ad : Nat → Nat} {kk : Nat → ClassId} {σ : St} : ctB ad kk σ 2 = .inl (kk 0, 50, .inl (gA σ 2)) := by
  unfold ctB; rw [(by decide : kdB 2 = 2)]; rfl
theorem g_signs {ad : Nat → Nat} {kk : Nat → ClassId} {σ : St} : (wB ad kk σ)[2]? = some (ad 2, .inl (kk 0, 50, .inl (gA σ 2))) := wL_at (by decide) (ct_signs)
theorem s_signs {ad : Nat → Nat} {kk : Nat → ClassId} {σ : St} {j : Nat} {v : Int32} : (wB ad kk σ).set 2 (ad 2, .inl (kk 0, 50, .inl (upd (gA σ 2) j v))) = wB ad kk (sA σ 2 j v) :=
  wB_set (by decide) (by rw [ct_signs, gA_upd]) (fun j hj => same_sA hj)
theorem kd_Ma : ∀ i, i < 12 → kdB (pMe i + 1) = 5 ∧ pMe i + 1 < 96 := by decide
theorem ct_Ma {ad : Nat → Nat} {kk : Nat → ClassId} {σ : St} {i : Nat} (hi : i < 12) : ctB ad kk σ (pMe i + 1) = .inl (kk 0, 12, .inl (gA σ (pMe i + 1))) := by
  unfold ctB; rw [(kd_Ma i hi).1]; rfl
theorem g_Ma {ad : Nat → Nat} {kk : Nat → ClassId} {σ : St} {i : Nat} (hi : i < 12) : (wB ad kk σ)[pMe i + 1]? = some (ad (pMe i + 1), .inl (kk 0, 12, .inl (gA σ (pMe i + 1)))) := wL_at (kd_Ma i hi).2 (ct_Ma hi)
theorem s_Ma {ad : Nat → Nat} {kk : Nat → ClassId} {σ : St} {i : Nat} (hi : i < 12) {j : Nat} {v : Int32} : (wB ad kk σ).set (pMe i + 1) (ad (pMe i + 1), .inl (kk 0, 12, .inl (upd (gA σ (pMe i + 1)) j v))) = wB ad kk (sA σ (pMe i + 1) j v) :=
  wB_set (kd_Ma i hi).2 (by rw [ct_Ma hi, gA_upd]) (fun j hj => same_sA hj)
theorem kd_Mh : ∀ i, i < 12 → kdB (pMe i + 2) = 5 ∧ pMe i + 2 < 96 := by decide
theorem ct_Mh {ad : Nat → Nat} {kk : Nat → ClassId} {σ : St} {i : Nat} (hi : i < 12) : ctB ad kk σ (pMe i + 2) = .inl (kk 0, 12, .inl (gA σ (pMe i + 2))) := by
  unfold ctB; rw [(kd_Mh i hi).1]; rfl
theorem g_Mh {ad : Nat → Nat} {kk : Nat → ClassId} {σ : St} {i : Nat} (hi : i < 12) : (wB ad kk σ)[pMe i + 2]? = some (ad (pMe i + 2), .inl (kk 0, 12, .inl (gA σ (pMe i + 2)))) := wL_at (kd_Mh i hi).2 (ct_Mh hi)
theorem s_Mh {ad : Nat → Nat} {kk : Nat → ClassId} {σ : St} {i : Nat} (hi : i < 12) {j : Nat} {v : Int32} : (wB ad kk σ).set (pMe i + 2) (ad (pMe i + 2), .inl (kk 0, 12, .inl (upd (gA σ (pMe i + 2)) j v))) = wB ad kk (sA σ (pMe i + 2) j v) :=
  wB_set (kd_Mh i hi).2 (by rw [ct_Mh hi, gA_upd]) (fun j hj => same_sA hj)
theorem kd_Pp : ∀ i, i < 10 → kdB (pPi i + 1) = 8 ∧ pPi i + 1 < 96 := by decide
theorem ct_Pp {ad : Nat → Nat} {kk : Nat → ClassId} {σ : St} {i : Nat} (hi : i < 10) : ctB ad kk σ (pPi i + 1) = .inl (kk 0, 8, .inl (gA σ (pPi i + 1))) := by
  unfold ctB; rw [(kd_Pp i hi).1]; rfl
theorem g_Pp {ad : Nat → Nat} {kk : Nat → ClassId} {σ : St} {i : Nat} (hi : i < 10) : (wB ad kk σ)[pPi i + 1]? = some (ad (pPi i + 1), .inl (kk 0, 8, .inl (gA σ (pPi i + 1)))) := wL_at (kd_Pp i hi).2 (ct_Pp hi)
theorem s_Pp {ad : Nat → Nat} {kk : Nat → ClassId} {σ : St} {i : Nat} (hi : i < 10) {j : Nat} {v : Int32} : (wB ad kk σ).set (pPi i + 1) (ad (pPi i + 1), .inl (kk 0, 8, .inl (upd (gA σ (pPi i + 1)) j v))) = wB ad kk (sA σ (pPi i + 1) j v) :=
  wB_set (kd_Pp i hi).2 (by rw [ct_Pp hi, gA_upd]) (fun j hj => same_sA hj)
theorem kd_Pr : ∀ i, i < 10 → kdB (pPi i + 2) = 9 ∧ pPi i + 2 < 96 := by decide
theorem ct_Pr {ad : Nat → Nat} {kk : Nat → ClassId} {σ : St} {i : Nat} (hi : i < 10) : ctB ad kk σ (pPi i + 2) = .inl (kk 0, 120, .inl (gA σ (pPi i + 2))) := by
  unfold ctB; rw [(kd_Pr i hi).1]; rfl
theorem g_Pr {ad : Nat → Nat} {kk : Nat → ClassId} {σ : St} {i : Nat} (hi : i < 10) : (wB ad kk σ)[pPi i + 2]? = some (ad (pPi i + 2), .inl (kk 0, 120, .inl (gA σ (pPi i + 2)))) := wL_at (kd_Pr i hi).2 (ct_Pr hi)
theorem s_Pr {ad : Nat → Nat} {kk : Nat → ClassId} {σ : St} {i : Nat} (hi : i < 10) {j : Nat} {v : Int32} : (wB ad kk σ).set (pPi i + 2) (ad (pPi i + 2), .inl (kk 0, 120, .inl (upd (gA σ (pPi i + 2)) j v))) = wB ad kk (sA σ (pPi i + 2) j v) :=
  wB_set (kd_Pr i hi).2 (by rw [ct_Pr hi, gA_upd]) (fun j hj => same_sA hj)
theorem kd_Pl : ∀ i, i < 10 → kdB (pPi i + 3) = 5 ∧ pPi i + 3 < 96 := by decide
theorem ct_Pl {ad : Nat → Nat} {kk : Nat → ClassId} {σ : St} {i : Nat} (hi : i < 10) : ctB ad kk σ (pPi i + 3) = .inl (kk 0, 12, .inl (gA σ (pPi i + 3))) := by
  unfold ctB; rw [(kd_Pl i hi).1]; rfl
theorem g_Pl {ad : Nat → Nat} {kk : Nat → ClassId} {σ : St} {i : Nat} (hi : i < 10) : (wB ad kk σ)[pPi i + 3]? = some (ad (pPi i + 3), .inl (kk 0, 12, .inl (gA σ (pPi i + 3)))) := wL_at (kd_Pl i hi).2 (ct_Pl hi)
theorem s_Pl {ad : Nat → Nat} {kk : Nat → ClassId} {σ : St} {i : Nat} (hi : i < 10) {j : Nat} {v : Int32} : (wB ad kk σ).set (pPi i + 3) (ad (pPi i + 3), .inl (kk 0, 12, .inl (upd (gA σ (pPi i + 3)) j v))) = wB ad kk (sA σ (pPi i + 3) j v) :=
  wB_set (kd_Pl i hi).2 (by rw [ct_Pl hi, gA_upd]) (fun j hj => same_sA hj)
theorem ct_planned {ad : Nat → Nat} {kk : Nat → ClassId} {σ : St} : ctB ad kk σ 94 = .inl (kk 0, 10, .inl (gA σ 94)) := by
  unfold ctB; rw [(by decide : kdB 94 = 12)]; rfl
theorem g_planned {ad : Nat → Nat} {kk : Nat → ClassId} {σ : St} : (wB ad kk σ)[94]? = some (ad 94, .inl (kk 0, 10, .inl (gA σ 94))) := wL_at (by decide) (ct_planned)
theorem s_planned {ad : Nat → Nat} {kk : Nat → ClassId} {σ : St} {j : Nat} {v : Int32} : (wB ad kk σ).set 94 (ad 94, .inl (kk 0, 10, .inl (upd (gA σ 94) j v))) = wB ad kk (sA σ 94 j v) :=
  wB_set (by decide) (by rw [ct_planned, gA_upd]) (fun j hj => same_sA hj)
theorem ct_draft {ad : Nat → Nat} {kk : Nat → ClassId} {σ : St} : ctB ad kk σ 95 = .inl (kk 0, 10, .inl (gA σ 95)) := by
  unfold ctB; rw [(by decide : kdB 95 = 12)]; rfl
theorem g_draft {ad : Nat → Nat} {kk : Nat → ClassId} {σ : St} : (wB ad kk σ)[95]? = some (ad 95, .inl (kk 0, 10, .inl (gA σ 95))) := wL_at (by decide) (ct_draft)
theorem s_draft {ad : Nat → Nat} {kk : Nat → ClassId} {σ : St} {j : Nat} {v : Int32} : (wB ad kk σ).set 95 (ad 95, .inl (kk 0, 10, .inl (upd (gA σ 95) j v))) = wB ad kk (sA σ 95 j v) :=
  wB_set (by decide) (by rw [ct_draft, gA_upd]) (fun j hj => same_sA hj)
theorem g_methods {ad : Nat → Nat} {kk : Nat → ClassId} {σ : St} : (wB ad kk σ)[3]? = some (ad 3, .inl (kk 1, 12, .inr (.inr (.inr (.inr (fun j => some (ad (pMe j)))))))) := wL_at (by decide) (by unfold ctB; rw [(by decide : kdB 3 = 3)]; rfl)
theorem g_pieces {ad : Nat → Nat} {kk : Nat → ClassId} {σ : St} : (wB ad kk σ)[40]? = some (ad 40, .inl (kk 2, 10, .inr (.inr (.inr (.inr (fun j => some (ad (pPi j)))))))) := wL_at (by decide) (by unfold ctB; rw [(by decide : kdB 40 = 6)]; rfl)
theorem g_goods {ad : Nat → Nat} {kk : Nat → ClassId} {σ : St} : (wB ad kk σ)[81]? = some (ad 81, .inl (kk 3, 12, .inr (.inr (.inr (.inr (fun j => some (ad (pGo j)))))))) := wL_at (by decide) (by unfold ctB; rw [(by decide : kdB 81 = 10)]; rfl)
theorem s_cp_draft_planned {ad : Nat → Nat} {kk : Nat → ClassId} {σ : St} {sp dp n : Nat} : (wB ad kk σ).set 94 (ad 94, .inl (kk 0, 10, .inl (va_cpy (gA σ 95) (gA σ 94) sp dp n))) = wB ad kk (cpA σ 95 94 sp dp n) :=
  wB_set (by decide) (by rw [ct_planned]; rfl) (fun j hj => ⟨fun _ => rfl, fun _ => rfl, show (if j = 94 then va_cpy (σ.2.2 95) (σ.2.2 94) sp dp n else σ.2.2 j) = σ.2.2 j from if_neg hj⟩)
